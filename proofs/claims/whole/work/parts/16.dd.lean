/-! ===== PURE: all of least support, one of each: how they go on from a column to the next ===== -/
/-- the members 0 .. c-1 of W are all that are of least support, each once -/
def DD (n : Nat) (A : Nat → Nat → Rat) (t c : Nat) (W : Nat → Nat → Rat) : Prop :=
  (∀ r, r < c → Mn n A t (W r)) ∧ (∀ r r', r < c → r' < c → Sb n (W r) (W r') → r = r') ∧ ∀ w, Cn n A t w → Nz n w → ∃ r, r < c ∧ Sb n (W r) w
/-- of a and b no other member lies within what both have -/
def Bes (n c : Nat) (W : Nat → Nat → Rat) (a b : Nat) : Prop := ∀ k, k < c → k ≠ a → k ≠ b → ¬ ∀ x, x < n → 0 < W k x → 0 < W a x ∨ 0 < W b x
/-- what a member makes of column t -/
def va (n : Nat) (A : Nat → Nat → Rat) (t : Nat) (w : Nat → Rat) : Rat := sm n (fun k => w k * A k t)
theorem va_lin (n : Nat) (A : Nat → Nat → Rat) (t : Nat) (a b : Rat) (w w' : Nat → Rat) : va n A t (fun k => a * w k + b * w' k) = a * va n A t w + b * va n A t w' := by
  unfold va
  rw [← sm_mul, ← sm_mul, ← sm_add]
  exact sm_congr (fun k _ => by grind)
theorem Cn.next {n : Nat} {A : Nat → Nat → Rat} {t : Nat} {w : Nat → Rat} (h : Cn n A t w) (hv : va n A t w = 0) : Cn n A (t + 1) w := ⟨h.1, fun j hj => by
  by_cases q : j = t
  · subst q; exact hv
  · exact h.2 j (by omega)⟩
theorem Cn.prev {n : Nat} {A : Nat → Nat → Rat} {t : Nat} {w : Nat → Rat} (h : Cn n A (t + 1) w) : Cn n A t w ∧ va n A t w = 0 := ⟨⟨h.1, fun j hj => h.2 j (by omega)⟩, h.2 t (by omega)⟩
/-- every vector of the cone is made of the members within it -/
theorem DD.gen {n : Nat} {A : Nat → Nat → Rat} {t c : Nat} {W : Nat → Nat → Rat} (h : DD n A t c W) : ∀ (d : Nat) (w : Nat → Rat), sz w n ≤ d → Cn n A t w → ∃ g : Nat → Rat, (∀ r, r < c → 0 ≤ g r) ∧ (∀ k, k < n → w k = sm c (fun r => g r * W r k)) ∧ ∀ r, r < c → 0 < g r → Sb n (W r) w := by
  intro d
  induction d with
  | zero =>
    intro w hd hw
    refine ⟨fun _ => 0, fun _ _ => by grind, fun k hk => ?_, fun r _ q => by simp at q⟩
    rw [sm_zero (fun r _ => by grind)]
    have h1 := hw.1 k hk
    have h2 : ¬ 0 < w k := fun q => by
      have := sz_lt (w := fun _ => 0) (w' := w) (n := n) (fun k _ q => by simp at q) ⟨k, hk, q, by simp⟩
      omega
    grind
  | succ d ih =>
    intro w hd hw
    by_cases hz : Nz n w
    · obtain ⟨r, hr, hs⟩ := h.2.2 w hw hz
      obtain ⟨y, hy, hc, k0, hk0, hp0, he0⟩ := reduce hw (h.1 r hr).1 (h.1 r hr).2.1 hs
      have hsub : Sb n (fun k => w k - y * W r k) w := fun j hj q => by
        have h1 := Rat.mul_nonneg (Rat.le_of_lt hy) ((h.1 r hr).1.1 j hj)
        grind
      have hlt : sz (fun k => w k - y * W r k) n < sz w n := sz_lt hsub ⟨k0, hk0, hs k0 hk0 hp0, by simp only [he0]; grind⟩
      obtain ⟨g, g1, g2, g3⟩ := ih _ (by omega) hc
      refine ⟨fun i => if i = r then g r + y else g i, fun i hi => ?_, fun k hk => ?_, fun i hi q => ?_⟩
      · have := g1 i hi
        by_cases e : i = r
        · subst e; simp; grind
        · simp [e]; exact this
      · have h1 := g2 k hk
        have h2 : sm c (fun i => (if i = r then g r + y else g i) * W i k) = sm c (fun i => g i * W i k + (if i = r then y * W r k else 0)) := sm_congr (fun i _ => by
          by_cases e : i = r
          · subst e; simp; grind
          · simp [e]; grind)
        rw [h2, sm_add, sm_one (f := fun i => if i = r then y * W r k else 0) hr (fun j _ hj => by simp [hj])]
        simp only [if_true]
        grind
      · by_cases e : i = r
        · subst e; exact hs
        · simp [e] at q
          exact (g3 i hi q).tr hsub
    · refine ⟨fun _ => 0, fun _ _ => by grind, fun k hk => ?_, fun r _ q => by simp at q⟩
      rw [sm_zero (fun r _ => by grind)]
      have h1 := hw.1 k hk
      have h2 : ¬ 0 < w k := fun q => hz ⟨k, hk, q⟩
      grind
/-- two beside each other, of either side: what they make together is of least support in the next cone -/
theorem DD.pair {n : Nat} {A : Nat → Nat → Rat} {t c : Nat} {W : Nat → Nat → Rat} (h : DD n A t c W) {a b : Nat} (ha : a < c) (hb : b < c) (hva : 0 < va n A t (W a)) (hvb : va n A t (W b) < 0) (hB : Bes n c W a b) {s : Rat} (hs : 0 < s) :
    Mn n A (t + 1) (fun k => s * ((-va n A t (W b)) * W a k + va n A t (W a) * W b k)) := by
  have hab : a ≠ b := fun q => by subst q; grind
  have hq : 0 < -va n A t (W b) := by grind
  have hpos : ∀ k, k < n → (0 < W a k ∨ 0 < W b k) → 0 < s * ((-va n A t (W b)) * W a k + va n A t (W a) * W b k) := fun k hk q => by
    have h1 := Rat.mul_nonneg (Rat.le_of_lt hq) ((h.1 a ha).1.1 k hk)
    have h2 := Rat.mul_nonneg (Rat.le_of_lt hva) ((h.1 b hb).1.1 k hk)
    refine Rat.mul_pos hs ?_
    rcases q with q | q
    · have := Rat.mul_pos hq q; grind
    · have := Rat.mul_pos hva q; grind
  have hneg : ∀ k, k < n → 0 < s * ((-va n A t (W b)) * W a k + va n A t (W a) * W b k) → 0 < W a k ∨ 0 < W b k := fun k hk q => by
    apply Classical.byContradiction
    intro q2
    have h1 := (h.1 a ha).1.1 k hk
    have h2 := (h.1 b hb).1.1 k hk
    have h3 : W a k = 0 := by have : ¬ 0 < W a k := fun q3 => q2 (Or.inl q3)
                              grind
    have h4 : W b k = 0 := by have : ¬ 0 < W b k := fun q3 => q2 (Or.inr q3)
                              grind
    rw [h3, h4] at q
    grind
  have hC0 : Cn n A t (fun k => s * ((-va n A t (W b)) * W a k + va n A t (W a) * W b k)) := by
    have := Cn.add (h.1 a ha).1 (h.1 b hb).1 (a := s * (-va n A t (W b))) (b := s * va n A t (W a)) (Rat.le_of_lt (Rat.mul_pos hs hq)) (Rat.le_of_lt (Rat.mul_pos hs hva))
    rw [show (fun k => s * ((-va n A t (W b)) * W a k + va n A t (W a) * W b k)) = (fun k => s * (-va n A t (W b)) * W a k + s * va n A t (W a) * W b k) from funext fun k => by grind]
    exact this
  refine ⟨hC0.next ?_, ?_, fun w' hw' hz hsub => ?_⟩
  · rw [show (fun k => s * ((-va n A t (W b)) * W a k + va n A t (W a) * W b k)) = (fun k => s * (-va n A t (W b)) * W a k + s * va n A t (W a) * W b k) from funext fun k => by grind, va_lin]
    grind
  · obtain ⟨k, hk, hp⟩ := (h.1 a ha).2.1
    exact ⟨k, hk, hpos k hk (Or.inl hp)⟩
  · obtain ⟨hw, hv⟩ := hw'.prev
    obtain ⟨g, g1, g2, g3⟩ := h.gen (sz w' n) w' (Nat.le_refl _) hw
    -- only a and b have a share
    have hg : ∀ r, r < c → r ≠ a → r ≠ b → g r = 0 := fun r hr e1 e2 => by
      apply Classical.byContradiction
      intro q
      have := g1 r hr
      have hgr : 0 < g r := by grind
      refine hB r hr e1 e2 fun x hx hp => hneg x hx (hsub x hx (g3 r hr hgr x hx hp))
    have hw2 : ∀ k, k < n → w' k = g a * W a k + g b * W b k := fun k hk => by
      rw [g2 k hk, sm_split ha (fun r => if r = a then 0 else g r * W r k) (fun i _ hi => by simp [hi]) (by simp)]
      rw [sm_one hb (fun j hj hjb => by
        by_cases e : j = a
        · simp [e]
        · simp [e]; rw [hg j hj e hjb]; grind)]
      show (if b = a then 0 else g b * W b k) + g a * W a k = _
      rw [if_neg (fun q : b = a => hab q.symm)]
      grind
    have hv2 : g a * va n A t (W a) + g b * va n A t (W b) = 0 := by
      rw [← va_lin, ← hv]
      unfold va
      exact sm_congr (fun k hk => by rw [hw2 k hk])
    have hga := g1 a ha
    have hgb := g1 b hb
    have hga2 : 0 < g a := by
      apply Classical.byContradiction
      intro q
      have e1 : g a = 0 := by grind
      have e2 : g b = 0 := by
        apply Classical.byContradiction
        intro q2
        have := Rat.mul_pos (show 0 < g b by grind) hq
        grind
      obtain ⟨k, hk, hp⟩ := hz
      rw [hw2 k hk, e1, e2] at hp
      grind
    have hgb2 : 0 < g b := by
      apply Classical.byContradiction
      intro q
      have e2 : g b = 0 := by grind
      have := Rat.mul_pos hga2 hva
      rw [e2] at hv2
      grind
    intro k hk hp
    rw [hw2 k hk]
    have h1 := Rat.mul_nonneg hga ((h.1 a ha).1.1 k hk)
    have h2 := Rat.mul_nonneg hgb ((h.1 b hb).1.1 k hk)
    rcases hneg k hk hp with q | q
    · have := Rat.mul_pos hga2 q; grind
    · have := Rat.mul_pos hgb2 q; grind
/-- from a column to the next: those that make 0 of it stay, and of the others each two beside each other, of either side, make one -/
theorem DD.step {n : Nat} {A : Nat → Nat → Rat} {t c c' : Nat} {W W' : Nat → Nat → Rat} (h : DD n A t c W) (src : Nat → Nat × Nat)
    (hinj : ∀ r r', r < c' → r' < c' → src r = src r' → r = r')
    (hall : ∀ r, r < c' → ((src r).1 = (src r).2 ∧ (src r).1 < c ∧ va n A t (W (src r).1) = 0 ∧ ∀ k, k < n → W' r k = W (src r).1 k) ∨ ((src r).1 < c ∧ (src r).2 < c ∧ 0 < va n A t (W (src r).1) ∧ va n A t (W (src r).2) < 0 ∧ Bes n c W (src r).1 (src r).2 ∧ ∃ s : Rat, 0 < s ∧ ∀ k, k < n → W' r k = s * ((-va n A t (W (src r).2)) * W (src r).1 k + va n A t (W (src r).1) * W (src r).2 k)))
    (hc0 : ∀ a, a < c → va n A t (W a) = 0 → ∃ r, r < c' ∧ src r = (a, a))
    (hc1 : ∀ a b, a < c → b < c → 0 < va n A t (W a) → va n A t (W b) < 0 → Bes n c W a b → ∃ r, r < c' ∧ src r = (a, b)) :
    DD n A (t + 1) c' W' := by
  have Mcongr : ∀ w w' : Nat → Rat, (∀ k, k < n → w' k = w k) → Mn n A (t + 1) w → Mn n A (t + 1) w' := by
    intro w w' e hm
    refine ⟨⟨fun k hk => by rw [e k hk]; exact hm.1.1 k hk, fun j hj => by rw [← hm.1.2 j hj]; exact sm_congr (fun k hk => by rw [e k hk])⟩, ?_, fun v hv hz hs k hk hp => ?_⟩
    · obtain ⟨k, hk, hp⟩ := hm.2.1
      exact ⟨k, hk, by rw [e k hk]; exact hp⟩
    · refine hm.2.2 v hv hz (fun j hj q => by rw [← e j hj]; exact hs j hj q) k hk (by rw [← e k hk]; exact hp)
  have M0 : ∀ a, a < c → va n A t (W a) = 0 → Mn n A (t + 1) (W a) := fun a ha hv => ⟨(h.1 a ha).1.next hv, (h.1 a ha).2.1, fun w' hw' hz hs => (h.1 a ha).2.2 w' hw'.prev.1 hz hs⟩
  have hM : ∀ r, r < c' → Mn n A (t + 1) (W' r) := by
    intro r hr
    rcases hall r hr with ⟨_, h2, h3, h4⟩ | ⟨h1, h2, h3, h4, h5, s, hs, h6⟩
    · exact Mcongr _ _ h4 (M0 _ h2 h3)
    · exact Mcongr _ _ h6 (h.pair h1 h2 h3 h4 h5 hs)
  -- the members of the elder family that lie within a new one
  have hin : ∀ r, r < c' → ∀ a, a < c → Sb n (W a) (W' r) → a = (src r).1 ∨ a = (src r).2 := by
    intro r hr a ha hs
    rcases hall r hr with ⟨_, h2, h3, h4⟩ | ⟨h1, h2, h3, h4, h5, s, hs0, h6⟩
    · exact Or.inl (h.2.1 a _ ha h2 (fun k hk q => by rw [← h4 k hk]; exact hs k hk q))
    · apply Classical.byContradiction
      intro q
      refine h5 a ha (fun e => q (Or.inl e)) (fun e => q (Or.inr e)) fun x hx hp => ?_
      have h7 := hs x hx hp
      rw [h6 x hx] at h7
      apply Classical.byContradiction
      intro q2
      have g1 := (h.1 _ h1).1.1 x hx
      have g2 := (h.1 _ h2).1.1 x hx
      have g3 : W (src r).1 x = 0 := by have : ¬ 0 < W (src r).1 x := fun q3 => q2 (Or.inl q3)
                                        grind
      have g4 : W (src r).2 x = 0 := by have : ¬ 0 < W (src r).2 x := fun q3 => q2 (Or.inr q3)
                                        grind
      rw [g3, g4] at h7
      grind
  -- a new one holds what it is made of
  have hof : ∀ r, r < c' → Sb n (W (src r).1) (W' r) ∧ Sb n (W (src r).2) (W' r) := by
    intro r hr
    rcases hall r hr with ⟨h1, h2, h3, h4⟩ | ⟨h1, h2, h3, h4, h5, s, hs0, h6⟩
    · rw [← h1]
      exact ⟨fun k hk q => by rw [h4 k hk]; exact q, fun k hk q => by rw [h4 k hk]; exact q⟩
    · have hq : 0 < -va n A t (W (src r).2) := by grind
      refine ⟨fun k hk q => ?_, fun k hk q => ?_⟩
      · rw [h6 k hk]
        have g1 := Rat.mul_pos hq q
        have g2 := Rat.mul_nonneg (Rat.le_of_lt h3) ((h.1 _ h2).1.1 k hk)
        exact Rat.mul_pos hs0 (by grind)
      · rw [h6 k hk]
        have g1 := Rat.mul_pos h3 q
        have g2 := Rat.mul_nonneg (Rat.le_of_lt hq) ((h.1 _ h1).1.1 k hk)
        exact Rat.mul_pos hs0 (by grind)
  refine ⟨hM, fun r r' hr hr' hs => ?_, fun w hw hz => ?_⟩
  · -- which elder members lie within r lie within r'
    have s1 : (src r).1 < c ∧ (src r).2 < c := by
      rcases hall r hr with ⟨h1, h2, _⟩ | ⟨h1, h2, _⟩
      · exact ⟨h2, by rw [← h1]; exact h2⟩
      · exact ⟨h1, h2⟩
    have a1 := hin r' hr' _ s1.1 ((hof r hr).1.tr hs)
    have a2 := hin r' hr' _ s1.2 ((hof r hr).2.tr hs)
    apply hinj r r' hr hr'
    rcases hall r hr with ⟨h1, h2, h3, h4⟩ | ⟨h1, h2, h3, h4, h5, _⟩ <;> rcases hall r' hr' with ⟨g1, g2, g3, g4⟩ | ⟨g1, g2, g3, g4, g5, _⟩
    · refine Prod.ext ?_ ?_
      · rcases a1 with q | q
        · exact q
        · rw [q, g1]
      · rcases a2 with q | q
        · rw [q, g1]
        · exact q
    · exfalso
      rcases a1 with q | q
      · rw [← q, h3] at g3; grind
      · rw [← q, h3] at g4; grind
    · exfalso
      rcases a1 with q | q
      · rw [q, g3] at h3; grind
      · rw [q, ← g1, g3] at h3; grind
    · refine Prod.ext ?_ ?_
      · rcases a1 with q | q
        · exact q
        · rw [q] at h3; grind
      · rcases a2 with q | q
        · rw [q] at h4; grind
        · exact q
  · -- one of least support within w, and where it comes from
    obtain ⟨u, hu, hus⟩ := least_sup (sz w n) w (Nat.le_refl _) hw hz
    obtain ⟨huC, huv⟩ := hu.1.prev
    by_cases hx : ∃ a, a < c ∧ va n A t (W a) = 0 ∧ Sb n (W a) u
    · obtain ⟨a, ha, hv, hs⟩ := hx
      obtain ⟨r, hr, e⟩ := hc0 a ha hv
      refine ⟨r, hr, ?_⟩
      rcases hall r hr with ⟨_, h2, h3, h4⟩ | ⟨h1, h2, h3, h4, h5, _⟩
      · intro k hk q
        rw [h4 k hk, e] at q
        exact hus k hk (hs k hk q)
      · rw [e] at h3; simp only at h3; rw [hv] at h3; grind
    · have hnz : ∀ a, a < c → Sb n (W a) u → va n A t (W a) ≠ 0 := fun a ha hs e => hx ⟨a, ha, e, hs⟩
      obtain ⟨g, g1, g2, g3⟩ := h.gen (sz u n) u (Nat.le_refl _) huC
      have hsum : sm c (fun r => g r * va n A t (W r)) = 0 := by
        rw [← huv]
        unfold va
        rw [show sm n (fun k => u k * A k t) = sm n (fun k => sm c (fun r => g r * (W r k * A k t))) from sm_congr (fun k hk => by
          rw [g2 k hk, ← sm_mulr]; exact sm_congr (fun r _ => by grind))]
        rw [sm_swap]
        exact sm_congr (fun r _ => by rw [sm_mul])
      have hex : ∃ r, r < c ∧ 0 < g r := by
        apply Classical.byContradiction
        intro q
        obtain ⟨k, hk, hp⟩ := hu.2.1
        rw [g2 k hk, sm_zero (fun r hr => by
          have := g1 r hr
          have : g r = 0 := by have : ¬ 0 < g r := fun q2 => q ⟨r, hr, q2⟩
                               grind
          rw [this]; grind)] at hp
        grind
      have hpos : ∃ a, a < c ∧ 0 < g a ∧ 0 < va n A t (W a) := by
        apply Classical.byContradiction
        intro q
        have hle : ∀ r, r < c → 0 ≤ g r * (-va n A t (W r)) := fun r hr => by
          have q1 := g1 r hr
          by_cases q2 : 0 < g r
          · have q3 : ¬ 0 < va n A t (W r) := fun q3 => q ⟨r, hr, q2, q3⟩
            exact Rat.mul_nonneg q1 (by grind)
          · have : g r = 0 := by grind
            rw [this]; grind
        have h0 : sm c (fun r => g r * (-va n A t (W r))) ≤ 0 := by
          rw [show sm c (fun r => g r * (-va n A t (W r))) = sm c (fun r => (-1) * (g r * va n A t (W r))) from sm_congr (fun r _ => by grind), sm_mul, hsum]; grind
        obtain ⟨r, hr, hgr⟩ := hex
        have h1 := sm_nil hle h0 r hr
        have h2 := hnz r hr (g3 r hr hgr)
        have h3 : va n A t (W r) = 0 := by
          rcases Rat.mul_eq_zero.mp h1 with q9 | q9 <;> grind
        exact h2 h3
      have hneg : ∃ b, b < c ∧ 0 < g b ∧ va n A t (W b) < 0 := by
        apply Classical.byContradiction
        intro q
        have hle : ∀ r, r < c → 0 ≤ g r * va n A t (W r) := fun r hr => by
          have q1 := g1 r hr
          by_cases q2 : 0 < g r
          · have q3 : ¬ va n A t (W r) < 0 := fun q3 => q ⟨r, hr, q2, q3⟩
            exact Rat.mul_nonneg q1 (by grind)
          · have : g r = 0 := by grind
            rw [this]; grind
        obtain ⟨r, hr, hgr⟩ := hex
        have h1 := sm_nil hle (by rw [hsum]; grind) r hr
        have h2 := hnz r hr (g3 r hr hgr)
        have h3 : va n A t (W r) = 0 := by
          rcases Rat.mul_eq_zero.mp h1 with q9 | q9 <;> grind
        exact h2 h3
      obtain ⟨a, ha, hga, hva⟩ := hpos
      obtain ⟨b, hb, hgb, hvb⟩ := hneg
      have hsa := g3 a ha hga
      have hsb := g3 b hb hgb
      have hab : a ≠ b := fun q => by subst q; grind
      -- any two of either side within u make u
      have two : ∀ a b, a < c → b < c → 0 < va n A t (W a) → va n A t (W b) < 0 → Sb n (W a) u → Sb n (W b) u → ∃ r : Rat, 0 < r ∧ ∀ k, k < n → u k = r * ((-va n A t (W b)) * W a k + va n A t (W a) * W b k) := by
        intro a b ha hb hva hvb hsa hsb
        have hq : 0 < -va n A t (W b) := by grind
        have hc := Cn.add (h.1 a ha).1 (h.1 b hb).1 (Rat.le_of_lt hq) (Rat.le_of_lt hva)
        refine hu.prop (hc.next (by rw [va_lin]; grind)) ?_ ?_
        · obtain ⟨k, hk, hp⟩ := (h.1 a ha).2.1
          refine ⟨k, hk, ?_⟩
          have q1 := Rat.mul_pos hq hp
          have q2 := Rat.mul_nonneg (Rat.le_of_lt hva) ((h.1 b hb).1.1 k hk)
          grind
        · intro k hk hp
          apply Classical.byContradiction
          intro q
          have q1 : W a k = 0 := by
            have := (h.1 a ha).1.1 k hk
            have : ¬ 0 < W a k := fun q9 => q (hsa k hk q9)
            grind
          have q2 : W b k = 0 := by
            have := (h.1 b hb).1.1 k hk
            have : ¬ 0 < W b k := fun q9 => q (hsb k hk q9)
            grind
          have hp2 : 0 < -va n A t (W b) * W a k + va n A t (W a) * W b k := hp
          rw [q1, q2] at hp2
          grind
      have hBes : Bes n c W a b := by
        intro k hk hka hkb hsub
        have hsk : Sb n (W k) u := fun x hx hp => by
          rcases hsub x hx hp with q | q
          · exact hsa x hx q
          · exact hsb x hx q
        have hvk := hnz k hk hsk
        obtain ⟨r1, hr1, e1⟩ := two a b ha hb hva hvb hsa hsb
        by_cases hs : 0 < va n A t (W k)
        · obtain ⟨r2, hr2, e2⟩ := two k b hk hb hs hvb hsk hsb
          -- r2 (-vb Wk + vk Wb) = r1 (-vb Wa + va Wb)
          by_cases hm : r1 * va n A t (W a) ≤ r2 * va n A t (W k)
          · -- then W k <= multiple of W a: Wk within Wa
            refine hka (h.2.1 k a hk ha fun x hx hp => ?_)
            have q1 := e1 x hx
            have q2 := e2 x hx
            have q3 := Rat.mul_nonneg (show 0 ≤ r2 * va n A t (W k) - r1 * va n A t (W a) by grind) ((h.1 b hb).1.1 x hx)
            have q4 := Rat.mul_pos (Rat.mul_pos hr2 (show 0 < -va n A t (W b) by grind)) hp
            have q5 : 0 < r1 * (-va n A t (W b)) * W a x := by grind
            have q6 := (h.1 a ha).1.1 x hx
            apply Classical.byContradiction
            intro q7
            have q8 : W a x = 0 := by grind
            rw [q8] at q5
            grind
          · refine hka (h.2.1 a k ha hk fun x hx hp => ?_).symm
            have q1 := e1 x hx
            have q2 := e2 x hx
            have q3 := Rat.mul_nonneg (show 0 ≤ r1 * va n A t (W a) - r2 * va n A t (W k) by grind) ((h.1 b hb).1.1 x hx)
            have q4 := Rat.mul_pos (Rat.mul_pos hr1 (show 0 < -va n A t (W b) by grind)) hp
            have q5 : 0 < r2 * (-va n A t (W b)) * W k x := by grind
            have q6 := (h.1 k hk).1.1 x hx
            apply Classical.byContradiction
            intro q7
            have q8 : W k x = 0 := by grind
            rw [q8] at q5
            grind
        · have hs : va n A t (W k) < 0 := by grind
          obtain ⟨r2, hr2, e2⟩ := two a k ha hk hva hs hsa hsk
          by_cases hm : r1 * (-va n A t (W b)) ≤ r2 * (-va n A t (W k))
          · refine hkb (h.2.1 k b hk hb fun x hx hp => ?_)
            have q1 := e1 x hx
            have q2 := e2 x hx
            have q3 := Rat.mul_nonneg (show 0 ≤ r2 * (-va n A t (W k)) - r1 * (-va n A t (W b)) by grind) ((h.1 a ha).1.1 x hx)
            have q4 := Rat.mul_pos (Rat.mul_pos hr2 hva) hp
            have q5 : 0 < r1 * va n A t (W a) * W b x := by grind
            have q6 := (h.1 b hb).1.1 x hx
            apply Classical.byContradiction
            intro q7
            have q8 : W b x = 0 := by grind
            rw [q8] at q5
            grind
          · refine hkb (h.2.1 b k hb hk fun x hx hp => ?_).symm
            have q1 := e1 x hx
            have q2 := e2 x hx
            have q3 := Rat.mul_nonneg (show 0 ≤ r1 * (-va n A t (W b)) - r2 * (-va n A t (W k)) by grind) ((h.1 a ha).1.1 x hx)
            have q4 := Rat.mul_pos (Rat.mul_pos hr1 hva) hp
            have q5 : 0 < r2 * va n A t (W a) * W k x := by grind
            have q6 := (h.1 k hk).1.1 x hx
            apply Classical.byContradiction
            intro q7
            have q8 : W k x = 0 := by grind
            rw [q8] at q5
            grind
      obtain ⟨r, hr, e⟩ := hc1 a b ha hb hva hvb hBes
      refine ⟨r, hr, ?_⟩
      rcases hall r hr with ⟨h1, h2, h3, h4⟩ | ⟨h1, h2, h3, h4, h5, s, hs0, h6⟩
      · rw [e] at h3; simp only at h3; rw [h3] at hva; grind
      · rw [e] at h6
        simp only at h6
        intro k hk q
        rw [h6 k hk] at q
        apply hus k hk
        apply Classical.byContradiction
        intro q0
        have q1 : W a k = 0 := by
          have := (h.1 a ha).1.1 k hk
          have : ¬ 0 < W a k := fun q9 => q0 (hsa k hk q9)
          grind
        have q2 : W b k = 0 := by
          have := (h.1 b hb).1.1 k hk
          have : ¬ 0 < W b k := fun q9 => q0 (hsb k hk q9)
          grind
        rw [q1, q2] at q
        grind
