/-! ===== PURE: the dual half of Bland's rule; the corner; sequences of sets ===== -/
/-- the corner grows by what the exchange brings -/
theorem Stt_corner {m n : Nat} {col : Nat → Nat → Rat} {h1 h2 : Nat → Option Nat} {R1 R2 : Nat → Nat → Rat} (H1 : Stt m n col h1 R1) (H2 : Stt m n col h2 R2) (b : Nat → Rat) (hz : ∀ i, i < m → h2 i = none → cd (m + 1) R2 b i = 0)
    (hs : ∀ i j, i < m → h2 i = some j → ∃ k, k < m ∧ h1 k = some j) : cd (m + 1) R1 b m = cd (m + 1) R2 b m := by
  have e1 : ∀ t, t < m + 1 → b t = sm n (fun j => wgt m h2 (cd (m + 1) R2 b) j * col j t) + cd (m + 1) R2 b m * un m t := fun t ht => by
    rw [Stt_out H2 b hz ht]; grind
  rw [cd_congr e1, cd_add, cd_sum, cd_smul, cd_un (by omega), Stt_m H1 (by omega), if_pos rfl]
  rw [wgt_sum m n h2 _ H2.2 (fun j => cd (m + 1) R1 (col j) m)]
  rw [sm_zero (fun i hi => by
    cases e : h2 i with
    | none => rfl
    | some j =>
      simp only
      obtain ⟨k, hk, ek⟩ := hs i j hi e
      rw [Stt_held H1 hk ek (by omega), if_neg (by omega)]; grind)]
  grind
/-- Bland, dual half: column f can't both come in at S1 (in row r1) and go out at S2, where what lies above f and is held at S2 is held at S1 in another row than r1, and the columns up to f that are held at S2 cost nothing at S1 -/
theorem bland_d {m n : Nat} {col : Nat → Nat → Rat} {h1 h2 : Nat → Option Nat} {R1 R2 : Nat → Nat → Rat} (H1 : Stt m n col h1 R1) (H2 : Stt m n col h2 R2) (b : Nat → Rat) (hz : ∀ i, i < m → h2 i = none → cd (m + 1) R2 b i = 0)
    {f r1 r2 : Nat} (hr1 : r1 < m) (hb1 : cd (m + 1) R1 b r1 < 0) (hf : cd (m + 1) R1 (col f) r1 < 0)
    (hfl : ∀ i j, i < m → h2 i = some j → j < f → 0 ≤ cd (m + 1) R1 (col j) r1)
    (hr2 : r2 < m) (hrf : h2 r2 = some f) (hb2 : cd (m + 1) R2 b r2 < 0) (hl : ∀ i j, i < m → h2 i = some j → cd (m + 1) R2 b i < 0 → f ≤ j)
    (hab : ∀ i j, i < m → h2 i = some j → f < j → ∃ k, k < m ∧ k ≠ r1 ∧ h1 k = some j) : False := by
  have e1 : ∀ t, t < m + 1 → b t = sm n (fun j => wgt m h2 (cd (m + 1) R2 b) j * col j t) + cd (m + 1) R2 b m * un m t := fun t ht => by
    rw [Stt_out H2 b hz ht]; grind
  have e2 : cd (m + 1) R1 b r1 = sm n (fun j => wgt m h2 (cd (m + 1) R2 b) j * cd (m + 1) R1 (col j) r1) + cd (m + 1) R2 b m * 0 := by
    rw [cd_congr e1, cd_add, cd_sum, cd_smul, cd_un (by omega), Stt_m H1 (by omega), if_neg (by omega)]
  rw [wgt_sum m n h2 _ H2.2 (fun j => cd (m + 1) R1 (col j) r1)] at e2
  have e3 : 0 ≤ sm m (fun i => match h2 i with | none => 0 | some j => cd (m + 1) R2 b i * cd (m + 1) R1 (col j) r1) := sm_nonneg (fun i hi => by
    cases e : h2 i with
    | none => simp only; grind
    | some j =>
      simp only
      by_cases hj : f < j
      · obtain ⟨k, hk, hkr, ek⟩ := hab i j hi e hj
        rw [Stt_held H1 hk ek (by omega), if_neg (fun q => hkr q.symm)]; grind
      · by_cases ej : j = f
        · subst ej
          have hir : i = r2 := by
            have a1 := Stt_held H2 hi e (k := r2) (by omega)
            have a2 := Stt_held H2 hr2 hrf (k := r2) (by omega)
            rw [a2] at a1
            by_cases q9 : r2 = i
            · exact q9.symm
            · simp [q9] at a1
          subst hir
          have := Rat.mul_pos (show 0 < -cd (m + 1) R2 b i by grind) (show 0 < -cd (m + 1) R1 (col j) r1 by grind)
          grind
        · have g1 := hfl i j hi e (by omega)
          have g2 : 0 ≤ cd (m + 1) R2 b i := by
            by_cases g : cd (m + 1) R2 b i < 0
            · have := hl i j hi e g; omega
            · exact Rat.not_lt.mp g
          exact Rat.mul_nonneg g2 g1)
  grind
/-- more than N members below N: two are the same -/
theorem pigeon : ∀ (N : Nat) (g : Nat → Nat), (∀ i, i ≤ N → g i < N) → ∃ i j, i < j ∧ j ≤ N ∧ g i = g j
  | 0, g, h => absurd (h 0 (Nat.le_refl 0)) (by omega)
  | N + 1, g, h => by
    by_cases hx : ∃ i, i ≤ N ∧ g i = g (N + 1)
    · obtain ⟨i, hi, e⟩ := hx
      exact ⟨i, N + 1, by omega, by omega, e⟩
    · have hn : ∀ i, i ≤ N → g i ≠ g (N + 1) := fun i hi e => hx ⟨i, hi, e⟩
      obtain ⟨i, j, hij, hj, e⟩ := pigeon N (fun i => if g i = N then g (N + 1) else g i) (fun i hi => by
        have h1 := h i (by omega)
        have h2 := h (N + 1) (by omega)
        have h3 := hn i hi
        show (if g i = N then g (N + 1) else g i) < N
        split <;> omega)
      refine ⟨i, j, hij, by omega, ?_⟩
      have h3 := hn i (by omega)
      have h4 := hn j hj
      split at e <;> split at e <;> omega
/-- the number of a set of places below n -/
def encS (X : Nat → Bool) : Nat → Nat
  | 0 => 0
  | n + 1 => encS X n + if X n then 2 ^ n else 0
theorem encS_lt (X : Nat → Bool) : ∀ n, encS X n < 2 ^ n
  | 0 => by simp [encS]
  | n + 1 => by
    have := encS_lt X n
    simp only [encS, Nat.pow_succ]
    split <;> omega
theorem encS_eq {X Y : Nat → Bool} : ∀ {n : Nat}, encS X n = encS Y n → ∀ x, x < n → X x = Y x
  | 0, _, _, h => by omega
  | n + 1, e, x, h => by
    have h1 := encS_lt X n
    have h2 := encS_lt Y n
    simp only [encS] at e
    have hn : X n = Y n := by
      cases hx : X n <;> cases hy : Y n <;> simp [hx, hy] at e <;> first | rfl | omega
    rw [hn] at e
    have e' : encS X n = encS Y n := by omega
    by_cases hxn : x = n
    · subst hxn; exact hn
    · exact encS_eq e' x (by omega)
/-- a sequence of sets, each the one before with one member changed for another, comes back: then some member comes in and goes out between, and none above it does either -/
theorem cycle {n : Nat} (X : Nat → Nat → Bool) (inn out : Nat → Nat) (K : Nat) (hK : 2 ^ n ≤ K) (hi : ∀ s, s < K → inn s < n) (ho : ∀ s, s < K → out s < n) (hne : ∀ s, s < K → X s (inn s) = false ∧ X s (out s) = true)
    (hst : ∀ s, s < K → ∀ x, X (s + 1) x = if x = inn s then true else if x = out s then false else X s x) :
    ∃ i j f s1 s2, i < j ∧ j ≤ K ∧ (∀ x, x < n → X i x = X j x) ∧ i ≤ s1 ∧ s1 < j ∧ i ≤ s2 ∧ s2 < j ∧ inn s1 = f ∧ out s2 = f ∧ ∀ s, i ≤ s → s < j → inn s ≤ f ∧ out s ≤ f := by
  obtain ⟨i, j, hij, hj, e⟩ := pigeon (2 ^ n) (fun s => encS (X s) n) (fun s _ => encS_lt _ n)
  have hX : ∀ x, x < n → X i x = X j x := encS_eq e
  -- the greatest that changes
  have hmax : ∀ b, i < b → b ≤ j → ∃ f, (∃ s, i ≤ s ∧ s < b ∧ (inn s = f ∨ out s = f)) ∧ ∀ s, i ≤ s → s < b → inn s ≤ f ∧ out s ≤ f := by
    intro b
    induction b with
    | zero => intro h _; omega
    | succ b ih =>
      intro h1 h2
      by_cases hb : i = b
      · subst hb
        by_cases hc : inn i ≤ out i
        · exact ⟨out i, ⟨i, by omega, by omega, Or.inr rfl⟩, fun s a c => by
            obtain rfl : s = i := by omega
            omega⟩
        · exact ⟨inn i, ⟨i, by omega, by omega, Or.inl rfl⟩, fun s a c => by
            obtain rfl : s = i := by omega
            omega⟩
      · obtain ⟨f, ⟨s, a1, a2, a3⟩, h4⟩ := ih (by omega) (by omega)
        by_cases hc : inn b ≤ f ∧ out b ≤ f
        · exact ⟨f, ⟨s, a1, by omega, a3⟩, fun s a c => by
            by_cases q : s = b
            · subst q; exact hc
            · exact h4 s a (by omega)⟩
        · by_cases hd : inn b ≤ out b
          · exact ⟨out b, ⟨b, by omega, by omega, Or.inr rfl⟩, fun s a c => by
              by_cases q : s = b
              · subst q; omega
              · have := h4 s a (by omega); omega⟩
          · exact ⟨inn b, ⟨b, by omega, by omega, Or.inl rfl⟩, fun s a c => by
              by_cases q : s = b
              · subst q; omega
              · have := h4 s a (by omega); omega⟩
  obtain ⟨f, ⟨s0, a1, a2, a3⟩, hle⟩ := hmax j hij (Nat.le_refl j)
  have hfn : f < n := by
    rcases a3 with q | q
    · rw [← q]; exact hi s0 (by omega)
    · rw [← q]; exact ho s0 (by omega)
  -- if it never comes in, it stays out once it is out; and so on
  have hin : ∃ s, i ≤ s ∧ s < j ∧ inn s = f := by
    apply Classical.byContradiction
    intro hno
    have hno : ∀ s, i ≤ s → s < j → inn s ≠ f := fun s a b c => hno ⟨s, a, b, c⟩
    have hmono : ∀ d a, i ≤ a → a + d ≤ j → X a f = false → X (a + d) f = false := by
      intro d
      induction d with
      | zero => intro a _ _ h; exact h
      | succ d ih =>
        intro a ha hd h
        have h1 := ih a ha (by omega) h
        have h2 := hst (a + d) (by omega) f
        rw [← Nat.add_assoc, h2, if_neg (fun q => hno (a + d) (by omega) (by omega) q.symm)]
        split
        · rfl
        · exact h1
    rcases a3 with q | q
    · exact hno s0 a1 a2 q
    · have h1 := (hne s0 (by omega)).2
      rw [q] at h1
      have h2 := hst s0 (by omega) f
      rw [if_neg (fun q9 => hno s0 a1 a2 q9.symm), if_pos q.symm] at h2
      have h3 := hmono (j - (s0 + 1)) (s0 + 1) (by omega) (by omega) h2
      rw [show s0 + 1 + (j - (s0 + 1)) = j by omega, ← hX f hfn] at h3
      have h4 := hmono (s0 - i) i (by omega) (by omega) h3
      rw [show i + (s0 - i) = s0 by omega, h1] at h4
      cases h4
  have hout : ∃ s, i ≤ s ∧ s < j ∧ out s = f := by
    apply Classical.byContradiction
    intro hno
    have hno : ∀ s, i ≤ s → s < j → out s ≠ f := fun s a b c => hno ⟨s, a, b, c⟩
    have hmono : ∀ d a, i ≤ a → a + d ≤ j → X a f = true → X (a + d) f = true := by
      intro d
      induction d with
      | zero => intro a _ _ h; exact h
      | succ d ih =>
        intro a ha hd h
        have h1 := ih a ha (by omega) h
        have h2 := hst (a + d) (by omega) f
        rw [← Nat.add_assoc, h2]
        split
        · rfl
        · rw [if_neg (fun q => hno (a + d) (by omega) (by omega) q.symm)]; exact h1
    obtain ⟨s, b1, b2, b3⟩ := hin
    have h1 := (hne s (by omega)).1
    rw [b3] at h1
    have h2 := hst s (by omega) f
    rw [if_pos b3.symm] at h2
    have h3 := hmono (j - (s + 1)) (s + 1) (by omega) (by omega) h2
    rw [show s + 1 + (j - (s + 1)) = j by omega, ← hX f hfn] at h3
    have h4 := hmono (s - i) i (by omega) (by omega) h3
    rw [show i + (s - i) = s by omega, h1] at h4
    cases h4
  obtain ⟨s1, b1, b2, b3⟩ := hin
  obtain ⟨s2, c1, c2, c3⟩ := hout
  exact ⟨i, j, f, s1, s2, hij, by omega, hX, b1, b2, c1, c2, b3, c3, hle⟩
