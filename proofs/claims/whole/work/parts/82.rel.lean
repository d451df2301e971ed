/-! ===== the class's tables and the reference's numbers side by side ===== -/
def lwR (T : Nat → Nat → Int32) (nm : Nat → Int32) (ct : Nat) : Prop := ∀ k i, k < ct → i < 7 → T k i = nm (7 * k + i)
theorem lwR_0 {T : Nat → Nat → Int32} {nm : Nat → Int32} : lwR T nm 0 := fun k i hk _ => absurd hk (by omega)
theorem okN_0 {nm : Nat → Int32} : okN nm 0 := fun k hk => absurd hk (by omega)
theorem okT_N {T : Nat → Nat → Int32} {nm : Nat → Int32} {ct : Nat} (h : lwR T nm ct) (hN : okN nm ct) : okT T ct := fun k hk => by
  have := hN k hk
  refine ⟨fun i hi => ?_, ?_⟩
  · rw [h k i hk (by omega)]; exact this.1 i hi
  · rw [h k 6 hk (by omega)]; exact this.2
theorem rowF_at (f : Nat → Int32) (a0 a1 a2 b0 b1 b2 d : Int32) (i : Nat) : rowF f a0 a1 a2 b0 b1 b2 d i = if i = 6 then d else if i = 5 then b2 else if i = 4 then b1 else if i = 3 then b0 else if i = 2 then a2 else if i = 1 then a1 else if i = 0 then a0 else f i := rfl
theorem nmF_at (nm : Nat → Int32) (k : Nat) (a0 a1 a2 b0 b1 b2 d : Int32) (i : Nat) : nmF nm k a0 a1 a2 b0 b1 b2 d i = if i = 7 * k + 6 then d else if i = 7 * k + 5 then b2 else if i = 7 * k + 4 then b1 else if i = 7 * k + 3 then b0 else if i = 7 * k + 2 then a2 else if i = 7 * k + 1 then a1 else if i = 7 * k then a0 else nm i := rfl
theorem nmF_new (nm f : Nat → Int32) (k : Nat) (a0 a1 a2 b0 b1 b2 d : Int32) {i : Nat} (hi : i < 7) : nmF nm k a0 a1 a2 b0 b1 b2 d (7 * k + i) = rowF f a0 a1 a2 b0 b1 b2 d i := by
  rw [nmF_at, rowF_at]
  rcases (by omega : i = 0 ∨ i = 1 ∨ i = 2 ∨ i = 3 ∨ i = 4 ∨ i = 5 ∨ i = 6) with e | e | e | e | e | e | e <;> subst e <;> simp
theorem nmF_old (nm : Nat → Int32) (k : Nat) (a0 a1 a2 b0 b1 b2 d : Int32) {i : Nat} (hi : i < 7 * k) : nmF nm k a0 a1 a2 b0 b1 b2 d i = nm i := by
  rw [nmF_at, if_neg (by omega), if_neg (by omega), if_neg (by omega), if_neg (by omega), if_neg (by omega), if_neg (by omega), if_neg (by omega)]
theorem lwR_rule {T : Nat → Nat → Int32} {nm : Nat → Int32} {ct : Nat} (h : lwR T nm ct) (a0 a1 a2 b0 b1 b2 d : Int32) : lwR (fup T ct (rowF (T ct) a0 a1 a2 b0 b1 b2 d)) (nmF nm ct a0 a1 a2 b0 b1 b2 d) (ct + 1) := fun k i hk hi => by
  by_cases e : k = ct
  · subst e
    rw [nmF_new nm (T k) k a0 a1 a2 b0 b1 b2 d hi]
    rw [show fup T k (rowF (T k) a0 a1 a2 b0 b1 b2 d) k = rowF (T k) a0 a1 a2 b0 b1 b2 d from if_pos rfl]
  · rw [nmF_old nm ct a0 a1 a2 b0 b1 b2 d (by omega)]
    rw [show fup T ct (rowF (T ct) a0 a1 a2 b0 b1 b2 d) k = T k from if_neg e]
    exact h k i (by omega) hi
theorem okN_rule {nm : Nat → Int32} {ct : Nat} (h : okN nm ct) {a0 a1 a2 b0 b1 b2 d : Int32} (hR : okR a0 a1 a2 b0 b1 b2 d) : okN (nmF nm ct a0 a1 a2 b0 b1 b2 d) (ct + 1) := fun k hk => by
  obtain ⟨⟨q1, q2, q3⟩, ⟨q4, q5, q6⟩, q7⟩ := hR
  have q1 := (inR_int (n := 9) (by omega)).mp q1
  have q2 := (inR_int (n := 9) (by omega)).mp q2
  have q3 := (inR_int (n := 9) (by omega)).mp q3
  have q4 := (inR_int (n := 9) (by omega)).mp q4
  have q5 := (inR_int (n := 9) (by omega)).mp q5
  have q6 := (inR_int (n := 9) (by omega)).mp q6
  have q7 := (inR_int (n := 99) (by omega)).mp q7
  by_cases e : k = ct
  · subst e
    refine ⟨fun i hi => ?_, ?_⟩
    · show -9 ≤ (nmF nm k a0 a1 a2 b0 b1 b2 d (7 * k + i)).toInt ∧ (nmF nm k a0 a1 a2 b0 b1 b2 d (7 * k + i)).toInt ≤ 9
      rw [nmF_new nm nm k a0 a1 a2 b0 b1 b2 d (by omega), rowF_at]
      rcases (by omega : i = 0 ∨ i = 1 ∨ i = 2 ∨ i = 3 ∨ i = 4 ∨ i = 5) with e | e | e | e | e | e <;> subst e <;> simp <;> omega
    · show -99 ≤ (nmF nm k a0 a1 a2 b0 b1 b2 d (7 * k + 6)).toInt ∧ (nmF nm k a0 a1 a2 b0 b1 b2 d (7 * k + 6)).toInt ≤ 99
      rw [nmF_new nm nm k a0 a1 a2 b0 b1 b2 d (by omega), rowF_at]
      simp
      omega
  · have := h k (by omega)
    refine ⟨fun i hi => ?_, ?_⟩
    · show -9 ≤ (nmF nm ct a0 a1 a2 b0 b1 b2 d (7 * k + i)).toInt ∧ (nmF nm ct a0 a1 a2 b0 b1 b2 d (7 * k + i)).toInt ≤ 9
      rw [nmF_old nm ct a0 a1 a2 b0 b1 b2 d (by omega)]
      exact this.1 i hi
    · show -99 ≤ (nmF nm ct a0 a1 a2 b0 b1 b2 d (7 * k + 6)).toInt ∧ (nmF nm ct a0 a1 a2 b0 b1 b2 d (7 * k + 6)).toInt ≤ 99
      rw [nmF_old nm ct a0 a1 a2 b0 b1 b2 d (by omega)]
      exact this.2
theorem lwR_drop {T : Nat → Nat → Int32} {nm : Nat → Int32} {ct j : Nat} (h : lwR T nm ct) (hj : j < ct) : lwR (drF T j ct) (dnF nm (7 * j) (7 * (ct - 1))) (ct - 1) := fun k i hk hi => by
  unfold drF dnF
  by_cases e : j ≤ k
  · rw [if_pos ⟨e, by omega, hi⟩, if_pos ⟨by omega, by omega⟩, h (k + 1) i (by omega) hi, show 7 * (k + 1) + i = 7 * k + i + 7 by omega]
  · rw [if_neg (fun q => e q.1), if_neg (fun q => e (by omega)), h k i (by omega) hi]
theorem okN_drop {nm : Nat → Int32} {ct j : Nat} (h : okN nm ct) (hj : j < ct) : okN (dnF nm (7 * j) (7 * (ct - 1))) (ct - 1) := fun k hk => by
  have hL := lwR_drop (T := fun k i => nm (7 * k + i)) (nm := nm) (ct := ct) (j := j) (fun _ _ _ _ => rfl) hj
  have key : ∀ i, i < 7 → dnF nm (7 * j) (7 * (ct - 1)) (7 * k + i) = nm (7 * (if j ≤ k then k + 1 else k) + i) := fun i hi => by
    rw [← hL k i hk hi]
    unfold drF
    by_cases e : j ≤ k
    · rw [if_pos ⟨e, by omega, hi⟩, if_pos e]
    · rw [if_neg (fun q => e q.1), if_neg e]
  have hk2 : (if j ≤ k then k + 1 else k) < ct := by split <;> omega
  have := h _ hk2
  refine ⟨fun i hi => ?_, ?_⟩
  · show -9 ≤ (dnF nm (7 * j) (7 * (ct - 1)) (7 * k + i)).toInt ∧ (dnF nm (7 * j) (7 * (ct - 1)) (7 * k + i)).toInt ≤ 9
    rw [key i (by omega)]
    exact this.1 i hi
  · show -99 ≤ (dnF nm (7 * j) (7 * (ct - 1)) (7 * k + 6)).toInt ∧ (dnF nm (7 * j) (7 * (ct - 1)) (7 * k + 6)).toInt ≤ 99
    rw [key 6 (by omega)]
    exact this.2
theorem kp_tie {T : Nat → Nat → Int32} {nm : Nat → Int32} {ct k vn : Nat} (h : lwR T nm ct) (hk : k < ct) (hv1 : 1 ≤ vn) (hv : vn ≤ 3) (x1 x2 x3 y1 y2 y3 : Int32) : kpF (T k) vn x1 x2 x3 y1 y2 y3 ↔ kpM nm vn k x1 x2 x3 y1 y2 y3 := by
  have e0 := h k 0 hk (by omega)
  have e1 := h k 1 hk (by omega)
  have e2 := h k 2 hk (by omega)
  have e3 := h k 3 hk (by omega)
  have e4 := h k 4 hk (by omega)
  have e5 := h k 5 hk (by omega)
  have e6 := h k 6 hk (by omega)
  have key : prF (T k) vn 0 x1.toInt64 x2.toInt64 x3.toInt64 + prF (T k) vn 3 y1.toInt64 y2.toInt64 y3.toInt64 = smM nm k x1 x2 x3 y1 y2 y3 vn := by
    rcases (by omega : vn = 1 ∨ vn = 2 ∨ vn = 3) with e | e | e <;> subst e <;> simp [prF, smM, pik, e0, e1, e2, e3, e4, e5, Nat.add_assoc] <;> grind
  unfold kpF kpM
  rw [key, e6]
theorem kp_all {T : Nat → Nat → Int32} {nm : Nat → Int32} {ct vn : Nat} (h : lwR T nm ct) (hv1 : 1 ≤ vn) (hv : vn ≤ 3) (x1 x2 x3 y1 y2 y3 : Int32) : (∀ k, k < ct → kpF (T k) vn x1 x2 x3 y1 y2 y3) ↔ ∀ k, k < ct → kpM nm vn k x1 x2 x3 y1 y2 y3 :=
  ⟨fun q k hk => (kp_tie h hk hv1 hv _ _ _ _ _ _).mp (q k hk), fun q k hk => (kp_tie h hk hv1 hv _ _ _ _ _ _).mpr (q k hk)⟩
/-- two answers that say yes or no to one question are one -/
theorem yn_eq {P Q : Prop} {x y u v : Int32} (h : P ↔ Q) (h1 : (x = u ∧ P) ∨ (x = v ∧ ¬ P)) (h2 : (y = u ∧ Q) ∨ (y = v ∧ ¬ Q)) : x = y := by
  rcases h1 with ⟨a, b⟩ | ⟨a, b⟩ <;> rcases h2 with ⟨c, d⟩ | ⟨c, d⟩
  · rw [a, c]
  · exact absurd (h.mp b) d
  · exact absurd (h.mpr d) b
  · rw [a, c]
theorem gl_wd (gl wd : Nat → Int32) (x1 x2 x3 x4 x5 x6 : Int32) : ∀ i, i < 6 → gl3 (gl3 gl 0 x1 x2 x3) 3 x4 x5 x6 i = wdF wd x1 x2 x3 x4 x5 x6 i := fun i hi => by
  rcases (by omega : i = 0 ∨ i = 1 ∨ i = 2 ∨ i = 3 ∨ i = 4 ∨ i = 5) with e | e | e | e | e | e <;> subst e <;> rfl
theorem gl_wd2 (gl wd : Nat → Int32) (r0 r1 r2 : Int32) : ∀ i, i < 6 → gl3 (gl3 (gl3 gl 0 r0 r1 r2) 3 0 0 0) 3 (-r0) (-r1) (-r2) i = wdF (wdF wd r0 r1 r2 0 0 0) r0 r1 r2 (-r0) (-r1) (-r2) i := fun i hi => by
  rcases (by omega : i = 0 ∨ i = 1 ∨ i = 2 ∨ i = 3 ∨ i = 4 ∨ i = 5) with e | e | e | e | e | e <;> subst e <;> rfl
theorem SM_mt {nm wd : Nat → Int32} {vn ct : Nat} : ∀ k, k < ct → ∀ j, SM nm wd vn ct k j = mt nm vn k j := fun k hk j => if_pos hk
theorem HM_mt {nm : Nat → Int32} {vn ct : Nat} : ∀ k, k < ct → ∀ j, HM nm vn ct k j = mt nm vn k j := fun k hk j => if_pos hk
theorem ans_turn {T : Nat → Nat → Int32} {nm gl : Nat → Int32} {vn ct : Nat} (hv : vn ≤ 3) (h : lwR T nm ct) {x y : Int32} (h1 : (x = 0 ∧ Cer ct (2 * vn) (CG T gl vn ct)) ∨ (x = 1 ∧ ∃ y, Fea ct (2 * vn) (CG T gl vn ct) y)) (h2 : (y = 0 ∧ CerQ ct 9 (HM nm vn ct)) ∨ (y = 1 ∧ ¬ CerQ ct 9 (HM nm vn ct))) : x = y :=
  yn_eq (Cer_tie hv h HM_mt) (h1.imp id (fun q => ⟨q.1, q.2.elim fun _ f => Fea_no f⟩)) h2
theorem ans_ranked {T : Nat → Nat → Int32} {nm : Nat → Int32} {vn ct : Nat} (hv1 : 1 ≤ vn) (hv : vn ≤ 3) (h : lwR T nm ct) {x y : Int32} (h1 : (x = 1 ∧ Cer (2 * ct) (3 * vn) (CR T vn ct)) ∨ (x = 0 ∧ ∃ y, Fea (2 * ct) (3 * vn) (CR T vn ct) y)) (h2 : (y = 1 ∧ CerQ (2 * ct) 9 (KM nm vn ct)) ∨ (y = 0 ∧ ¬ CerQ (2 * ct) 9 (KM nm vn ct))) : x = y :=
  yn_eq (CR_tie hv1 hv h) (h1.imp id (fun q => ⟨q.1, q.2.elim fun _ f => Fea_no f⟩)) h2
theorem low_eq {a b c d : Int} {val : Rat} (h1 : (a : Rat) = val * (b : Rat)) (h2 : (c : Rat) = val * (d : Rat)) (hb : 0 < b) (hd : 0 < d) (g1 : Nat.gcd a.natAbs b.natAbs = 1) (g2 : Nat.gcd c.natAbs d.natAbs = 1) : a = c ∧ b = d := by
  have e : a * d = c * b := by
    have : ((a * d : Int) : Rat) = ((c * b : Int) : Rat) := by
      rw [Rat.intCast_mul, Rat.intCast_mul, h1, h2]
      grind
    exact Rat.intCast_inj.mp this
  have e2 : a.natAbs * d.natAbs = c.natAbs * b.natAbs := by rw [← Int.natAbs_mul, ← Int.natAbs_mul, e]
  have d1 : b.natAbs ∣ d.natAbs := Nat.Coprime.dvd_of_dvd_mul_left (Nat.Coprime.symm g1) ⟨c.natAbs, by rw [e2, Nat.mul_comm]⟩
  have d2 : d.natAbs ∣ b.natAbs := Nat.Coprime.dvd_of_dvd_mul_left (Nat.Coprime.symm g2) ⟨a.natAbs, by rw [← e2, Nat.mul_comm]⟩
  have e3 := Nat.dvd_antisymm d1 d2
  have e4 : b = d := by omega
  subst e4
  exact ⟨Int.eq_of_mul_eq_mul_right (by omega) e, rfl⟩
theorem ans_least {T : Nat → Nat → Int32} {nm gl wd : Nat → Int32} {vn ct : Nat} (hv : vn ≤ 3) (h : lwR T nm ct) (hg : ∀ i, i < 6 → gl i = wd i) {K : Prop} {x y : Int32} {a b a2 b2 ft fb : Int64}
    (h1 : (x = -1 ∧ ¬ K ∧ a = ft ∧ b = fb) ∨ (K ∧ ((x = 0 ∧ Cer ct (2 * vn) (CG T gl vn ct) ∧ a = 0 ∧ b = 0) ∨ (x = 2 ∧ ∃ val, Fou ct (2 * vn) (CG T gl vn ct) val ∧ (a.toInt : Rat) = val * (b.toInt : Rat) ∧ 0 < b.toInt ∧ Nat.gcd a.toInt.natAbs b.toInt.natAbs = 1) ∨ (x = 1 ∧ Nol ct (2 * vn) (CG T gl vn ct) ∧ a = 0 ∧ b = 0))))
    (h2 : (y = -1 ∧ ¬ K ∧ a2 = ft ∧ b2 = fb) ∨ (K ∧ ((y = 0 ∧ CerQ ct 9 (SM nm wd vn ct) ∧ a2 = 0 ∧ b2 = 0) ∨ (y = 1 ∧ ¬ CerQ ct 9 (SM nm wd vn ct) ∧ (¬ ∃ w, DuF ct (SM nm wd vn ct) w) ∧ a2 = 0 ∧ b2 = 0) ∨ (y = 2 ∧ ¬ CerQ ct 9 (SM nm wd vn ct) ∧ ∃ val, Opt ct (SM nm wd vn ct) val ∧ (a2.toInt : Rat) = val * (b2.toInt : Rat) ∧ 0 < b2.toInt ∧ Nat.gcd a2.toInt.natAbs b2.toInt.natAbs = 1)))) : x = y ∧ a = a2 ∧ b = b2 := by
  have hC := Cer_tie (gl := gl) hv h (SM_mt (nm := nm) (wd := wd) (vn := vn) (ct := ct))
  rcases h1 with ⟨rfl, hk, rfl, rfl⟩ | ⟨hk, h1⟩
  · rcases h2 with ⟨rfl, -, rfl, rfl⟩ | ⟨hk2, -⟩
    · exact ⟨rfl, rfl, rfl⟩
    · exact absurd hk2 hk
  · rcases h2 with ⟨-, hk2, -⟩ | ⟨-, h2⟩
    · exact absurd hk hk2
    rcases h1 with ⟨rfl, hc, rfl, rfl⟩ | ⟨rfl, val, hf, p1, p2, p3⟩ | ⟨rfl, hn, rfl, rfl⟩
    · have hc := hC.mp hc
      rcases h2 with ⟨rfl, -, rfl, rfl⟩ | ⟨-, q, -⟩ | ⟨-, q, -⟩
      · exact ⟨rfl, rfl, rfl⟩
      · exact absurd hc q
      · exact absurd hc q
    · have hf := Fou_tie hv h hg hf
      rcases h2 with ⟨-, q, -⟩ | ⟨-, -, q, -⟩ | ⟨rfl, -, val2, ho, q1, q2, q3⟩
      · exact absurd q hf.1
      · exact absurd (hf.2.1.imp fun _ z => z.1) q
      · have := Opt_eq hf.2 ho
        subst this
        have := low_eq p1 q1 p2 q2 p3 q3
        exact ⟨rfl, Int64.toInt_inj.mp this.1, Int64.toInt_inj.mp this.2⟩
    · have hn := Nol_tie hv h hg hn
      rcases h2 with ⟨-, q, -⟩ | ⟨rfl, -, -, rfl, rfl⟩ | ⟨-, -, val2, ho, -⟩
      · exact absurd q hn.1
      · exact ⟨rfl, rfl, rfl⟩
      · exact absurd (ho.1.imp fun _ z => z.1) hn.2
theorem ans_ranks {T : Nat → Nat → Int32} {nm gl wd gl2 wd2 : Nat → Int32} {vn ct : Nat} (hv : vn ≤ 3) (h : lwR T nm ct) (hg : ∀ i, i < 6 → gl i = wd i) (hg2 : ∀ i, i < 6 → gl2 i = wd2 i) {K : Prop} {x y : Int32} {sv : Rat}
    (h1 : (x = 0 ∧ ¬ K) ∨ (K ∧ ((x = 1 ∧ Cer ct (2 * vn) (CG T gl vn ct)) ∨ (x = 0 ∧ Nol ct (2 * vn) (CG T gl vn ct)) ∨ ∃ val, Fou ct (2 * vn) (CG T gl vn ct) val ∧ ((x = 0 ∧ val + sv < 0) ∨ (0 ≤ val + sv ∧ ((x = 0 ∧ Cer ct (2 * vn) (CG T gl2 vn ct)) ∨ (x = 0 ∧ Nol ct (2 * vn) (CG T gl2 vn ct)) ∨ ∃ val2, Fou ct (2 * vn) (CG T gl2 vn ct) val2 ∧ ((x = 0 ∧ val2 < 1) ∨ (x = 1 ∧ 1 ≤ val2))))))))
    (h2 : (y = 0 ∧ ¬ K) ∨ (K ∧ ((y = 1 ∧ CerQ ct 9 (SM nm wd vn ct)) ∨ (y = 0 ∧ ¬ CerQ ct 9 (SM nm wd vn ct) ∧ ¬ ∃ w, DuF ct (SM nm wd vn ct) w) ∨ (¬ CerQ ct 9 (SM nm wd vn ct) ∧ ∃ val, Opt ct (SM nm wd vn ct) val ∧ ((y = 0 ∧ val + sv < 0) ∨ (0 ≤ val + sv ∧ ((y = 1 ∧ CerQ ct 9 (SM nm wd2 vn ct)) ∨ (y = 0 ∧ ¬ ∃ w, DuF ct (SM nm wd2 vn ct) w) ∨ ∃ val2, Opt ct (SM nm wd2 vn ct) val2 ∧ ((y = 0 ∧ val2 < 1) ∨ (y = 1 ∧ 1 ≤ val2))))))))) : x = y := by
  have hC := Cer_tie (gl := gl) hv h (SM_mt (nm := nm) (wd := wd) (vn := vn) (ct := ct))
  have hC2 := Cer_tie (gl := gl2) hv h (SM_mt (nm := nm) (wd := wd) (vn := vn) (ct := ct))
  have hC3 := Cer_tie (gl := gl2) hv h (SM_mt (nm := nm) (wd := wd2) (vn := vn) (ct := ct))
  rcases h1 with ⟨rfl, hk⟩ | ⟨hk, h1⟩
  · rcases h2 with ⟨rfl, -⟩ | ⟨hk2, -⟩
    · rfl
    · exact absurd hk2 hk
  rcases h2 with ⟨-, hk2⟩ | ⟨-, h2⟩
  · exact absurd hk hk2
  rcases h1 with ⟨rfl, hc⟩ | ⟨rfl, hn⟩ | ⟨val, hf, h1⟩
  · have hc := hC.mp hc
    rcases h2 with ⟨rfl, -⟩ | ⟨-, q, -⟩ | ⟨q, -⟩
    · rfl
    · exact absurd hc q
    · exact absurd hc q
  · have hn := Nol_tie hv h hg hn
    rcases h2 with ⟨-, q⟩ | ⟨rfl, -, -⟩ | ⟨-, val2, ho, -⟩
    · exact absurd q hn.1
    · rfl
    · exact absurd (ho.1.imp fun _ z => z.1) hn.2
  · have hf := Fou_tie hv h hg hf
    rcases h2 with ⟨-, q⟩ | ⟨-, -, q⟩ | ⟨-, val2, ho, h2⟩
    · exact absurd q hf.1
    · exact absurd (hf.2.1.imp fun _ z => z.1) q
    have := Opt_eq hf.2 ho
    subst this
    have hno : ¬ CerQ ct 9 (SM nm wd2 vn ct) := fun q => hf.1 (hC2.mp (hC3.mpr q))
    rcases h1 with ⟨rfl, p1⟩ | ⟨p1, h1⟩ <;> rcases h2 with ⟨rfl, p2⟩ | ⟨p2, h2⟩
    · rfl
    · exact absurd p1 (by grind)
    · exact absurd p2 (by grind)
    rcases h1 with ⟨rfl, hc⟩ | ⟨rfl, hn⟩ | ⟨v3, hf3, h1⟩
    · exact absurd (hC3.mp hc) hno
    · have hn := Nol_tie hv h hg2 hn
      rcases h2 with ⟨-, q⟩ | ⟨rfl, -⟩ | ⟨v4, ho, -⟩
      · exact absurd q hno
      · rfl
      · exact absurd (ho.1.imp fun _ z => z.1) hn.2
    · have hf3 := Fou_tie hv h hg2 hf3
      rcases h2 with ⟨-, q⟩ | ⟨-, q⟩ | ⟨v4, ho, h2⟩
      · exact absurd q hno
      · exact absurd (hf3.2.1.imp fun _ z => z.1) q
      have := Opt_eq hf3.2 ho
      subst this
      rcases h1 with ⟨rfl, p1⟩ | ⟨rfl, p1⟩ <;> rcases h2 with ⟨rfl, p2⟩ | ⟨rfl, p2⟩
      · rfl
      · exact absurd p1 (by grind)
      · exact absurd p2 (by grind)
      · rfl
