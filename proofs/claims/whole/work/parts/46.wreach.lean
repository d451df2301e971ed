/-! ===== Weighing: reachesRightSides ===== -/
/-- a cost and a cell, multiplied, fit -/
def Bnd2 (me nw : Nat) (C : Nat → Nat → Int) : Prop := ∀ h : Nat → Option Nat, (∀ i j, i < me → h i = some j → j < nw) → ∀ i j o, i < me → j < nw → o < nw →
  (dt (me + 1) (fup (hB me (clm C) h) me (clm C o)) * dt (me + 1) (fup (hB me (clm C) h) i (clm C j))) * (dt (me + 1) (fup (hB me (clm C) h) me (clm C o)) * dt (me + 1) (fup (hB me (clm C) h) i (clm C j))) < 85070591730234615865843651857942052864
theorem Gd_prod {me nw : Nat} {C : Nat → Nat → Int} {M : Nat → Nat → Int64} {hd : Nat → Int32} {u : Int64} {tw : Int32} {iv : Int64} {h : Nat → Option Nat} {R : Nat → Nat → Rat} (hB2 : Bnd2 me nw C) (G : Gd me nw C M hd u tw iv h R) {i j o : Nat} (hi : i < me) (hj : j < nw) (ho : o < nw) : (M me o * M i j).toInt = (M me o).toInt * (M i j).toInt := by
  obtain ⟨G1, G2, ⟨g, hg, hdt⟩, G4, G5⟩ := G
  have b := hB2 h G1.2 i j o hi hj ho
  rw [dt_cd G1.1 (show me < me + 1 by omega), dt_cd G1.1 (show i < me + 1 by omega), hdt] at b
  have e1 := G4 me o (by omega) (by omega)
  have e2 := G4 i j (by omega) (by omega)
  have e3 : (((M me o).toInt * (M i j).toInt : Int) : Rat) * (((M me o).toInt * (M i j).toInt : Int) : Rat) < 85070591730234615865843651857942052864 := by
    rw [Rat.intCast_mul, e1, e2]
    generalize cd (me + 1) R (clm C o) me = x at b ⊢
    generalize cd (me + 1) R (clm C j) i = y at b ⊢
    generalize (u.toInt : Rat) = z at b ⊢
    have : (x * (g * z) * (y * (g * z))) * (x * (g * z) * (y * (g * z))) = (z * x * (z * y)) * (z * x * (z * y)) * ((g * g) * (g * g)) := by grind
    rw [this, hg] at b
    grind
  have := z_small e3
  exact lx_mulE (by omega) (by omega)
theorem Gd_cheap {me nw : Nat} {C : Nat → Nat → Int} {M : Nat → Nat → Int64} {hd : Nat → Int32} {u : Int64} {tw : Int32} {iv : Int64} {h : Nat → Option Nat} {R : Nat → Nat → Rat} (hB2 : Bnd2 me nw C) (G : Gd me nw C M hd u tw iv h R) {i j o : Nat} (hi : i < me) (hj : j < nw) (ho : o < nw) (n1 : cd (me + 1) R (clm C j) i < 0) (n2 : cd (me + 1) R (clm C o) i < 0) :
    M me o * M i j < M me j * M i o ↔ cd (me + 1) R (clm C j) me / (-cd (me + 1) R (clm C j) i) < cd (me + 1) R (clm C o) me / (-cd (me + 1) R (clm C o) i) := by
  rw [Int64.lt_iff_toInt_lt, Gd_prod hB2 G hi hj ho, Gd_prod hB2 G hi ho hj]
  have hu : (0 : Rat) < (u.toInt : Rat) := Rat.intCast_lt_intCast.mpr G.2.1.1
  rw [← Rat.intCast_lt_intCast, Rat.intCast_mul, Rat.intCast_mul, G.2.2.2.1 me o (by omega) (by omega), G.2.2.2.1 i j (by omega) (by omega), G.2.2.2.1 me j (by omega) (by omega), G.2.2.2.1 i o (by omega) (by omega)]
  generalize cd (me + 1) R (clm C o) me = co
  generalize cd (me + 1) R (clm C j) me = cj
  generalize cd (me + 1) R (clm C o) i = xo at n2 ⊢
  generalize cd (me + 1) R (clm C j) i = xj at n1 ⊢
  generalize (u.toInt : Rat) = w at hu ⊢
  have hw := Rat.mul_pos hu hu
  have p1 : 0 < -xj := by grind
  have p2 : 0 < -xo := by grind
  have d1 : cj / -xj * -xj = cj := Rat.div_mul_cancel (by grind)
  have d2 : co / -xo * -xo = co := Rat.div_mul_cancel (by grind)
  generalize cj / -xj = s at d1 ⊢
  generalize co / -xo = t at d2 ⊢
  have p3 := Rat.mul_pos p1 p2
  have p4 := Rat.mul_pos hw p3
  constructor
  · intro q
    apply Classical.byContradiction
    intro q2
    have := Rat.mul_nonneg (Rat.le_of_lt p4) (show 0 ≤ s - t by grind)
    subst d1; subst d2
    grind
  · intro q
    have := Rat.mul_pos p4 (show 0 < t - s by grind)
    subst d1; subst d2
    grind
theorem rq_8 {cj cc xj xc : Rat} (n1 : xj < 0) (n2 : xc < 0) (h : ¬ cj / -xj < cc / -xc) : cc * (-xj) ≤ cj * (-xc) := by
  have d1 : cj / -xj * -xj = cj := Rat.div_mul_cancel (by grind)
  have d2 : cc / -xc * -xc = cc := Rat.div_mul_cancel (by grind)
  generalize cj / -xj = s at d1 h
  generalize cc / -xc = t at d2 h
  have := Rat.mul_nonneg (Rat.le_of_lt (Rat.mul_pos (show 0 < -xj by grind) (show 0 < -xc by grind))) (show 0 ≤ s - t by grind)
  subst d1; subst d2
  grind
theorem rq_9 {cj cc xj xc : Rat} (n1 : xj < 0) (n2 : xc < 0) (h : cc / -xc < cj / -xj) : cc * (-xj) < cj * (-xc) := by
  have d1 : cj / -xj * -xj = cj := Rat.div_mul_cancel (by grind)
  have d2 : cc / -xc * -xc = cc := Rat.div_mul_cancel (by grind)
  generalize cj / -xj = s at d1 h
  generalize cc / -xc = t at d2 h
  have := Rat.mul_pos (Rat.mul_pos (show 0 < -xj by grind) (show 0 < -xc by grind)) (show 0 < s - t by grind)
  subst d1; subst d2
  grind
/-- the costs stay 0 or more -/
theorem rq_10 {cj cc xj xc : Rat} (h1 : 0 ≤ cj) (h2 : 0 ≤ cc) (n2 : xc < 0) (h : xj < 0 → cc * (-xj) ≤ cj * (-xc)) : 0 ≤ cj - cc / xc * xj := by
  have d2 : cc / xc * xc = cc := Rat.div_mul_cancel (by grind)
  generalize cc / xc = t at d2 ⊢
  subst d2
  have hp : 0 < -xc := by grind
  have ht : t ≤ 0 := by
    apply Classical.byContradiction
    intro q
    have := Rat.mul_pos (show 0 < t by grind) hp
    grind
  by_cases q : xj < 0
  · have g1 := h q
    apply Rat.le_of_mul_le_mul_left (c := -xc) _ hp
    grind
  · have := Rat.mul_nonneg (show 0 ≤ -t by grind) (show 0 ≤ xj by grind)
    grind
set_option maxHeartbeats 1000000 in
set_option maxRecDepth 100000 in
/-- reachesRightSides() -/
theorem c_X0_reachesRightSides (l : Launch) (dC : Nat → ClassId) (dI : Nat → Nat → Nat) (h0 qc qh : Nat) (r : Nat → Nat) (cA cI cJ : ClassId) (sz : Nat) (me nw : Nat) (u : Int64) (tw : Int32) (iv : Int64) (hd : Nat → Int32) (M : Nat → Nat → Int64) (C : Nat → Nat → Int) (h : Nat → Option Nat) (R : Nat → Nat → Rat) (hm : me < 10) (hn : nw < 17) (hB0 : Bnd me nw C) (hB2 : Bnd2 me nw C) (hG : Gd me nw C M hd u tw iv h R) (hZ : Zr me nw (clm C) h R me) (hC : (∀ j, j < nw → 0 ≤ cd (me + 1) R (clm C j) me)) : Met l yX0_reachesRightSides wsX0_reachesRightSides ({ frames := 3, cells := 0, slots := 0, locals := 101 }) (va_Pc [.ref h0] (fun U => U.heap.size = sz ∧ va_P (dC, dI) vwCl (wgW h0 qc qh r cA cI cJ me nw u tw iv hd M) U.heap ∧ va_K (dC, dI) vwCl (wgT cA cI cJ) U ∧ va_D (fun _ => True) (wgW h0 qc qh r cA cI cJ me nw u tw iv hd M))) (va_Qi (fun (x : Int32) (v : wgS) => (x = 1 ∧ GdS me nw C v ∧ (∀ j, j < nw → 0 ≤ cd (me + 1) v.2.2.2.2.2.2 (clm C j) me) ∧ (∀ i, i < me → v.2.2.2.2.2.1 i = none → cd (me + 1) v.2.2.2.2.2.2 (clm C nw) i = 0) ∧ ∀ i j, i < me → v.2.2.2.2.2.1 i = some j → 0 ≤ cd (me + 1) v.2.2.2.2.2.2 (clm C nw) i) ∨ (x = 0 ∧ (∃ z : Nat → Rat, (∀ j, j < nw → 0 ≤ sm me (fun t => z t * clm C j t)) ∧ sm me (fun t => z t * clm C nw t) < 0))) (fun v t => va_P (dC, dI) vwCl (wgW h0 qc qh r cA cI cJ me nw v.2.2.1 v.2.2.2.1 v.2.2.2.2.1 v.2.1 v.1) t.heap ∧ va_K (dC, dI) vwCl (wgT cA cI cJ) t ∧ va_D (va_A (wgW h0 qc qh r cA cI cJ me nw u tw iv hd M) sz) (wgW h0 qc qh r cA cI cJ me nw v.2.2.1 v.2.2.2.1 v.2.2.2.2.1 v.2.1 v.1)) (va_A (wgW h0 qc qh r cA cI cJ me nw u tw iv hd M) sz)) 0 0 (va_A (wgW h0 qc qh r cA cI cJ me nw u tw iv hd M) sz) := by
  refine Met.ofW (cc := cX0_reachesRightSides) (maxL := 4) (ret := (some .boolean)) (by decide) rfl ?_
  intro p e s m args below meth c s₁ B hml hv
  obtain ⟨rfl, hsz, hP, hK, hD0⟩ := hv
  have hx := B.exec
  have hb := B.bytes
  have hr := B.returns
  have hts := atoms_spec (ws := wsX0_reachesRightSides) B.pre
  have hown : s.vm.findClass RX0 = some m.cls := findClass_of_methodNamed B.named
  subst hsz
  have hD := hD0.self (sz := s.heap.size)
  clear hD0
  generalize hAe : va_A (wgW h0 qc qh r cA cI cJ me nw u tw iv hd M) s.heap.size = A at hD ⊢
  have hA : ∀ q : Nat, s.heap.size ≤ q → A q := fun q h => by rw [← hAe]; exact Or.inr h
  have hl := lv_entry ([.ref h0]) (n := 4) (Nat.le_of_ble_eq_true rfl)
  rw [lg_entry_eq]
  generalize (lg_sl ([.ref h0]) ++ List.replicate (4 - (lg_sl ([.ref h0])).length) Slot.unset).toArray = ls at hl ⊢
  have hl : lv_has ls 4 [(0, .ref h0)] := hl
  have hP : va_P (dC, dI) vwCl (wgW h0 qc qh r cA cI cJ me nw u tw iv hd M) s.heap := hP
  obtain ⟨H, hH⟩ : ∃ H, H = s.heap := ⟨_, rfl⟩
  have hS : va_S A s.heap H [] := by rw [hH]; exact va_S.rf
  rw [← hH] at hP ⊢
  refine lv_aload_n hx hb dX0_reachesRightSides_0 rfl (lv_at hl 0 rfl) ?_
  have hoI : ∀ i, i < me → (hd i = -1 ↔ h i = none) := fun i hi => by rw [hG.2.2.2.2 i hi]; exact oI_none (fun j q => by have := hG.1.2 i j hi q; omega)
  have hFc : ∀ q, va_A (wgW h0 qc qh r cA cI cJ me nw u tw iv hd M) H.size q → A q := va_fall hD hS hA
  refine va_calli (va_runV (As := []) (rest := []) ⟨hx, hb, hml, hown, hts⟩ (c_X0_hasBareContradiction l dC dI h0 qc qh r cA cI cJ H.size me nw u tw iv hd M hm hn) (cwV 0 hts gX0_reachesRightSides_X0_hasBareContradiction rfl rfl rfl (by decide +kernel) ⟨Nat.le_of_ble_eq_true rfl, Nat.le_of_ble_eq_true rfl⟩) ⟨fun a U g mk q => by obtain ⟨q0, q1, qP, qK, qD⟩ := q; exact ⟨q0, q1, qP, va_K.moved (u := U) (U := U.calling g mk a) (Vm.Alike.refl U.vm) qK, qD⟩, va_recv hK hP (ci := 0) (q0 := 0) rfl rfl, fun U hU hW => ⟨rfl, by rw [hU], by rw [hU]; exact hP, va_K.moved hW.alike hK, hD.weaken (fun _ _ _ _ => trivial)⟩⟩ rfl rfl hl.1 rfl (lv_room (Nat.le_of_ble_eq_true rfl)) dX0_reachesRightSides_1 ⟨(Nat.zero_le _), (Nat.zero_le _)⟩) hS (fun q _ h => hFc q h) hFc (fun r_1 v9 t H1 locs ht hvm hw hB hz1 hk1 hS => ?_)
  obtain ⟨hP1, hK1, hD1⟩ := hB
  rw [ht] at hP1
  clear hP hD hK
  have hK := va_K.moved hvm.symm hK1
  have hP := hP1
  have hD := hD1.weaken (B := A) (fun _ q _ h => hFc q.1 h)
  clear hP1 hD1 hK1 hFc hk1 hz1 ht hvm
  generalize H1 = H at hP hS ⊢
  rcases hw with ⟨rfl, i9, hi9, hh9, hz9⟩ | ⟨rfl, hz⟩
  · refine lv_if_eq (tgt := 9) hx hb dX0_reachesRightSides_4 (by decide) (fun c1 => ?_) (fun c1 => ?_)
    · exact absurd c1 (by decide)
    · rw [hoI i9 hi9] at hh9
      have q1 : cd (me + 1) R (clm C nw) i9 ≠ 0 := fun q => hz9 ((Gd_zero hG (by omega) (Nat.le_refl _)).mpr q)
      have q2 : (∃ z : Nat → Rat, (∀ j, j < nw → 0 ≤ sm me (fun t => z t * clm C j t)) ∧ sm me (fun t => z t * clm C nw t) < 0) := by
        by_cases q3 : cd (me + 1) R (clm C nw) i9 < 0
        · exact ⟨fun t => R i9 t, fun j hj => by rw [← Stt_row hG.1 hi9, hZ i9 hi9 hh9 j hj]; grind, by rw [← Stt_row hG.1 hi9]; exact q3⟩
        · have e1 : ∀ v : Nat → Rat, sm me (fun t => -R i9 t * v t) = -cd (me + 1) R v i9 := fun v => by
            rw [Stt_row hG.1 hi9, show sm me (fun t => -R i9 t * v t) = sm me (fun t => (-1) * (R i9 t * v t)) from sm_congr (fun t _ => by grind), sm_mul]; grind
          exact ⟨fun t => -R i9 t, fun j hj => by rw [e1, hZ i9 hi9 hh9 j hj]; grind, by rw [e1]; grind⟩
      refine lv_iconst (v := nI 0) hx hb dX0_reachesRightSides_7 (by decide) ?_
      exact W.zret (v := (nI 0)) hx hb hr (by rfl) (fun t ht hW => ⟨⟨(nI 0), (M, hd, u, tw, iv, h, R), rfl, Or.inr ⟨rfl, q2⟩, by rw [ht]; exact hP, va_K.moved hW.alike hK, hD⟩, hS.F ht⟩) hS.2.2 dX0_reachesRightSides_8
  · refine lv_if_eq (tgt := 9) hx hb dX0_reachesRightSides_4 (by decide) (fun c1 => ?_) (fun c1 => ?_)
    · have hBz : (∀ i, i < me → h i = none → cd (me + 1) R (clm C nw) i = 0) := fun i hi q => (Gd_zero hG (by omega) (Nat.le_refl _)).mp (hz i hi ((hoI i hi).mpr q))
      clear hz c1 hoI
      refine lv_iconst (v := nI 0) hx hb dX0_reachesRightSides_9 (by decide) ?_
      refine lv_istore_n (lv' := [(1, .int (nI 0)), (0, .ref h0)]) hx hb dX0_reachesRightSides_10 rfl hl (by decide) rfl (fun ls hl => ?_)
      have loop : ∀ (d k : Nat) (M : Nat → Nat → Int64) (hd : Nat → Int32) (u : Int64) (tw : Int32) (iv : Int64) (h : Nat → Option Nat) (R : Nat → Nat → Rat) (H : Heap) (locs : List Loc) (ls : Array Slot), k + d = 1000000 → Gd me nw C M hd u tw iv h R → Zr me nw (clm C) h R me → (∀ j, j < nw → 0 ≤ cd (me + 1) R (clm C j) me) → (∀ i, i < me → h i = none → cd (me + 1) R (clm C nw) i = 0) → HiD me nw (clm C) (clm C nw) k h R → va_P (dC, dI) vwCl (wgW h0 qc qh r cA cI cJ me nw u tw iv hd M) H → va_K (dC, dI) vwCl (wgT cA cI cJ) s → va_D A (wgW h0 qc qh r cA cI cJ me nw u tw iv hd M) → va_S A s.heap H locs → lv_has ls 4 [(1, .int (nI k)), (0, .ref h0)] → W p l e (headSpec wsX0_reachesRightSides ({ frames := 3, cells := 0, slots := 0, locals := 101 })).room s m #[.ref h0] below meth c H locs 0 0 (MQ below (va_Qi (fun (x : Int32) (v : wgS) => (x = 1 ∧ GdS me nw C v ∧ (∀ j, j < nw → 0 ≤ cd (me + 1) v.2.2.2.2.2.2 (clm C j) me) ∧ (∀ i, i < me → v.2.2.2.2.2.1 i = none → cd (me + 1) v.2.2.2.2.2.2 (clm C nw) i = 0) ∧ ∀ i j, i < me → v.2.2.2.2.2.1 i = some j → 0 ≤ cd (me + 1) v.2.2.2.2.2.2 (clm C nw) i) ∨ (x = 0 ∧ (∃ z : Nat → Rat, (∀ j, j < nw → 0 ≤ sm me (fun t => z t * clm C j t)) ∧ sm me (fun t => z t * clm C nw t) < 0))) (fun v t => va_P (dC, dI) vwCl (wgW h0 qc qh r cA cI cJ me nw v.2.2.1 v.2.2.2.1 v.2.2.2.2.1 v.2.1 v.1) t.heap ∧ va_K (dC, dI) vwCl (wgT cA cI cJ) t ∧ va_D A (wgW h0 qc qh r cA cI cJ me nw v.2.2.1 v.2.2.2.1 v.2.2.2.2.1 v.2.1 v.1)) A) #[.ref h0] s 0 0 A) (F0 m 11 ls []) := by
        clear hP hK hD hS hl hG hZ hC hBz
        intro d
        induction d with
        | zero =>
          intro k M hd u tw iv h R H locs ls hk hG hZ hC hBz hH hP hK hD hS hl
          have h1 := HiD_lt hG.1 hBz hH
          have h2 : 2 ^ nw ≤ 2 ^ 16 := Nat.pow_le_pow_right (by omega) (by omega)
          omega
        | succ d ih =>
          intro k M hd u tw iv h R H locs ls hk hG hZ hC hBz hH hP hK hD hS hl
          have hoI : ∀ i, i < me → (hd i = -1 ↔ h i = none) := fun i hi => by rw [hG.2.2.2.2 i hi]; exact oI_none (fun j q => by have := hG.1.2 i j hi q; omega)
          refine lv_iload_n hx hb dX0_reachesRightSides_11 rfl (lv_at hl 0 rfl) ?_
          refine lv_ldc (v := nI 1000000) hx hb hown (hts (.constant RX0 59 (1000000)) (List.mem_of_getElem? (i := 1) rfl)) dX0_reachesRightSides_12 ?_
          refine lv_icmp_ge (tgt := 54) hx hb dX0_reachesRightSides_14 (by decide) (fun c1 => ?_) (fun c1 => ?_)
          · exact absurd c1 (nI_ge (by omega) (by omega))
          · refine lv_aload_n hx hb dX0_reachesRightSides_17 rfl (lv_at hl 1 rfl) ?_
            have hFc : ∀ q, va_A (wgW h0 qc qh r cA cI cJ me nw u tw iv hd M) H.size q → A q := va_fall hD hS hA
            refine va_calli (va_runV (As := []) (rest := []) ⟨hx, hb, hml, hown, hts⟩ (c_X0_rowBelowZero l dC dI h0 qc qh r cA cI cJ H.size me nw u tw iv hd M hm hn) (cwV 0 hts gX0_reachesRightSides_X0_rowBelowZero rfl rfl rfl (by decide +kernel) ⟨Nat.le_of_ble_eq_true rfl, Nat.le_of_ble_eq_true rfl⟩) ⟨fun a U g mk q => by obtain ⟨q0, q1, qP, qK, qD⟩ := q; exact ⟨q0, q1, qP, va_K.moved (u := U) (U := U.calling g mk a) (Vm.Alike.refl U.vm) qK, qD⟩, va_recv hK hP (ci := 0) (q0 := 0) rfl rfl, fun U hU hW => ⟨rfl, by rw [hU], by rw [hU]; exact hP, va_K.moved hW.alike hK, hD.weaken (fun _ _ _ _ => trivial)⟩⟩ rfl rfl hl.1 rfl (lv_room (Nat.le_of_ble_eq_true rfl)) dX0_reachesRightSides_18 ⟨(Nat.zero_le _), (Nat.zero_le _)⟩) hS (fun q _ h => hFc q h) hFc (fun r_18 v9 t H1 locs ht hvm hw hB hz1 hk1 hS => ?_)
            obtain ⟨hP1, hK1, hD1⟩ := hB
            rw [ht] at hP1
            clear hP hD hK
            have hK := va_K.moved hvm.symm hK1
            have hP := hP1
            have hD := hD1.weaken (B := A) (fun _ q _ h => hFc q.1 h)
            clear hP1 hD1 hK1 hFc hk1 hz1 ht hvm
            generalize H1 = H at hP hS ⊢
            rcases hw with ⟨rfl, hz⟩ | ⟨b9, hb1, rfl, hb2, hb3, hb4⟩
            · refine lv_istore_n (lv' := [(2, .int (-1)), (1, .int (nI k)), (0, .ref h0)]) hx hb dX0_reachesRightSides_21 rfl hl (by decide) rfl (fun ls hl => ?_)
              refine lv_iload_n hx hb dX0_reachesRightSides_22 rfl (lv_at hl 0 rfl) ?_
              refine lv_iconst (v := (-1)) hx hb dX0_reachesRightSides_23 (by decide) ?_
              refine lv_icmp_ne (tgt := 29) hx hb dX0_reachesRightSides_24 (by decide) (fun c2 => ?_) (fun c2 => ?_)
              · exact absurd rfl c2
              · refine lv_iconst (v := nI 1) hx hb dX0_reachesRightSides_27 (by decide) ?_
                exact W.zret (v := (nI 1)) hx hb hr (by rfl) (fun t ht hW => ⟨⟨(nI 1), (M, hd, u, tw, iv, h, R), rfl, Or.inl ⟨rfl, hG, hC, hBz, fun i j hi q => by
                  apply Rat.not_lt.mp
                  intro q2
                  have q3 := hz i hi ((Gd_neg hG (by omega) (Nat.le_refl _)).mpr q2)
                  have q : h i = some j := q
                  rw [hoI i hi, q] at q3
                  cases q3⟩, by rw [ht]; exact hP, va_K.moved hW.alike hK, hD⟩, hS.F ht⟩) hS.2.2 dX0_reachesRightSides_28
            · refine lv_istore_n (lv' := [(2, .int (nI b9)), (1, .int (nI k)), (0, .ref h0)]) hx hb dX0_reachesRightSides_21 rfl hl (by decide) rfl (fun ls hl => ?_)
              refine lv_iload_n hx hb dX0_reachesRightSides_22 rfl (lv_at hl 0 rfl) ?_
              refine lv_iconst (v := (-1)) hx hb dX0_reachesRightSides_23 (by decide) ?_
              refine lv_icmp_ne (tgt := 29) hx hb dX0_reachesRightSides_24 (by decide) (fun c2 => ?_) (fun c2 => ?_)
              · rw [Gd_neg hG (by omega) (Nat.le_refl _)] at hb2
                obtain ⟨o9, ho9⟩ : ∃ o, h b9 = some o := by
                  cases q : h b9 with
                  | none => exact absurd ((hoI b9 hb1).mpr q) hb3
                  | some o => exact ⟨o, rfl⟩
                refine lv_aload_n hx hb dX0_reachesRightSides_29 rfl (lv_at hl 2 rfl) ?_
                refine lv_iload_n hx hb dX0_reachesRightSides_30 rfl (lv_at hl 0 rfl) ?_
                have hFc : ∀ q, va_A (wgW h0 qc qh r cA cI cJ me nw u tw iv hd M) H.size q → A q := va_fall hD hS hA
                refine va_calli (va_runV (As := [.int (nI b9)]) (rest := []) ⟨hx, hb, hml, hown, hts⟩ (c_X0_columnThatLifts l dC dI h0 qc qh r cA cI cJ H.size me nw u tw iv hd M b9 (fun j => cd (me + 1) R (clm C j) me / (-cd (me + 1) R (clm C j) b9)) hm (by omega) hn (fun j o hj ho n1 n2 => Gd_cheap hB2 hG hb1 hj ho ((Gd_neg hG (by omega) (by omega)).mp n1) ((Gd_neg hG (by omega) (by omega)).mp n2))) (cwV 1 hts gX0_reachesRightSides_X0_columnThatLifts rfl rfl rfl (by decide +kernel) ⟨Nat.le_of_ble_eq_true rfl, Nat.le_of_ble_eq_true rfl⟩) ⟨fun a U g mk q => by obtain ⟨q0, q1, qP, qK, qD⟩ := q; exact ⟨q0, q1, qP, va_K.moved (u := U) (U := U.calling g mk a) (Vm.Alike.refl U.vm) qK, qD⟩, va_recv hK hP (ci := 0) (q0 := 0) rfl rfl, fun U hU hW => ⟨rfl, by rw [hU], by rw [hU]; exact hP, va_K.moved hW.alike hK, hD.weaken (fun _ _ _ _ => trivial)⟩⟩ rfl rfl hl.1 rfl (lv_room (Nat.le_of_ble_eq_true rfl)) dX0_reachesRightSides_31 ⟨(Nat.zero_le _), (Nat.zero_le _)⟩) hS (fun q _ h => hFc q h) hFc (fun r_31 v9 t H1 locs ht hvm hw hB hz1 hk1 hS => ?_)
                obtain ⟨hP1, hK1, hD1⟩ := hB
                rw [ht] at hP1
                clear hP hD hK
                have hK := va_K.moved hvm.symm hK1
                have hP := hP1
                have hD := hD1.weaken (B := A) (fun _ q _ h => hFc q.1 h)
                clear hP1 hD1 hK1 hFc hk1 hz1 ht hvm
                generalize H1 = H at hP hS ⊢
                rcases hw with ⟨rfl, hz⟩ | ⟨c9, hc1, rfl, hc2, hc3⟩
                · refine lv_istore_n (lv' := [(3, .int (-1)), (2, .int (nI b9)), (1, .int (nI k)), (0, .ref h0)]) hx hb dX0_reachesRightSides_34 rfl hl (by decide) rfl (fun ls hl => ?_)
                  refine lv_iload_n hx hb dX0_reachesRightSides_35 rfl (lv_at hl 0 rfl) ?_
                  refine lv_iconst (v := (-1)) hx hb dX0_reachesRightSides_36 (by decide) ?_
                  refine lv_icmp_ne (tgt := 42) hx hb dX0_reachesRightSides_37 (by decide) (fun c3 => ?_) (fun c3 => ?_)
                  · exact absurd rfl c3
                  · refine lv_iconst (v := nI 0) hx hb dX0_reachesRightSides_40 (by decide) ?_
                    exact W.zret (v := (nI 0)) hx hb hr (by rfl) (fun t ht hW => ⟨⟨(nI 0), (M, hd, u, tw, iv, h, R), rfl, Or.inr ⟨rfl, fun t => R b9 t, fun j hj => by rw [← Stt_row hG.1 hb1]; exact Rat.not_lt.mp (fun q => hz j hj ((Gd_neg hG (by omega) (by omega)).mpr q)), by rw [← Stt_row hG.1 hb1]; exact hb2⟩, by rw [ht]; exact hP, va_K.moved hW.alike hK, hD⟩, hS.F ht⟩) hS.2.2 dX0_reachesRightSides_41
                · refine lv_istore_n (lv' := [(3, .int (nI c9)), (2, .int (nI b9)), (1, .int (nI k)), (0, .ref h0)]) hx hb dX0_reachesRightSides_34 rfl hl (by decide) rfl (fun ls hl => ?_)
                  refine lv_iload_n hx hb dX0_reachesRightSides_35 rfl (lv_at hl 0 rfl) ?_
                  refine lv_iconst (v := (-1)) hx hb dX0_reachesRightSides_36 (by decide) ?_
                  refine lv_icmp_ne (tgt := 42) hx hb dX0_reachesRightSides_37 (by decide) (fun c3 => ?_) (fun c3 => ?_)
                  · refine lv_aload_n hx hb dX0_reachesRightSides_42 rfl (lv_at hl 3 rfl) ?_
                    refine lv_iload_n hx hb dX0_reachesRightSides_43 rfl (lv_at hl 1 rfl) ?_
                    refine lv_iload_n hx hb dX0_reachesRightSides_44 rfl (lv_at hl 0 rfl) ?_
                    have hFc : ∀ q, va_A (wgW h0 qc qh r cA cI cJ me nw u tw iv hd M) H.size q → A q := va_fall hD hS hA
                    refine va_callv (va_runV (As := [.int (nI b9), .int (nI c9)]) (rest := []) ⟨hx, hb, hml, hown, hts⟩ (c_X0_exchange l dC dI h0 qc qh r cA cI cJ H.size me nw u tw iv hd M b9 c9 hm hn hb1 hc1) (cwV 2 hts gX0_reachesRightSides_X0_exchange rfl rfl rfl (by decide +kernel) ⟨Nat.le_of_ble_eq_true rfl, Nat.le_of_ble_eq_true rfl⟩) ⟨fun a U g mk q => by obtain ⟨q0, q1, qP, qK, qD⟩ := q; exact ⟨q0, q1, qP, va_K.moved (u := U) (U := U.calling g mk a) (Vm.Alike.refl U.vm) qK, qD⟩, va_recv hK hP (ci := 0) (q0 := 0) rfl rfl, fun U hU hW => ⟨rfl, by rw [hU], by rw [hU]; exact hP, va_K.moved hW.alike hK, hD.weaken (fun _ _ _ _ => trivial)⟩⟩ rfl rfl hl.1 rfl (lv_room (Nat.le_of_ble_eq_true rfl)) dX0_reachesRightSides_45 ⟨(Nat.zero_le _), (Nat.zero_le _)⟩) hS (fun q _ h => hFc q h) hFc (fun v9 t H1 locs ht hvm hw hB hz1 hk1 hS => ?_)
                    obtain ⟨hP1, hK1, hD1⟩ := hB
                    rw [ht] at hP1
                    clear hP hD hK
                    have hK := va_K.moved hvm.symm hK1
                    have hP := hP1
                    have hD := hD1.weaken (B := A) (fun _ q _ h => hFc q.1 h)
                    clear hP1 hD1 hK1 hFc hk1 hz1 ht hvm
                    generalize H1 = H at hP hS ⊢
                    refine lv_iinc (v := nI (k + 1)) (lv' := [(1, .int (nI (k + 1))), (3, .int (nI c9)), (2, .int (nI b9)), (0, .ref h0)]) hx hb dX0_reachesRightSides_48 hl (k := 2) rfl (nI_1 _) (by decide) rfl (fun ls hl => ?_)
                    refine lv_goto (tgt := 11) hx hb dX0_reachesRightSides_51 (by decide) ?_
                    rw [Gd_neg hG (by omega) (by omega)] at hc2
                    have hn9 : ∀ j, j < nw → cd (me + 1) R (clm C j) b9 < 0 → M b9 j < 0 := fun j hj q => (Gd_neg hG (by omega) (by omega)).mpr q
                    have G2 := Gd_x hB0 hG hb1 hc1 (fun q => by have := (Gd_zero hG (show b9 ≤ me by omega) (show c9 ≤ nw by omega)).mp q; grind)
                    have hS9 : StD me nw (clm C) (clm C nw) h R c9 o9 b9 := ⟨hG.1, hBz, hc1, hb1, ho9, hC, hb2, fun i j hi q q2 => by
                      have q3 := hb4 i hi ((Gd_neg hG (by omega) (Nat.le_refl _)).mpr q2) (fun q4 => by rw [hoI i hi, q] at q4; cases q4)
                      rw [hG.2.2.2.2 i hi, hG.2.2.2.2 b9 hb1, q, ho9] at q3
                      exact Nat.not_lt.mp (fun q5 => q3 (nI_lt q5 (by have := hG.1.2 b9 o9 hb1 ho9; omega))), hc2, fun j hj q => rq_9 q hc2 ((hc3 j (by omega) (hn9 j (by omega) q)).2 hj)⟩
                    refine ih (k + 1) (xcM tw iv M b9 c9 me nw) (upd hd b9 (nI c9)) (xcS M b9 c9 nw b9 c9) (bcF (((xcS M b9 c9 nw b9 c9) &&& -(xcS M b9 c9 nw b9 c9)) - 1)) (nwF (sr (xcS M b9 c9 nw b9 c9) (bcF (((xcS M b9 c9 nw b9 c9) &&& -(xcS M b9 c9 nw b9 c9)) - 1))) 5) (fup h b9 (some c9)) (pv (me + 1) R b9 (clm C c9)) H _ ls (by omega) G2 (fun i hi hni j hj => ?_) (fun j hj => ?_) (fun i hi hni => ?_) (HiD_s hH hS9) hP hK hD hS (lv_sub hl [0, 3] rfl)
                    · by_cases e9 : i = b9
                      · subst e9; rw [fup_s] at hni; cases hni
                      · rw [fup_n _ _ e9] at hni; exact Zr_pv hZ hc1 i (by omega) e9 hni j hj
                    · rw [pv_o _ _ (show me ≠ b9 by omega)]
                      exact rq_10 (hC j hj) (hC c9 hc1) hc2 (fun q => rq_8 q hc2 (hc3 j hj (hn9 j hj q)).1)
                    · by_cases e9 : i = b9
                      · subst e9; rw [fup_s] at hni; cases hni
                      · rw [fup_n _ _ e9] at hni; rw [pv_o _ _ e9, hBz i hi hni, hZ i hi hni c9 hc1]; grind
                  · exact absurd c3 (nI_m1 (by omega))
              · exact absurd c2 (nI_m1 (by omega))
      exact loop 1000000 0 M hd u tw iv h R H _ ls (by omega) hG hZ hC hBz HiD_0 hP hK hD hS (lv_sub hl [0, 1] rfl)
    · exact absurd rfl c1
