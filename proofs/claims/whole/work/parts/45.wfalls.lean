/-! ===== Weighing: holdColumns, fallsForEver, reachesRightSides: what their answers mean ===== -/
abbrev wgS : Type := (Nat → Nat → Int64) × (Nat → Int32) × Int64 × Int32 × Int64 × (Nat → Option Nat) × (Nat → Nat → Rat)
abbrev GdS (me nw : Nat) (C : Nat → Nat → Int) (v : wgS) : Prop := Gd me nw C v.1 v.2.1 v.2.2.1 v.2.2.2.1 v.2.2.2.2.1 v.2.2.2.2.2.1 v.2.2.2.2.2.2
theorem Gd_zero {me nw : Nat} {C : Nat → Nat → Int} {M : Nat → Nat → Int64} {hd : Nat → Int32} {u : Int64} {tw : Int32} {iv : Int64} {h : Nat → Option Nat} {R : Nat → Nat → Rat} (G : Gd me nw C M hd u tw iv h R) {i j : Nat} (hi : i ≤ me) (hj : j ≤ nw) : M i j = 0 ↔ cd (me + 1) R (clm C j) i = 0 := by
  have h1 := G.2.2.2.1 i j hi hj
  have h2 : (0 : Rat) < (u.toInt : Rat) := Rat.intCast_lt_intCast.mpr G.2.1.1
  constructor
  · intro q
    rw [q, show (0 : Int64).toInt = 0 from rfl] at h1
    rcases Rat.mul_eq_zero.mp h1.symm with q2 | q2
    · grind
    · exact q2
  · intro q
    rw [q, Rat.mul_zero] at h1
    exact Int64.toInt_inj.mp (Rat.intCast_inj.mp h1)
theorem Gd_neg {me nw : Nat} {C : Nat → Nat → Int} {M : Nat → Nat → Int64} {hd : Nat → Int32} {u : Int64} {tw : Int32} {iv : Int64} {h : Nat → Option Nat} {R : Nat → Nat → Rat} (G : Gd me nw C M hd u tw iv h R) {i j : Nat} (hi : i ≤ me) (hj : j ≤ nw) : M i j < 0 ↔ cd (me + 1) R (clm C j) i < 0 := by
  have h1 := G.2.2.2.1 i j hi hj
  have h2 : (0 : Rat) < (u.toInt : Rat) := Rat.intCast_lt_intCast.mpr G.2.1.1
  have h3 : M i j < 0 ↔ ((M i j).toInt : Rat) < 0 := by
    rw [Int64.lt_iff_toInt_lt]
    exact (Rat.intCast_lt_intCast (a := (M i j).toInt) (b := 0)).symm
  rw [h3, h1]
  constructor
  · intro q
    apply Classical.byContradiction
    intro q2
    have := Rat.mul_nonneg (Rat.le_of_lt h2) (Rat.not_lt.mp q2)
    grind
  · intro q
    have := Rat.mul_pos h2 (show 0 < -cd (me + 1) R (clm C j) i by grind)
    grind
theorem Gd_pos {me nw : Nat} {C : Nat → Nat → Int} {M : Nat → Nat → Int64} {hd : Nat → Int32} {u : Int64} {tw : Int32} {iv : Int64} {h : Nat → Option Nat} {R : Nat → Nat → Rat} (G : Gd me nw C M hd u tw iv h R) {i j : Nat} (hi : i ≤ me) (hj : j ≤ nw) : 0 < M i j ↔ 0 < cd (me + 1) R (clm C j) i := by
  have h1 := G.2.2.2.1 i j hi hj
  have h2 : (0 : Rat) < (u.toInt : Rat) := Rat.intCast_lt_intCast.mpr G.2.1.1
  have h3 : 0 < M i j ↔ 0 < ((M i j).toInt : Rat) := by
    rw [Int64.lt_iff_toInt_lt]
    exact (Rat.intCast_lt_intCast (a := 0) (b := (M i j).toInt)).symm
  rw [h3, h1]
  constructor
  · intro q
    apply Classical.byContradiction
    intro q2
    have := Rat.mul_nonneg (Rat.le_of_lt h2) (show 0 ≤ -cd (me + 1) R (clm C j) i by grind)
    grind
  · intro q
    exact Rat.mul_pos h2 q
theorem oI_none {o : Option Nat} (h : ∀ j, o = some j → j < 2 ^ 31) : oI o = -1 ↔ o = none := by
  cases o with
  | none => simp [oI]
  | some k => simp [oI]; exact nI_m1 (h k rfl)
/-- a row that holds none keeps its zeros -/
theorem Zr_pv {me nw : Nat} {col : Nat → Nat → Rat} {h : Nat → Option Nat} {R : Nat → Nat → Rat} {k r c : Nat} (hZ : Zr me nw col h R k) (hc : c < nw) : ∀ i, i < k → i ≠ r → h i = none → ∀ j, j < nw → cd (me + 1) (pv (me + 1) R r (col c)) (col j) i = 0 := fun i hi hr hn j hj => by
  rw [pv_o _ _ hr, hZ i hi hn j hj, hZ i hi hn c hc]; grind
set_option maxHeartbeats 1000000 in
set_option maxRecDepth 100000 in
/-- holdColumns(): each row holds a column, or has nothing of any -/
theorem c_X0_holdColumns (l : Launch) (dC : Nat → ClassId) (dI : Nat → Nat → Nat) (h0 qc qh : Nat) (r : Nat → Nat) (cA cI cJ : ClassId) (sz : Nat) (me nw : Nat) (u : Int64) (tw : Int32) (iv : Int64) (hd : Nat → Int32) (M : Nat → Nat → Int64) (C : Nat → Nat → Int) (h : Nat → Option Nat) (R : Nat → Nat → Rat) (hm : me < 10) (hn : nw < 17) (hB0 : Bnd me nw C) (hG : Gd me nw C M hd u tw iv h R) (hno : ∀ i, i < me → h i = none) : Met l yX0_holdColumns wsX0_holdColumns ({ frames := 3, cells := 0, slots := 0, locals := 101 }) (va_Pc [.ref h0] (fun U => U.heap.size = sz ∧ va_P (dC, dI) vwCl (wgW h0 qc qh r cA cI cJ me nw u tw iv hd M) U.heap ∧ va_K (dC, dI) vwCl (wgT cA cI cJ) U ∧ va_D (fun _ => True) (wgW h0 qc qh r cA cI cJ me nw u tw iv hd M))) (va_Qv (fun v : wgS => GdS me nw C v ∧ Zr me nw (clm C) v.2.2.2.2.2.1 v.2.2.2.2.2.2 me) (fun v t => va_P (dC, dI) vwCl (wgW h0 qc qh r cA cI cJ me nw v.2.2.1 v.2.2.2.1 v.2.2.2.2.1 v.2.1 v.1) t.heap ∧ va_K (dC, dI) vwCl (wgT cA cI cJ) t ∧ va_D (va_A (wgW h0 qc qh r cA cI cJ me nw u tw iv hd M) sz) (wgW h0 qc qh r cA cI cJ me nw v.2.2.1 v.2.2.2.1 v.2.2.2.2.1 v.2.1 v.1)) (va_A (wgW h0 qc qh r cA cI cJ me nw u tw iv hd M) sz)) 0 0 (va_A (wgW h0 qc qh r cA cI cJ me nw u tw iv hd M) sz) := by
  refine Met.ofW (cc := cX0_holdColumns) (maxL := 3) (ret := none) (by decide) rfl ?_
  intro p e s m args below meth c s₁ B hml hv
  obtain ⟨rfl, hsz, hP, hK, hD0⟩ := hv
  have hx := B.exec
  have hb := B.bytes
  have hr := B.returns
  have hts := atoms_spec (ws := wsX0_holdColumns) B.pre
  have hown : s.vm.findClass RX0 = some m.cls := findClass_of_methodNamed B.named
  subst hsz
  have hD := hD0.self (sz := s.heap.size)
  clear hD0
  generalize hAe : va_A (wgW h0 qc qh r cA cI cJ me nw u tw iv hd M) s.heap.size = A at hD ⊢
  have hA : ∀ q : Nat, s.heap.size ≤ q → A q := fun q h => by rw [← hAe]; exact Or.inr h
  have hl := lv_entry ([.ref h0]) (n := 3) (Nat.le_of_ble_eq_true rfl)
  rw [lg_entry_eq]
  generalize (lg_sl ([.ref h0]) ++ List.replicate (3 - (lg_sl ([.ref h0])).length) Slot.unset).toArray = ls at hl ⊢
  have hl : lv_has ls 3 [(0, .ref h0)] := hl
  have hP : va_P (dC, dI) vwCl (wgW h0 qc qh r cA cI cJ me nw u tw iv hd M) s.heap := hP
  obtain ⟨H, hH⟩ : ∃ H, H = s.heap := ⟨_, rfl⟩
  have hS : va_S A s.heap H [] := by rw [hH]; exact va_S.rf
  rw [← hH] at hP ⊢
  refine lv_iconst (v := nI 0) hx hb dX0_holdColumns_0 (by decide) ?_
  refine lv_istore_n (lv' := [(1, .int (nI 0)), (0, .ref h0)]) hx hb dX0_holdColumns_1 rfl hl (by decide) rfl (fun ls hl => ?_)
  have loop : ∀ (d k : Nat) (M : Nat → Nat → Int64) (hd : Nat → Int32) (u : Int64) (tw : Int32) (iv : Int64) (h : Nat → Option Nat) (R : Nat → Nat → Rat) (H : Heap) (locs : List Loc) (ls : Array Slot), k + d = me → Gd me nw C M hd u tw iv h R → Zr me nw (clm C) h R k → (∀ i, k ≤ i → i < me → h i = none) → va_P (dC, dI) vwCl (wgW h0 qc qh r cA cI cJ me nw u tw iv hd M) H → va_K (dC, dI) vwCl (wgT cA cI cJ) s → va_D A (wgW h0 qc qh r cA cI cJ me nw u tw iv hd M) → va_S A s.heap H locs → lv_has ls 3 [(1, .int (nI k)), (0, .ref h0)] → W p l e (headSpec wsX0_holdColumns ({ frames := 3, cells := 0, slots := 0, locals := 101 })).room s m #[.ref h0] below meth c H locs 0 0 (MQ below (va_Qv (fun v : wgS => GdS me nw C v ∧ Zr me nw (clm C) v.2.2.2.2.2.1 v.2.2.2.2.2.2 me) (fun v t => va_P (dC, dI) vwCl (wgW h0 qc qh r cA cI cJ me nw v.2.2.1 v.2.2.2.1 v.2.2.2.2.1 v.2.1 v.1) t.heap ∧ va_K (dC, dI) vwCl (wgT cA cI cJ) t ∧ va_D A (wgW h0 qc qh r cA cI cJ me nw v.2.2.1 v.2.2.2.1 v.2.2.2.2.1 v.2.1 v.1)) A) #[.ref h0] s 0 0 A) (F0 m 2 ls []) := by
    clear hP hK hD hS hl hG hno
    intro d
    induction d with
    | zero =>
      intro k M hd u tw iv h R H locs ls hk hG hZ hno hP hK hD hS hl
      refine lv_iload_n hx hb dX0_holdColumns_2 rfl (lv_at hl 0 rfl) ?_
      refine lv_aload_n hx hb dX0_holdColumns_3 rfl (lv_at hl 1 rfl) ?_
      refine va_get (D := (dC, dI)) (ci := 0) (v := .int (nI me)) (C := RX0) (T := TX0) (N := 7) hx hb hts (fun _ h => List.mem_cons_of_mem _ (List.mem_append_right _ h)) hown hK hP 0 rfl rfl 2 (by decide) (hts (.fieldLink RX0 20 "RankFinder$Weighing" "equations" "I") (List.mem_of_getElem? (i := 1) rfl)) (fun _ h9 => h9) rfl dX0_holdColumns_4 ?_
      refine lv_icmp_ge (tgt := 33) hx hb dX0_holdColumns_7 (by decide) (fun c1 => ?_) (fun c1 => ?_)
      · obtain rfl : k = me := by omega
        exact W.vret hx hb hr (fun t ht hW => ⟨⟨(M, hd, u, tw, iv, h, R), rfl, ⟨hG, hZ⟩, by rw [ht]; exact hP, va_K.moved hW.alike hK, hD⟩, hS.F ht⟩) hS.2.2 dX0_holdColumns_33
      · exact absurd (nI_le (by omega) (by omega)) c1
    | succ d ih =>
      intro k M hd u tw iv h R H locs ls hk hG hZ hno hP hK hD hS hl
      refine lv_iload_n hx hb dX0_holdColumns_2 rfl (lv_at hl 0 rfl) ?_
      refine lv_aload_n hx hb dX0_holdColumns_3 rfl (lv_at hl 1 rfl) ?_
      refine va_get (D := (dC, dI)) (ci := 0) (v := .int (nI me)) (C := RX0) (T := TX0) (N := 7) hx hb hts (fun _ h => List.mem_cons_of_mem _ (List.mem_append_right _ h)) hown hK hP 0 rfl rfl 2 (by decide) (hts (.fieldLink RX0 20 "RankFinder$Weighing" "equations" "I") (List.mem_of_getElem? (i := 1) rfl)) (fun _ h9 => h9) rfl dX0_holdColumns_4 ?_
      refine lv_icmp_ge (tgt := 33) hx hb dX0_holdColumns_7 (by decide) (fun c1 => ?_) (fun c1 => ?_)
      · exact absurd c1 (nI_ge (by omega) (by omega))
      · refine lv_aload_n hx hb dX0_holdColumns_10 rfl (lv_at hl 1 rfl) ?_
        refine lv_iload_n hx hb dX0_holdColumns_11 rfl (lv_at hl 0 rfl) ?_
        have hFc : ∀ q, va_A (wgW h0 qc qh r cA cI cJ me nw u tw iv hd M) H.size q → A q := va_fall hD hS hA
        refine va_calli (va_runV (As := [.int (nI k)]) (rest := []) ⟨hx, hb, hml, hown, hts⟩ (c_X0_firstColumnOf l dC dI h0 qc qh r cA cI cJ H.size me nw u tw iv hd M k (by omega) hn) (cwV 1 hts gX0_holdColumns_X0_firstColumnOf rfl rfl rfl (by decide +kernel) ⟨Nat.le_of_ble_eq_true rfl, Nat.le_of_ble_eq_true rfl⟩) ⟨fun a U g mk q => by obtain ⟨q0, q1, qP, qK, qD⟩ := q; exact ⟨q0, q1, qP, va_K.moved (u := U) (U := U.calling g mk a) (Vm.Alike.refl U.vm) qK, qD⟩, va_recv hK hP (ci := 0) (q0 := 0) rfl rfl, fun U hU hW => ⟨rfl, by rw [hU], by rw [hU]; exact hP, va_K.moved hW.alike hK, hD.weaken (fun _ _ _ _ => trivial)⟩⟩ rfl rfl hl.1 rfl (lv_room (Nat.le_of_ble_eq_true rfl)) dX0_holdColumns_12 ⟨(Nat.zero_le _), (Nat.zero_le _)⟩) hS (fun q _ h => hFc q h) hFc (fun r_12 v9 t H1 locs ht hvm hw hB hz1 hk1 hS => ?_)
        obtain ⟨hP1, hK1, hD1⟩ := hB
        rw [ht] at hP1
        clear hP hD hK
        have hK := va_K.moved hvm.symm hK1
        have hP := hP1
        have hD := hD1.weaken (B := A) (fun _ q _ h => hFc q.1 h)
        clear hP1 hD1 hK1 hFc hk1 hz1 ht hvm
        generalize H1 = H at hP hS ⊢
        rcases hw with ⟨c9, hc1, rfl, hc2, hc3⟩ | ⟨rfl, hz⟩
        · refine lv_istore_n (lv' := [(2, .int (nI c9)), (1, .int (nI k)), (0, .ref h0)]) hx hb dX0_holdColumns_15 rfl hl (by decide) rfl (fun ls hl => ?_)
          refine lv_iload_n hx hb dX0_holdColumns_16 rfl (lv_at hl 0 rfl) ?_
          refine lv_iconst (v := (-1)) hx hb dX0_holdColumns_17 (by decide) ?_
          refine lv_icmp_eq (tgt := 27) hx hb dX0_holdColumns_18 (by decide) (fun c2 => ?_) (fun c2 => ?_)
          · exact absurd c2 (nI_m1 (by omega))
          · refine lv_aload_n hx hb dX0_holdColumns_21 rfl (lv_at hl 2 rfl) ?_
            refine lv_iload_n hx hb dX0_holdColumns_22 rfl (lv_at hl 1 rfl) ?_
            refine lv_iload_n hx hb dX0_holdColumns_23 rfl (lv_at hl 0 rfl) ?_
            have hFc : ∀ q, va_A (wgW h0 qc qh r cA cI cJ me nw u tw iv hd M) H.size q → A q := va_fall hD hS hA
            refine va_callv (va_runV (As := [.int (nI k), .int (nI c9)]) (rest := []) ⟨hx, hb, hml, hown, hts⟩ (c_X0_exchange l dC dI h0 qc qh r cA cI cJ H.size me nw u tw iv hd M k c9 hm hn (by omega) hc1) (cwV 2 hts gX0_holdColumns_X0_exchange rfl rfl rfl (by decide +kernel) ⟨Nat.le_of_ble_eq_true rfl, Nat.le_of_ble_eq_true rfl⟩) ⟨fun a U g mk q => by obtain ⟨q0, q1, qP, qK, qD⟩ := q; exact ⟨q0, q1, qP, va_K.moved (u := U) (U := U.calling g mk a) (Vm.Alike.refl U.vm) qK, qD⟩, va_recv hK hP (ci := 0) (q0 := 0) rfl rfl, fun U hU hW => ⟨rfl, by rw [hU], by rw [hU]; exact hP, va_K.moved hW.alike hK, hD.weaken (fun _ _ _ _ => trivial)⟩⟩ rfl rfl hl.1 rfl (lv_room (Nat.le_of_ble_eq_true rfl)) dX0_holdColumns_24 ⟨(Nat.zero_le _), (Nat.zero_le _)⟩) hS (fun q _ h => hFc q h) hFc (fun v9 t H1 locs ht hvm hw hB hz1 hk1 hS => ?_)
            obtain ⟨hP1, hK1, hD1⟩ := hB
            rw [ht] at hP1
            clear hP hD hK
            have hK := va_K.moved hvm.symm hK1
            have hP := hP1
            have hD := hD1.weaken (B := A) (fun _ q _ h => hFc q.1 h)
            clear hP1 hD1 hK1 hFc hk1 hz1 ht hvm
            generalize H1 = H at hP hS ⊢
            refine lv_iinc (v := nI (k + 1)) (lv' := [(1, .int (nI (k + 1))), (2, .int (nI c9)), (0, .ref h0)]) hx hb dX0_holdColumns_27 hl (k := 1) rfl (nI_1 _) (by decide) rfl (fun ls hl => ?_)
            refine lv_goto (tgt := 2) hx hb dX0_holdColumns_30 (by decide) ?_
            have G2 := Gd_x hB0 hG (show k < me by omega) hc1 hc2
            refine ih (k + 1) (xcM tw iv M k c9 me nw) (upd hd k (nI c9)) (xcS M k c9 nw k c9) (bcF (((xcS M k c9 nw k c9) &&& -(xcS M k c9 nw k c9)) - 1)) (nwF (sr (xcS M k c9 nw k c9) (bcF (((xcS M k c9 nw k c9) &&& -(xcS M k c9 nw k c9)) - 1))) 5) (fup h k (some c9)) (pv (me + 1) R k (clm C c9)) H _ ls (by omega) G2 (fun i hi hni j hj => ?_) (fun i hi hi2 => ?_) hP hK hD hS (lv_sub hl [0, 2] rfl)
            · by_cases e9 : i = k
              · subst e9; rw [fup_s] at hni; cases hni
              · rw [fup_n _ _ e9] at hni; exact Zr_pv hZ hc1 i (by omega) e9 hni j hj
            · rw [fup_n _ _ (show i ≠ k by omega)]; exact hno i (by omega) hi2
        · refine lv_istore_n (lv' := [(2, .int (-1)), (1, .int (nI k)), (0, .ref h0)]) hx hb dX0_holdColumns_15 rfl hl (by decide) rfl (fun ls hl => ?_)
          refine lv_iload_n hx hb dX0_holdColumns_16 rfl (lv_at hl 0 rfl) ?_
          refine lv_iconst (v := (-1)) hx hb dX0_holdColumns_17 (by decide) ?_
          refine lv_icmp_eq (tgt := 27) hx hb dX0_holdColumns_18 (by decide) (fun c2 => ?_) (fun c2 => ?_)
          · refine lv_iinc (v := nI (k + 1)) (lv' := [(1, .int (nI (k + 1))), (2, .int (-1)), (0, .ref h0)]) hx hb dX0_holdColumns_27 hl (k := 1) rfl (nI_1 _) (by decide) rfl (fun ls hl => ?_)
            refine lv_goto (tgt := 2) hx hb dX0_holdColumns_30 (by decide) ?_
            refine ih (k + 1) M hd u tw iv h R H _ ls (by omega) hG (fun i hi hni j hj => ?_) (fun i hi hi2 => hno i (by omega) hi2) hP hK hD hS (lv_sub hl [0, 2] rfl)
            by_cases e9 : i = k
            · subst e9; exact (Gd_zero hG (by omega) (by omega)).mp (hz j hj)
            · exact hZ i (by omega) hni j hj
          · exact absurd rfl c2
  exact loop me 0 M hd u tw iv h R H [] ls (by omega) hG (fun i hi => by omega) (fun i _ hi => hno i hi) hP hK hD hS (lv_sub hl [0, 1] rfl)
set_option maxHeartbeats 1000000 in
set_option maxRecDepth 100000 in
/-- fallsForEver() -/
theorem c_X0_fallsForEver (l : Launch) (dC : Nat → ClassId) (dI : Nat → Nat → Nat) (h0 qc qh : Nat) (r : Nat → Nat) (cA cI cJ : ClassId) (sz : Nat) (me nw : Nat) (u : Int64) (tw : Int32) (iv : Int64) (hd : Nat → Int32) (M : Nat → Nat → Int64) (C : Nat → Nat → Int) (h : Nat → Option Nat) (R : Nat → Nat → Rat) (hm : me < 10) (hn : nw < 17) (hB0 : Bnd me nw C) (hG : Gd me nw C M hd u tw iv h R) (hno : ∀ i, i < me → h i = none) : Met l yX0_fallsForEver wsX0_fallsForEver ({ frames := 4, cells := 0, slots := 0, locals := 123 }) (va_Pc [.ref h0] (fun U => U.heap.size = sz ∧ va_P (dC, dI) vwCl (wgW h0 qc qh r cA cI cJ me nw u tw iv hd M) U.heap ∧ va_K (dC, dI) vwCl (wgT cA cI cJ) U ∧ va_D (fun _ => True) (wgW h0 qc qh r cA cI cJ me nw u tw iv hd M))) (va_Qi (fun (x : Int32) (v : wgS) => (x = 1 ∧ (∃ w : Nat → Rat, (∀ j, j < nw → 0 ≤ w j) ∧ (∀ t, t < me → sm nw (fun j => w j * clm C j t) = 0) ∧ sm nw (fun j => w j * clm C j me) < 0)) ∨ (x = 0 ∧ GdS me nw C v ∧ Zr me nw (clm C) v.2.2.2.2.2.1 v.2.2.2.2.2.2 me ∧ ∀ j, j < nw → 0 ≤ cd (me + 1) v.2.2.2.2.2.2 (clm C j) me)) (fun v t => va_P (dC, dI) vwCl (wgW h0 qc qh r cA cI cJ me nw v.2.2.1 v.2.2.2.1 v.2.2.2.2.1 v.2.1 v.1) t.heap ∧ va_K (dC, dI) vwCl (wgT cA cI cJ) t ∧ va_D (va_A (wgW h0 qc qh r cA cI cJ me nw u tw iv hd M) sz) (wgW h0 qc qh r cA cI cJ me nw v.2.2.1 v.2.2.2.1 v.2.2.2.2.1 v.2.1 v.1)) (va_A (wgW h0 qc qh r cA cI cJ me nw u tw iv hd M) sz)) 0 0 (va_A (wgW h0 qc qh r cA cI cJ me nw u tw iv hd M) sz) := by
  refine Met.ofW (cc := cX0_fallsForEver) (maxL := 4) (ret := (some .boolean)) (by decide) rfl ?_
  intro p e s m args below meth c s₁ B hml hv
  obtain ⟨rfl, hsz, hP, hK, hD0⟩ := hv
  have hx := B.exec
  have hb := B.bytes
  have hr := B.returns
  have hts := atoms_spec (ws := wsX0_fallsForEver) B.pre
  have hown : s.vm.findClass RX0 = some m.cls := findClass_of_methodNamed B.named
  subst hsz
  have hD := hD0.self (sz := s.heap.size)
  clear hD0
  generalize hAe : va_A (wgW h0 qc qh r cA cI cJ me nw u tw iv hd M) s.heap.size = A at hD ⊢
  have hA : ∀ q : Nat, s.heap.size ≤ q → A q := fun q h => by rw [← hAe]; exact Or.inr h
  have hl := lv_entry ([.ref h0]) (n := 4) (Nat.le_of_ble_eq_true rfl)
  rw [lg_entry_eq]
  generalize (lg_sl ([.ref h0]) ++ List.replicate (4 - (lg_sl ([.ref h0])).length) Slot.unset).toArray = ls at hl ⊢
  have hl : lv_has ls 4 [(0, .ref h0)] := hl
  have hP : va_P (dC, dI) vwCl (wgW h0 qc qh r cA cI cJ me nw u tw iv hd M) s.heap := hP
  obtain ⟨H, hH⟩ : ∃ H, H = s.heap := ⟨_, rfl⟩
  have hS : va_S A s.heap H [] := by rw [hH]; exact va_S.rf
  rw [← hH] at hP ⊢
  refine lv_aload_n hx hb dX0_fallsForEver_0 rfl (lv_at hl 0 rfl) ?_
  have hFc : ∀ q, va_A (wgW h0 qc qh r cA cI cJ me nw u tw iv hd M) H.size q → A q := va_fall hD hS hA
  refine va_callv (va_runV (As := []) (rest := []) ⟨hx, hb, hml, hown, hts⟩ (c_X0_holdColumns l dC dI h0 qc qh r cA cI cJ H.size me nw u tw iv hd M C h R hm hn hB0 hG hno) (cwV 0 hts gX0_fallsForEver_X0_holdColumns rfl rfl rfl (by decide +kernel) ⟨Nat.le_of_ble_eq_true rfl, Nat.le_of_ble_eq_true rfl⟩) ⟨fun a U g mk q => by obtain ⟨q0, q1, qP, qK, qD⟩ := q; exact ⟨q0, q1, qP, va_K.moved (u := U) (U := U.calling g mk a) (Vm.Alike.refl U.vm) qK, qD⟩, va_recv hK hP (ci := 0) (q0 := 0) rfl rfl, fun U hU hW => ⟨rfl, by rw [hU], by rw [hU]; exact hP, va_K.moved hW.alike hK, hD.weaken (fun _ _ _ _ => trivial)⟩⟩ rfl rfl hl.1 rfl (lv_room (Nat.le_of_ble_eq_true rfl)) dX0_fallsForEver_1 ⟨(Nat.zero_le _), (Nat.zero_le _)⟩) hS (fun q _ h => hFc q h) hFc (fun v9 t H1 locs ht hvm hw hB hz1 hk1 hS => ?_)
  obtain ⟨hP1, hK1, hD1⟩ := hB
  rw [ht] at hP1
  clear hP hD hK
  have hK := va_K.moved hvm.symm hK1
  have hP := hP1
  have hD := hD1.weaken (B := A) (fun _ q _ h => hFc q.1 h)
  clear hP1 hD1 hK1 hFc hk1 hz1 ht hvm
  generalize H1 = H at hP hS ⊢
  clear hG hno
  obtain ⟨M, hd, u, tw, iv, h, R⟩ := v9
  obtain ⟨hG, hZ⟩ := hw
  have hG : Gd me nw C M hd u tw iv h R := hG
  have hZ : Zr me nw (clm C) h R me := hZ
  have hP : va_P (dC, dI) vwCl (wgW h0 qc qh r cA cI cJ me nw u tw iv hd M) H := hP
  have hD : va_D A (wgW h0 qc qh r cA cI cJ me nw u tw iv hd M) := hD
  refine lv_iconst (v := nI 0) hx hb dX0_fallsForEver_4 (by decide) ?_
  refine lv_istore_n (lv' := [(1, .int (nI 0)), (0, .ref h0)]) hx hb dX0_fallsForEver_5 rfl hl (by decide) rfl (fun ls hl => ?_)
  have loop : ∀ (d k : Nat) (M : Nat → Nat → Int64) (hd : Nat → Int32) (u : Int64) (tw : Int32) (iv : Int64) (h : Nat → Option Nat) (R : Nat → Nat → Rat) (H : Heap) (locs : List Loc) (ls : Array Slot), k + d = 1000000 → Gd me nw C M hd u tw iv h R → Zr me nw (clm C) h R me → HiP me nw (clm C) k h → va_P (dC, dI) vwCl (wgW h0 qc qh r cA cI cJ me nw u tw iv hd M) H → va_K (dC, dI) vwCl (wgT cA cI cJ) s → va_D A (wgW h0 qc qh r cA cI cJ me nw u tw iv hd M) → va_S A s.heap H locs → lv_has ls 4 [(1, .int (nI k)), (0, .ref h0)] → W p l e (headSpec wsX0_fallsForEver ({ frames := 4, cells := 0, slots := 0, locals := 123 })).room s m #[.ref h0] below meth c H locs 0 0 (MQ below (va_Qi (fun (x : Int32) (v : wgS) => (x = 1 ∧ (∃ w : Nat → Rat, (∀ j, j < nw → 0 ≤ w j) ∧ (∀ t, t < me → sm nw (fun j => w j * clm C j t) = 0) ∧ sm nw (fun j => w j * clm C j me) < 0)) ∨ (x = 0 ∧ GdS me nw C v ∧ Zr me nw (clm C) v.2.2.2.2.2.1 v.2.2.2.2.2.2 me ∧ ∀ j, j < nw → 0 ≤ cd (me + 1) v.2.2.2.2.2.2 (clm C j) me)) (fun v t => va_P (dC, dI) vwCl (wgW h0 qc qh r cA cI cJ me nw v.2.2.1 v.2.2.2.1 v.2.2.2.2.1 v.2.1 v.1) t.heap ∧ va_K (dC, dI) vwCl (wgT cA cI cJ) t ∧ va_D A (wgW h0 qc qh r cA cI cJ me nw v.2.2.1 v.2.2.2.1 v.2.2.2.2.1 v.2.1 v.1)) A) #[.ref h0] s 0 0 A) (F0 m 6 ls []) := by
    clear hP hK hD hS hl hG hZ
    intro d
    induction d with
    | zero =>
      intro k M hd u tw iv h R H locs ls hk hG hZ hH hP hK hD hS hl
      have h1 := HiP_lt hH
      have h2 : 2 ^ nw ≤ 2 ^ 16 := Nat.pow_le_pow_right (by omega) (by omega)
      omega
    | succ d ih =>
      intro k M hd u tw iv h R H locs ls hk hG hZ hH hP hK hD hS hl
      refine lv_iload_n hx hb dX0_fallsForEver_6 rfl (lv_at hl 0 rfl) ?_
      refine lv_ldc (v := nI 1000000) hx hb hown (hts (.constant RX0 59 (1000000)) (List.mem_of_getElem? (i := 1) rfl)) dX0_fallsForEver_7 ?_
      refine lv_icmp_ge (tgt := 49) hx hb dX0_fallsForEver_9 (by decide) (fun c1 => ?_) (fun c1 => ?_)
      · exact absurd c1 (nI_ge (by omega) (by omega))
      · refine lv_aload_n hx hb dX0_fallsForEver_12 rfl (lv_at hl 1 rfl) ?_
        have hFc : ∀ q, va_A (wgW h0 qc qh r cA cI cJ me nw u tw iv hd M) H.size q → A q := va_fall hD hS hA
        refine va_calli (va_runV (As := []) (rest := []) ⟨hx, hb, hml, hown, hts⟩ (c_X0_columnThatSaves l dC dI h0 qc qh r cA cI cJ H.size me nw u tw iv hd M hm hn) (cwV 0 hts gX0_fallsForEver_X0_columnThatSaves rfl rfl rfl (by decide +kernel) ⟨Nat.le_of_ble_eq_true rfl, Nat.le_of_ble_eq_true rfl⟩) ⟨fun a U g mk q => by obtain ⟨q0, q1, qP, qK, qD⟩ := q; exact ⟨q0, q1, qP, va_K.moved (u := U) (U := U.calling g mk a) (Vm.Alike.refl U.vm) qK, qD⟩, va_recv hK hP (ci := 0) (q0 := 0) rfl rfl, fun U hU hW => ⟨rfl, by rw [hU], by rw [hU]; exact hP, va_K.moved hW.alike hK, hD.weaken (fun _ _ _ _ => trivial)⟩⟩ rfl rfl hl.1 rfl (lv_room (Nat.le_of_ble_eq_true rfl)) dX0_fallsForEver_13 ⟨(Nat.zero_le _), (Nat.zero_le _)⟩) hS (fun q _ h => hFc q h) hFc (fun r_13 v9 t H1 locs ht hvm hw hB hz1 hk1 hS => ?_)
        obtain ⟨hP1, hK1, hD1⟩ := hB
        rw [ht] at hP1
        clear hP hD hK
        have hK := va_K.moved hvm.symm hK1
        have hP := hP1
        have hD := hD1.weaken (B := A) (fun _ q _ h => hFc q.1 h)
        clear hP1 hD1 hK1 hFc hk1 hz1 ht hvm
        generalize H1 = H at hP hS ⊢
        rcases hw with ⟨c9, hc1, rfl, hc2, hc3⟩ | ⟨rfl, hz⟩
        · refine lv_istore_n (lv' := [(2, .int (nI c9)), (1, .int (nI k)), (0, .ref h0)]) hx hb dX0_fallsForEver_16 rfl hl (by decide) rfl (fun ls hl => ?_)
          refine lv_iload_n hx hb dX0_fallsForEver_17 rfl (lv_at hl 0 rfl) ?_
          refine lv_iconst (v := (-1)) hx hb dX0_fallsForEver_18 (by decide) ?_
          refine lv_icmp_ne (tgt := 24) hx hb dX0_fallsForEver_19 (by decide) (fun c2 => ?_) (fun c2 => ?_)
          · rw [Gd_neg hG (Nat.le_refl _) (by omega)] at hc2
            refine lv_aload_n hx hb dX0_fallsForEver_24 rfl (lv_at hl 2 rfl) ?_
            refine lv_iload_n hx hb dX0_fallsForEver_25 rfl (lv_at hl 0 rfl) ?_
            have hFc : ∀ q, va_A (wgW h0 qc qh r cA cI cJ me nw u tw iv hd M) H.size q → A q := va_fall hD hS hA
            refine va_calli (va_runV (As := [.int (nI c9)]) (rest := []) ⟨hx, hb, hml, hown, hts⟩ (c_X0_rowThatLimits l dC dI h0 qc qh r cA cI cJ H.size me nw u tw iv hd M c9 hm hn hc1) (cwV 1 hts gX0_fallsForEver_X0_rowThatLimits rfl rfl rfl (by decide +kernel) ⟨Nat.le_of_ble_eq_true rfl, Nat.le_of_ble_eq_true rfl⟩) ⟨fun a U g mk q => by obtain ⟨q0, q1, qP, qK, qD⟩ := q; exact ⟨q0, q1, qP, va_K.moved (u := U) (U := U.calling g mk a) (Vm.Alike.refl U.vm) qK, qD⟩, va_recv hK hP (ci := 0) (q0 := 0) rfl rfl, fun U hU hW => ⟨rfl, by rw [hU], by rw [hU]; exact hP, va_K.moved hW.alike hK, hD.weaken (fun _ _ _ _ => trivial)⟩⟩ rfl rfl hl.1 rfl (lv_room (Nat.le_of_ble_eq_true rfl)) dX0_fallsForEver_26 ⟨(Nat.zero_le _), (Nat.zero_le _)⟩) hS (fun q _ h => hFc q h) hFc (fun r_26 v9 t H1 locs ht hvm hw hB hz1 hk1 hS => ?_)
            obtain ⟨hP1, hK1, hD1⟩ := hB
            rw [ht] at hP1
            clear hP hD hK
            have hK := va_K.moved hvm.symm hK1
            have hP := hP1
            have hD := hD1.weaken (B := A) (fun _ q _ h => hFc q.1 h)
            clear hP1 hD1 hK1 hFc hk1 hz1 ht hvm
            generalize H1 = H at hP hS ⊢
            have hoI : ∀ i, i < me → (hd i = -1 ↔ h i = none) := fun i hi => by rw [hG.2.2.2.2 i hi]; exact oI_none (fun j q => by have := hG.1.2 i j hi q; omega)
            rcases hw with ⟨rfl, hz⟩ | ⟨b9, hb1, rfl, hb2, hb3, hb4⟩
            · refine lv_istore_n (lv' := [(3, .int (-1)), (2, .int (nI c9)), (1, .int (nI k)), (0, .ref h0)]) hx hb dX0_fallsForEver_29 rfl hl (by decide) rfl (fun ls hl => ?_)
              refine lv_iload_n hx hb dX0_fallsForEver_30 rfl (lv_at hl 0 rfl) ?_
              refine lv_iconst (v := (-1)) hx hb dX0_fallsForEver_31 (by decide) ?_
              refine lv_icmp_ne (tgt := 37) hx hb dX0_fallsForEver_32 (by decide) (fun c3 => ?_) (fun c3 => ?_)
              · exact absurd rfl c3
              · refine lv_iconst (v := nI 1) hx hb dX0_fallsForEver_35 (by decide) ?_
                exact W.zret (v := (nI 1)) hx hb hr (by rfl) (fun t ht hW => ⟨⟨(nI 1), (M, hd, u, tw, iv, h, R), rfl, Or.inl ⟨rfl, Stt_falls hG.1 hZ hc1 hc2 (fun i j hi q => by
                  apply Rat.not_lt.mp
                  intro q2
                  have q3 := hz i hi ((Gd_pos hG (by omega) (by omega)).mpr q2)
                  rw [hoI i hi, q] at q3
                  cases q3)⟩, by rw [ht]; exact hP, va_K.moved hW.alike hK, hD⟩, hS.F ht⟩) hS.2.2 dX0_fallsForEver_36
            · refine lv_istore_n (lv' := [(3, .int (nI b9)), (2, .int (nI c9)), (1, .int (nI k)), (0, .ref h0)]) hx hb dX0_fallsForEver_29 rfl hl (by decide) rfl (fun ls hl => ?_)
              refine lv_iload_n hx hb dX0_fallsForEver_30 rfl (lv_at hl 0 rfl) ?_
              refine lv_iconst (v := (-1)) hx hb dX0_fallsForEver_31 (by decide) ?_
              refine lv_icmp_ne (tgt := 37) hx hb dX0_fallsForEver_32 (by decide) (fun c3 => ?_) (fun c3 => ?_)
              · refine lv_aload_n hx hb dX0_fallsForEver_37 rfl (lv_at hl 3 rfl) ?_
                refine lv_iload_n hx hb dX0_fallsForEver_38 rfl (lv_at hl 0 rfl) ?_
                refine lv_iload_n hx hb dX0_fallsForEver_39 rfl (lv_at hl 1 rfl) ?_
                have hFc : ∀ q, va_A (wgW h0 qc qh r cA cI cJ me nw u tw iv hd M) H.size q → A q := va_fall hD hS hA
                refine va_callv (va_runV (As := [.int (nI b9), .int (nI c9)]) (rest := []) ⟨hx, hb, hml, hown, hts⟩ (c_X0_exchange l dC dI h0 qc qh r cA cI cJ H.size me nw u tw iv hd M b9 c9 hm hn hb1 hc1) (cwV 2 hts gX0_fallsForEver_X0_exchange rfl rfl rfl (by decide +kernel) ⟨Nat.le_of_ble_eq_true rfl, Nat.le_of_ble_eq_true rfl⟩) ⟨fun a U g mk q => by obtain ⟨q0, q1, qP, qK, qD⟩ := q; exact ⟨q0, q1, qP, va_K.moved (u := U) (U := U.calling g mk a) (Vm.Alike.refl U.vm) qK, qD⟩, va_recv hK hP (ci := 0) (q0 := 0) rfl rfl, fun U hU hW => ⟨rfl, by rw [hU], by rw [hU]; exact hP, va_K.moved hW.alike hK, hD.weaken (fun _ _ _ _ => trivial)⟩⟩ rfl rfl hl.1 rfl (lv_room (Nat.le_of_ble_eq_true rfl)) dX0_fallsForEver_40 ⟨(Nat.zero_le _), (Nat.zero_le _)⟩) hS (fun q _ h => hFc q h) hFc (fun v9 t H1 locs ht hvm hw hB hz1 hk1 hS => ?_)
                obtain ⟨hP1, hK1, hD1⟩ := hB
                rw [ht] at hP1
                clear hP hD hK
                have hK := va_K.moved hvm.symm hK1
                have hP := hP1
                have hD := hD1.weaken (B := A) (fun _ q _ h => hFc q.1 h)
                clear hP1 hD1 hK1 hFc hk1 hz1 ht hvm
                generalize H1 = H at hP hS ⊢
                refine lv_iinc (v := nI (k + 1)) (lv' := [(1, .int (nI (k + 1))), (3, .int (nI b9)), (2, .int (nI c9)), (0, .ref h0)]) hx hb dX0_fallsForEver_43 hl (k := 2) rfl (nI_1 _) (by decide) rfl (fun ls hl => ?_)
                refine lv_goto (tgt := 6) hx hb dX0_fallsForEver_46 (by decide) ?_
                obtain ⟨o9, ho9⟩ : ∃ o, h b9 = some o := by
                  cases q : h b9 with
                  | none => exact absurd ((hoI b9 hb1).mpr q) hb3
                  | some o => exact ⟨o, rfl⟩
                have hbp := (Gd_pos hG (show b9 ≤ me by omega) (show c9 ≤ nw by omega)).mp hb2
                have G2 := Gd_x hB0 hG hb1 hc1 (fun q => by have := (Gd_zero hG (show b9 ≤ me by omega) (show c9 ≤ nw by omega)).mp q; grind)
                have hS9 : StP me nw (clm C) h R c9 o9 b9 := ⟨hG.1, hZ, hc1, hb1, ho9, hc2, fun j hj => Rat.not_lt.mp (fun q => hc3 j hj ((Gd_neg hG (Nat.le_refl _) (by omega)).mpr q)), hbp, fun i j hi q q2 => by
                  have q3 := hb4 i hi ((Gd_pos hG (by omega) (by omega)).mpr q2) (fun q4 => by rw [hoI i hi, q] at q4; cases q4)
                  rw [hG.2.2.2.2 i hi, hG.2.2.2.2 b9 hb1, q, ho9] at q3
                  exact Nat.not_lt.mp (fun q5 => q3 (nI_lt q5 (by have := hG.1.2 b9 o9 hb1 ho9; omega)))⟩
                refine ih (k + 1) (xcM tw iv M b9 c9 me nw) (upd hd b9 (nI c9)) (xcS M b9 c9 nw b9 c9) (bcF (((xcS M b9 c9 nw b9 c9) &&& -(xcS M b9 c9 nw b9 c9)) - 1)) (nwF (sr (xcS M b9 c9 nw b9 c9) (bcF (((xcS M b9 c9 nw b9 c9) &&& -(xcS M b9 c9 nw b9 c9)) - 1))) 5) (fup h b9 (some c9)) (pv (me + 1) R b9 (clm C c9)) H _ ls (by omega) G2 (fun i hi hni j hj => ?_) (HiP_s hH hS9) hP hK hD hS (lv_sub hl [0, 3] rfl)
                by_cases e9 : i = b9
                · subst e9; rw [fup_s] at hni; cases hni
                · rw [fup_n _ _ e9] at hni; exact Zr_pv hZ hc1 i (by omega) e9 hni j hj
              · exact absurd c3 (nI_m1 (by omega))
          · exact absurd c2 (nI_m1 (by omega))
        · refine lv_istore_n (lv' := [(2, .int (-1)), (1, .int (nI k)), (0, .ref h0)]) hx hb dX0_fallsForEver_16 rfl hl (by decide) rfl (fun ls hl => ?_)
          refine lv_iload_n hx hb dX0_fallsForEver_17 rfl (lv_at hl 0 rfl) ?_
          refine lv_iconst (v := (-1)) hx hb dX0_fallsForEver_18 (by decide) ?_
          refine lv_icmp_ne (tgt := 24) hx hb dX0_fallsForEver_19 (by decide) (fun c2 => ?_) (fun c2 => ?_)
          · exact absurd rfl c2
          · refine lv_iconst (v := nI 0) hx hb dX0_fallsForEver_22 (by decide) ?_
            exact W.zret (v := (nI 0)) hx hb hr (by rfl) (fun t ht hW => ⟨⟨(nI 0), (M, hd, u, tw, iv, h, R), rfl, Or.inr ⟨rfl, hG, hZ, fun j hj => Rat.not_lt.mp (fun q => hz j hj ((Gd_neg hG (Nat.le_refl _) (by omega)).mpr q))⟩, by rw [ht]; exact hP, va_K.moved hW.alike hK, hD⟩, hS.F ht⟩) hS.2.2 dX0_fallsForEver_23
  exact loop 1000000 0 M hd u tw iv h R H _ ls (by omega) hG hZ HiP_0 hP hK hD hS (lv_sub hl [0, 1] rfl)
