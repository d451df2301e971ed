/-! ===== RankFinder: seekLeast, hasTurn, ranked: what their answers mean ===== -/
/-- weights that no turn allows -/
def Cer (n m : Nat) (C : Nat → Nat → Int) : Prop := ∃ w : Nat → Rat, (∀ j, j < n → 0 ≤ w j) ∧ (∀ t, t < m → sm n (fun j => w j * clm C j t) = 0) ∧ sm n (fun j => w j * clm C j m) < 0
/-- a turn -/
def Fea (n m : Nat) (C : Nat → Nat → Int) (y : Nat → Rat) : Prop := ∀ j, j < n → sm m (fun t => y t * clm C j t) ≤ clm C j m
/-- the least is val -/
def Fou (n m : Nat) (C : Nat → Nat → Int) (val : Rat) : Prop := ∃ y w : Nat → Rat, Fea n m C y ∧ (∀ j, j < n → 0 ≤ w j) ∧ (∀ t, t < m → sm n (fun j => w j * clm C j t) = clm C n t) ∧ val = -sm m (fun t => y t * clm C n t) ∧ sm n (fun j => w j * clm C j m) = -val
/-- no least -/
def Nol (n m : Nat) (C : Nat → Nat → Int) : Prop := (∃ y, Fea n m C y) ∧ ∃ z : Nat → Rat, (∀ j, j < n → 0 ≤ sm m (fun t => z t * clm C j t)) ∧ sm m (fun t => z t * clm C n t) < 0
theorem Fea_of {me nw : Nat} {C : Nat → Nat → Int} {h : Nat → Option Nat} {R : Nat → Nat → Rat} (H : Stt me nw (clm C) h R) (hc : ∀ j, j < nw → 0 ≤ cd (me + 1) R (clm C j) me) : Fea nw me C (fun t => -R me t) := fun j hj => by
  have h1 := hc j hj
  rw [Stt_cost H] at h1
  grind
theorem Fou_of {me nw : Nat} {C : Nat → Nat → Int} {h : Nat → Option Nat} {R : Nat → Nat → Rat} (H : Stt me nw (clm C) h R) (hc : ∀ j, j < nw → 0 ≤ cd (me + 1) R (clm C j) me) (hz : ∀ i, i < me → h i = none → cd (me + 1) R (clm C nw) i = 0) (hp : ∀ i j, i < me → h i = some j → 0 ≤ cd (me + 1) R (clm C nw) i) (h0 : C nw me = 0) : Fou nw me C (cd (me + 1) R (clm C nw) me) := by
  have e0 : clm C nw me = 0 := by unfold clm; rw [h0]; rfl
  have e1 := Stt_cost H (clm C nw)
  rw [e0] at e1
  refine ⟨fun t => -R me t, wgt me h (cd (me + 1) R (clm C nw)), Fea_of H hc, fun j _ => wgt_nonneg hp j, fun t ht => ?_, ?_, ?_⟩
  · rw [Stt_out H _ hz (by omega), show un me t = 0 from by simp [un]; omega]; grind
  · rw [e1]; grind
  · rw [Stt_out H _ hz (by omega), e0, show un me me = 1 from by simp [un]]; grind
set_option maxHeartbeats 1000000 in
set_option maxRecDepth 100000 in
/-- seekLeast() -/
theorem c_X1_seekLeast (l : Launch) (dC : Nat → ClassId) (dI : Nat → Nat → Nat) (sz : Nat) (p0 qt qg h0 : Nat) (rt : Nat → Nat) (cB cI cA cJ : ClassId) (qc qh : Nat) (r : Nat → Nat) (vn ct : Nat) (ft fb : Int64) (gl : Nat → Int32) (T : Nat → Nat → Int32) (me nw : Nat) (u : Int64) (tw : Int32) (iv : Int64) (hd : Nat → Int32) (M : Nat → Nat → Int64) (hv1 : 1 ≤ vn) (hv3 : vn ≤ 3) (hc : ct ≤ 8) (hT : okT T ct) (hg : okG gl) : Met l yX1_seekLeast wsX1_seekLeast ({ frames := 5, cells := 0, slots := 0, locals := 146 }) (va_Pc [.ref p0] (fun U => U.heap.size = sz ∧ va_P (dC, dI) vwCl (rfX p0 qt qg h0 rt cB cI vn ct ft fb gl T ++ (wgW h0 qc qh r cA cI cJ me nw u tw iv hd M)) U.heap ∧ va_K (dC, dI) vwCl ((cB, .array .int) :: (cI, .int) :: wgT cA cI cJ) U ∧ va_D (fun _ => True) (rfX p0 qt qg h0 rt cB cI vn ct ft fb gl T ++ (wgW h0 qc qh r cA cI cJ me nw u tw iv hd M)))) (va_Qi (fun (x : Int32) (v : wgS) => (x = 0 ∧ Cer ct (2 * vn) (CG T gl vn ct)) ∨ (x = 2 ∧ Fou ct (2 * vn) (CG T gl vn ct) (cd (2 * vn + 1) v.2.2.2.2.2.2 (clm (CG T gl vn ct) ct) (2 * vn)) ∧ GdS (2 * vn) ct (CG T gl vn ct) v) ∨ (x = 1 ∧ Nol ct (2 * vn) (CG T gl vn ct))) (fun v t => va_P (dC, dI) vwCl (rfX p0 qt qg h0 rt cB cI vn ct ft fb gl T ++ (wgW h0 qc qh r cA cI cJ (2 * vn) ct v.2.2.1 v.2.2.2.1 v.2.2.2.2.1 v.2.1 v.1)) t.heap ∧ va_K (dC, dI) vwCl ((cB, .array .int) :: (cI, .int) :: wgT cA cI cJ) t ∧ va_D (va_A (rfX p0 qt qg h0 rt cB cI vn ct ft fb gl T ++ (wgW h0 qc qh r cA cI cJ me nw u tw iv hd M)) sz) (rfX p0 qt qg h0 rt cB cI vn ct ft fb gl T ++ (wgW h0 qc qh r cA cI cJ (2 * vn) ct v.2.2.1 v.2.2.2.1 v.2.2.2.2.1 v.2.1 v.1))) (va_A (rfX p0 qt qg h0 rt cB cI vn ct ft fb gl T ++ (wgW h0 qc qh r cA cI cJ me nw u tw iv hd M)) sz)) 0 0 (va_A (rfX p0 qt qg h0 rt cB cI vn ct ft fb gl T ++ (wgW h0 qc qh r cA cI cJ me nw u tw iv hd M)) sz) := by
  refine Met.ofW (cc := cX1_seekLeast) (maxL := 1) (ret := (some .int)) (by decide) rfl ?_
  intro p e s m args below meth c s₁ B hml hv
  obtain ⟨rfl, hsz, hP, hK, hD0⟩ := hv
  have hx := B.exec
  have hb := B.bytes
  have hr := B.returns
  have hts := atoms_spec (ws := wsX1_seekLeast) B.pre
  have hown : s.vm.findClass RX1 = some m.cls := findClass_of_methodNamed B.named
  subst hsz
  have hD := hD0.self (sz := s.heap.size)
  clear hD0
  generalize hAe : va_A (rfX p0 qt qg h0 rt cB cI vn ct ft fb gl T ++ (wgW h0 qc qh r cA cI cJ me nw u tw iv hd M)) s.heap.size = A at hD ⊢
  have hA : ∀ q : Nat, s.heap.size ≤ q → A q := fun q h => by rw [← hAe]; exact Or.inr h
  have hl := lv_entry ([.ref p0]) (n := 1) (Nat.le_of_ble_eq_true rfl)
  rw [lg_entry_eq]
  generalize (lg_sl ([.ref p0]) ++ List.replicate (1 - (lg_sl ([.ref p0])).length) Slot.unset).toArray = ls at hl ⊢
  have hl : lv_has ls 1 [(0, .ref p0)] := hl
  have hP : va_P (dC, dI) vwCl (rfX p0 qt qg h0 rt cB cI vn ct ft fb gl T ++ (wgW h0 qc qh r cA cI cJ me nw u tw iv hd M)) s.heap := hP
  obtain ⟨H, hH⟩ : ∃ H, H = s.heap := ⟨_, rfl⟩
  have hS : va_S A s.heap H [] := by rw [hH]; exact va_S.rf
  rw [← hH] at hP ⊢
  refine lv_aload_n hx hb dX1_seekLeast_0 rfl (lv_at hl 0 rfl) ?_
  have hFc : ∀ q, va_A (rfX p0 qt qg h0 rt cB cI vn ct ft fb gl T ++ (wgW h0 qc qh r cA cI cJ me nw u tw iv hd M)) H.size q → A q := va_fall hD hS hA
  refine va_callv (va_runV (As := []) (rest := []) ⟨hx, hb, hml, hown, hts⟩ (c_X1_weighGoal l dC dI H.size p0 qt qg h0 rt cB cI cA cJ qc qh r vn ct ft fb gl T me nw u tw iv hd M hv1 hv3 hc) (cwV 0 hts gX1_seekLeast_X1_weighGoal rfl rfl rfl (by decide +kernel) ⟨Nat.le_of_ble_eq_true rfl, Nat.le_of_ble_eq_true rfl⟩) ⟨fun a U g mk q => by obtain ⟨q0, q1, qP, qK, qD⟩ := q; exact ⟨q0, q1, qP, va_K.moved (u := U) (U := U.calling g mk a) (Vm.Alike.refl U.vm) qK, qD⟩, va_recv hK hP (ci := 1) (q0 := 0) rfl rfl, fun U hU hW => ⟨rfl, by rw [hU], by rw [hU]; exact hP, va_K.moved hW.alike hK, hD.weaken (fun _ _ _ _ => trivial)⟩⟩ rfl rfl hl.1 rfl (lv_room (Nat.le_of_ble_eq_true rfl)) dX1_seekLeast_1 ⟨(Nat.zero_le _), (Nat.zero_le _)⟩) hS (fun q _ h => hFc q h) hFc (fun v9 t H1 locs ht hvm hw hB hz1 hk1 hS => ?_)
  obtain ⟨hP1, hK1, hD1⟩ := hB
  rw [ht] at hP1
  clear hP hD hK
  have hK := va_K.moved hvm.symm hK1
  have hP := hP1
  have hD := hD1.weaken (B := A) (fun _ q _ h => hFc q.1 h)
  clear hP1 hD1 hK1 hFc hk1 hz1 ht hvm
  generalize H1 = H at hP hS ⊢
  have hP : va_P (dC, dI) vwCl (rfX p0 qt qg h0 rt cB cI vn ct ft fb gl T ++ (wgW h0 qc qh r cA cI cJ (2 * vn) ct 1 (bcF ((1 &&& -1) - 1)) (nwF (sr 1 (bcF ((1 &&& -1) - 1))) 5) (filI hd 9 (-1)) v9)) H := hP
  have hD : va_D A (rfX p0 qt qg h0 rt cB cI vn ct ft fb gl T ++ (wgW h0 qc qh r cA cI cJ (2 * vn) ct 1 (bcF ((1 &&& -1) - 1)) (nwF (sr 1 (bcF ((1 &&& -1) - 1))) 5) (filI hd 9 (-1)) v9)) := hD
  have hG := Gd_init (me := 2 * vn) (nw := ct) (C := (CG T gl vn ct)) (M := v9) (hd := filI hd 9 (-1)) Unt_1 (fun i j hi hj => by rw [hw i j hi hj]; exact CG_t hg hv3) (fun i hi => if_pos (by omega))
  obtain ⟨hB1, hB2⟩ := CG_bnd hT hg hv1 hv3
  refine lv_aload_n hx hb dX1_seekLeast_4 rfl (lv_at hl 0 rfl) ?_
  refine va_get (D := (dC, dI)) (ci := 1) (v := .ref h0) (C := RX1) (T := TX1) (N := 7) hx hb hts (fun _ h => List.mem_cons_of_mem _ (List.mem_append_left _ (List.mem_append_right _ h))) hown hK hP 0 rfl rfl 2 (by decide) (hts (.fieldLink RX1 21 "RankFinder" "weighing" "LRankFinder$Weighing;") (List.mem_of_getElem? (i := 1) rfl)) (fun _ h9 => h9) rfl dX1_seekLeast_5 ?_
  have hPc : va_P (dC, dI) vwCl (wgW h0 qc qh r cA cI cJ (2 * vn) ct 1 (bcF ((1 &&& -1) - 1)) (nwF (sr 1 (bcF ((1 &&& -1) - 1))) 5) (filI hd 9 (-1)) v9) H := va_Pr hP
  have hKc := hK.sub (tys' := wgT cA cI cJ) [2, 3, 4] rfl
  have hFc : ∀ q, va_A (wgW h0 qc qh r cA cI cJ (2 * vn) ct 1 (bcF ((1 &&& -1) - 1)) (nwF (sr 1 (bcF ((1 &&& -1) - 1))) 5) (filI hd 9 (-1)) v9) H.size q → A q := va_Ar hD hS hA
  refine va_calli (va_runV (As := []) (rest := []) ⟨hx, hb, hml, hown, hts⟩ (c_X0_fallsForEver l dC dI h0 qc qh r cA cI cJ H.size (2 * vn) ct 1 (bcF ((1 &&& -1) - 1)) (nwF (sr 1 (bcF ((1 &&& -1) - 1))) 5) (filI hd 9 (-1)) v9 (CG T gl vn ct) (fun _ => none) un (by omega) (by omega) hB1 hG (fun _ _ => rfl)) (cwV 0 hts gX1_seekLeast_X0_fallsForEver rfl rfl rfl (by decide +kernel) ⟨Nat.le_of_ble_eq_true rfl, Nat.le_of_ble_eq_true rfl⟩) ⟨fun a U g mk q => by obtain ⟨q0, q1, qP, qK, qD⟩ := q; exact ⟨q0, q1, qP, va_K.moved (u := U) (U := U.calling g mk a) (Vm.Alike.refl U.vm) qK, qD⟩, va_recv hKc hPc (ci := 0) (q0 := 0) rfl rfl, fun U hU hW => ⟨rfl, by rw [hU], by rw [hU]; exact hPc, va_K.moved hW.alike hKc, va_Dr hD⟩⟩ rfl rfl hl.1 rfl (lv_room (Nat.le_of_ble_eq_true rfl)) dX1_seekLeast_8 ⟨(Nat.zero_le _), (Nat.zero_le _)⟩) hS (fun q _ h => hFc q h) hFc (fun r_8 v9_ t H1 locs ht hvm hw hB hz1 hk1 hS => ?_)
  obtain ⟨hP1, hK1, hD1⟩ := hB
  rw [ht] at hP1
  obtain ⟨hP, hD⟩ := jn_app hP hD hk1 hFc hP1 hD1
  clear hPc hKc hP1 hD1 hK1 hFc hk1 hz1 ht hvm
  generalize H1 = H at hP hS ⊢
  obtain ⟨M, hd, u, tw, iv, h, R⟩ := v9_
  have hP : va_P (dC, dI) vwCl (rfX p0 qt qg h0 rt cB cI vn ct ft fb gl T ++ (wgW h0 qc qh r cA cI cJ (2 * vn) ct u tw iv hd M)) H := hP
  have hD : va_D A (rfX p0 qt qg h0 rt cB cI vn ct ft fb gl T ++ (wgW h0 qc qh r cA cI cJ (2 * vn) ct u tw iv hd M)) := hD
  rcases hw with ⟨rfl, hcer⟩ | ⟨rfl, hG2, hZ, hC⟩
  · refine lv_if_eq (tgt := 16) hx hb dX1_seekLeast_11 (by decide) (fun c => absurd c (by decide)) (fun _ => ?_)
    refine lv_iconst (v := nI 0) hx hb dX1_seekLeast_14 (by decide) ?_
    exact W.iret (v := (nI 0)) hx hb hr (fun t ht hW => ⟨⟨(nI 0), (M, hd, u, tw, iv, h, R), rfl, Or.inl ⟨rfl, hcer⟩, by rw [ht]; exact hP, va_K.moved hW.alike hK, hD⟩, hS.F ht⟩) hS.2.2 dX1_seekLeast_15
  · refine lv_if_eq (tgt := 16) hx hb dX1_seekLeast_11 (by decide) (fun _ => ?_) (fun c => absurd rfl c)
    have hG2 : Gd (2 * vn) ct (CG T gl vn ct) M hd u tw iv h R := hG2
    have hZ : Zr (2 * vn) ct (clm (CG T gl vn ct)) h R (2 * vn) := hZ
    have hC : ∀ j, j < ct → 0 ≤ cd (2 * vn + 1) R (clm (CG T gl vn ct) j) (2 * vn) := hC
    refine lv_aload_n hx hb dX1_seekLeast_16 rfl (lv_at hl 0 rfl) ?_
    refine va_get (D := (dC, dI)) (ci := 1) (v := .ref h0) (C := RX1) (T := TX1) (N := 7) hx hb hts (fun _ h => List.mem_cons_of_mem _ (List.mem_append_left _ (List.mem_append_right _ h))) hown hK hP 0 rfl rfl 2 (by decide) (hts (.fieldLink RX1 21 "RankFinder" "weighing" "LRankFinder$Weighing;") (List.mem_of_getElem? (i := 1) rfl)) (fun _ h9 => h9) rfl dX1_seekLeast_17 ?_
    have hPc : va_P (dC, dI) vwCl (wgW h0 qc qh r cA cI cJ (2 * vn) ct u tw iv hd M) H := va_Pr hP
    have hKc := hK.sub (tys' := wgT cA cI cJ) [2, 3, 4] rfl
    have hFc : ∀ q, va_A (wgW h0 qc qh r cA cI cJ (2 * vn) ct u tw iv hd M) H.size q → A q := va_Ar hD hS hA
    refine va_calli (va_runV (As := []) (rest := []) ⟨hx, hb, hml, hown, hts⟩ (c_X0_reachesRightSides l dC dI h0 qc qh r cA cI cJ H.size (2 * vn) ct u tw iv hd M (CG T gl vn ct) h R (by omega) (by omega) hB1 hB2 hG2 hZ hC) (cwV 0 hts gX1_seekLeast_X0_reachesRightSides rfl rfl rfl (by decide +kernel) ⟨Nat.le_of_ble_eq_true rfl, Nat.le_of_ble_eq_true rfl⟩) ⟨fun a U g mk q => by obtain ⟨q0, q1, qP, qK, qD⟩ := q; exact ⟨q0, q1, qP, va_K.moved (u := U) (U := U.calling g mk a) (Vm.Alike.refl U.vm) qK, qD⟩, va_recv hKc hPc (ci := 0) (q0 := 0) rfl rfl, fun U hU hW => ⟨rfl, by rw [hU], by rw [hU]; exact hPc, va_K.moved hW.alike hKc, va_Dr hD⟩⟩ rfl rfl hl.1 rfl (lv_room (Nat.le_of_ble_eq_true rfl)) dX1_seekLeast_20 ⟨(Nat.zero_le _), (Nat.zero_le _)⟩) hS (fun q _ h => hFc q h) hFc (fun r_20 v9_ t H1 locs ht hvm hw hB hz1 hk1 hS => ?_)
    obtain ⟨hP1, hK1, hD1⟩ := hB
    rw [ht] at hP1
    obtain ⟨hP, hD⟩ := jn_app hP hD hk1 hFc hP1 hD1
    clear hPc hKc hP1 hD1 hK1 hFc hk1 hz1 ht hvm
    generalize H1 = H at hP hS ⊢
    obtain ⟨M2, hd2, u2, tw2, iv2, h2, R2⟩ := v9_
    have hP : va_P (dC, dI) vwCl (rfX p0 qt qg h0 rt cB cI vn ct ft fb gl T ++ (wgW h0 qc qh r cA cI cJ (2 * vn) ct u2 tw2 iv2 hd2 M2)) H := hP
    have hD : va_D A (rfX p0 qt qg h0 rt cB cI vn ct ft fb gl T ++ (wgW h0 qc qh r cA cI cJ (2 * vn) ct u2 tw2 iv2 hd2 M2)) := hD
    rcases hw with ⟨rfl, hG3, hC3, hz3, hp3⟩ | ⟨rfl, hout⟩
    · refine lv_if_eq (tgt := 30) hx hb dX1_seekLeast_23 (by decide) (fun c => absurd c (by decide)) (fun _ => ?_)
      refine lv_iconst (v := nI 2) hx hb dX1_seekLeast_26 (by decide) ?_
      refine lv_goto (tgt := 31) hx hb dX1_seekLeast_27 (by decide) ?_
      exact W.iret (v := (nI 2)) hx hb hr (fun t ht hW => ⟨⟨(nI 2), (M2, hd2, u2, tw2, iv2, h2, R2), rfl, Or.inr (Or.inl ⟨rfl, Fou_of hG3.1 hC3 hz3 hp3 (CG_rhs (T := T) (ct := ct) hg hv3).2, hG3⟩), by rw [ht]; exact hP, va_K.moved hW.alike hK, hD⟩, hS.F ht⟩) hS.2.2 dX1_seekLeast_31
    · refine lv_if_eq (tgt := 30) hx hb dX1_seekLeast_23 (by decide) (fun _ => ?_) (fun c => absurd rfl c)
      refine lv_iconst (v := nI 1) hx hb dX1_seekLeast_30 (by decide) ?_
      exact W.iret (v := (nI 1)) hx hb hr (fun t ht hW => ⟨⟨(nI 1), (M2, hd2, u2, tw2, iv2, h2, R2), rfl, Or.inr (Or.inr ⟨rfl, ⟨_, Fea_of hG2.1 hC⟩, hout⟩), by rw [ht]; exact hP, va_K.moved hW.alike hK, hD⟩, hS.F ht⟩) hS.2.2 dX1_seekLeast_31
set_option maxHeartbeats 1000000 in
set_option maxRecDepth 100000 in
/-- hasTurn() -/
theorem c_X1_hasTurn (l : Launch) (dC : Nat → ClassId) (dI : Nat → Nat → Nat) (sz : Nat) (p0 qt qg h0 : Nat) (rt : Nat → Nat) (cB cI cA cJ : ClassId) (qc qh : Nat) (r : Nat → Nat) (vn ct : Nat) (ft fb : Int64) (gl : Nat → Int32) (T : Nat → Nat → Int32) (me nw : Nat) (u : Int64) (tw : Int32) (iv : Int64) (hd : Nat → Int32) (M : Nat → Nat → Int64) (hv1 : 1 ≤ vn) (hv3 : vn ≤ 3) (hc : ct ≤ 8) (hT : okT T ct) : Met l yX1_hasTurn wsX1_hasTurn ({ frames := 6, cells := 0, slots := 0, locals := 166 }) (va_Pc [.ref p0] (fun U => U.heap.size = sz ∧ va_P (dC, dI) vwCl (rfX p0 qt qg h0 rt cB cI vn ct ft fb gl T ++ (wgW h0 qc qh r cA cI cJ me nw u tw iv hd M)) U.heap ∧ va_K (dC, dI) vwCl ((cB, .array .int) :: (cI, .int) :: wgT cA cI cJ) U ∧ va_D (fun _ => True) (rfX p0 qt qg h0 rt cB cI vn ct ft fb gl T ++ (wgW h0 qc qh r cA cI cJ me nw u tw iv hd M)))) (va_Qi (fun (x : Int32) (v : wgS) => (x = 0 ∧ Cer ct (2 * vn) (CG T (filI gl 6 0) vn ct)) ∨ (x = 1 ∧ ∃ y, Fea ct (2 * vn) (CG T (filI gl 6 0) vn ct) y)) (fun v t => va_P (dC, dI) vwCl (rfX p0 qt qg h0 rt cB cI vn ct ft fb (filI gl 6 0) T ++ (wgW h0 qc qh r cA cI cJ (2 * vn) ct v.2.2.1 v.2.2.2.1 v.2.2.2.2.1 v.2.1 v.1)) t.heap ∧ va_K (dC, dI) vwCl ((cB, .array .int) :: (cI, .int) :: wgT cA cI cJ) t ∧ va_D (va_A (rfX p0 qt qg h0 rt cB cI vn ct ft fb gl T ++ (wgW h0 qc qh r cA cI cJ me nw u tw iv hd M)) sz) (rfX p0 qt qg h0 rt cB cI vn ct ft fb (filI gl 6 0) T ++ (wgW h0 qc qh r cA cI cJ (2 * vn) ct v.2.2.1 v.2.2.2.1 v.2.2.2.2.1 v.2.1 v.1))) (va_A (rfX p0 qt qg h0 rt cB cI vn ct ft fb gl T ++ (wgW h0 qc qh r cA cI cJ me nw u tw iv hd M)) sz)) 0 0 (va_A (rfX p0 qt qg h0 rt cB cI vn ct ft fb gl T ++ (wgW h0 qc qh r cA cI cJ me nw u tw iv hd M)) sz) := by
  refine Met.ofW (cc := cX1_hasTurn) (maxL := 1) (ret := (some .boolean)) (by decide) rfl ?_
  intro p e s m args below meth c s₁ B hml hv
  obtain ⟨rfl, hsz, hP, hK, hD0⟩ := hv
  have hx := B.exec
  have hb := B.bytes
  have hr := B.returns
  have hts := atoms_spec (ws := wsX1_hasTurn) B.pre
  have hown : s.vm.findClass RX1 = some m.cls := findClass_of_methodNamed B.named
  subst hsz
  have hD := hD0.self (sz := s.heap.size)
  clear hD0
  generalize hAe : va_A (rfX p0 qt qg h0 rt cB cI vn ct ft fb gl T ++ (wgW h0 qc qh r cA cI cJ me nw u tw iv hd M)) s.heap.size = A at hD ⊢
  have hA : ∀ q : Nat, s.heap.size ≤ q → A q := fun q h => by rw [← hAe]; exact Or.inr h
  have hl := lv_entry ([.ref p0]) (n := 1) (Nat.le_of_ble_eq_true rfl)
  rw [lg_entry_eq]
  generalize (lg_sl ([.ref p0]) ++ List.replicate (1 - (lg_sl ([.ref p0])).length) Slot.unset).toArray = ls at hl ⊢
  have hl : lv_has ls 1 [(0, .ref p0)] := hl
  have hP : va_P (dC, dI) vwCl (rfX p0 qt qg h0 rt cB cI vn ct ft fb gl T ++ (wgW h0 qc qh r cA cI cJ me nw u tw iv hd M)) s.heap := hP
  obtain ⟨H, hH⟩ : ∃ H, H = s.heap := ⟨_, rfl⟩
  have hS : va_S A s.heap H [] := by rw [hH]; exact va_S.rf
  rw [← hH] at hP ⊢
  refine lv_aload_n hx hb dX1_hasTurn_0 rfl (lv_at hl 0 rfl) ?_
  refine va_get (D := (dC, dI)) (ci := 1) (v := .ref qg) (C := RX1) (T := TX1) (N := 7) hx hb hts (fun _ h => List.mem_cons_of_mem _ (List.mem_append_left _ (List.mem_append_right _ h))) hown hK hP 0 rfl rfl 1 (by decide) (hts (.fieldLink RX1 14 "RankFinder" "goal" "[I") (List.mem_of_getElem? (i := 1) rfl)) (fun _ h9 => h9) rfl dX1_hasTurn_1 ?_
  refine lv_iconst (v := nI 0) hx hb dX1_hasTurn_4 (by decide) ?_
  have hk9 : (rfX p0 qt qg h0 rt cB cI vn ct ft fb gl T ++ (wgW h0 qc qh r cA cI cJ me nw u tw iv hd M))[2]? = some (qg, .inl (cI, 6, .inl gl)) := rfl
  have hFc := va_oneA hD hk9 hS hA
  refine va_callv (va_runS (As := [.ref qg, .int (nI 0)]) (rest := []) ⟨hx, hb, hml, hown, hts⟩ (c_J7_fillI l dC dI H.size cI qg 6 gl (nI 0) (by omega)) (va_cwS 2 hts gX1_hasTurn_J7_fill_53178 rfl rfl rfl (by decide +kernel) ⟨Nat.le_of_ble_eq_true rfl, Nat.le_of_ble_eq_true rfl⟩) ⟨fun a U g mk q => by obtain ⟨q0, q1, qP, qK, qD⟩ := q; exact ⟨q0, q1, qP, va_K.moved (u := U) (U := U.calling g mk a) (Vm.Alike.refl U.vm) qK, qD⟩, fun U hU hW => ⟨rfl, by rw [hU], by rw [hU]; exact va_oneP hP hk9, va_K.moved hW.alike (hK.sub [1] rfl), va_oneD trivial⟩⟩ rfl rfl hl.1 rfl (lv_room (Nat.le_of_ble_eq_true rfl)) dX1_hasTurn_5 ⟨(Nat.zero_le _), (Nat.zero_le _)⟩) hS (fun q _ h => hFc q h) hFc (fun v9 t H1 locs ht hvm hw hB hz1 hk1 hS => ?_)
  obtain ⟨hP1, hK1, hD1⟩ := hB
  rw [ht] at hP1
  obtain ⟨hP, hD⟩ := jn_at hP hD hk9 hk1 hP1
  clear hP1 hD1 hK1 hFc hk1 hz1 ht hvm hk9
  generalize H1 = H at hP hS ⊢
  have hP : va_P (dC, dI) vwCl (rfX p0 qt qg h0 rt cB cI vn ct ft fb (filI gl 6 0) T ++ (wgW h0 qc qh r cA cI cJ me nw u tw iv hd M)) H := hP
  have hD : va_D A (rfX p0 qt qg h0 rt cB cI vn ct ft fb (filI gl 6 0) T ++ (wgW h0 qc qh r cA cI cJ me nw u tw iv hd M)) := hD
  have hg : okG (filI gl 6 0) := fun i hi => by unfold filI; rw [if_pos hi]; decide
  refine lv_aload_n hx hb dX1_hasTurn_8 rfl (lv_at hl 0 rfl) ?_
  have hFc : ∀ q, va_A (rfX p0 qt qg h0 rt cB cI vn ct ft fb (filI gl 6 0) T ++ (wgW h0 qc qh r cA cI cJ me nw u tw iv hd M)) H.size q → A q := va_fall hD hS hA
  refine va_calli (va_runV (As := []) (rest := []) ⟨hx, hb, hml, hown, hts⟩ (c_X1_seekLeast l dC dI H.size p0 qt qg h0 rt cB cI cA cJ qc qh r vn ct ft fb (filI gl 6 0) T me nw u tw iv hd M hv1 hv3 hc hT hg) (cwV 0 hts gX1_hasTurn_X1_seekLeast rfl rfl rfl (by decide +kernel) ⟨Nat.le_of_ble_eq_true rfl, Nat.le_of_ble_eq_true rfl⟩) ⟨fun a U g mk q => by obtain ⟨q0, q1, qP, qK, qD⟩ := q; exact ⟨q0, q1, qP, va_K.moved (u := U) (U := U.calling g mk a) (Vm.Alike.refl U.vm) qK, qD⟩, va_recv hK hP (ci := 1) (q0 := 0) rfl rfl, fun U hU hW => ⟨rfl, by rw [hU], by rw [hU]; exact hP, va_K.moved hW.alike hK, hD.weaken (fun _ _ _ _ => trivial)⟩⟩ rfl rfl hl.1 rfl (lv_room (Nat.le_of_ble_eq_true rfl)) dX1_hasTurn_9 ⟨(Nat.zero_le _), (Nat.zero_le _)⟩) hS (fun q _ h => hFc q h) hFc (fun r_9 v9 t H1 locs ht hvm hw hB hz1 hk1 hS => ?_)
  obtain ⟨hP1, hK1, hD1⟩ := hB
  rw [ht] at hP1
  clear hP hD hK
  have hK := va_K.moved hvm.symm hK1
  have hP := hP1
  have hD := hD1.weaken (B := A) (fun _ q _ h => hFc q.1 h)
  clear hP1 hD1 hK1 hFc hk1 hz1 ht hvm
  generalize H1 = H at hP hS ⊢
  obtain ⟨M, hd, u, tw, iv, h, R⟩ := v9
  have hP : va_P (dC, dI) vwCl (rfX p0 qt qg h0 rt cB cI vn ct ft fb (filI gl 6 0) T ++ (wgW h0 qc qh r cA cI cJ (2 * vn) ct u tw iv hd M)) H := hP
  have hD : va_D A (rfX p0 qt qg h0 rt cB cI vn ct ft fb (filI gl 6 0) T ++ (wgW h0 qc qh r cA cI cJ (2 * vn) ct u tw iv hd M)) := hD
  rcases hw with ⟨rfl, hq⟩ | ⟨rfl, hq⟩ | ⟨rfl, hq⟩
  · refine lv_if_eq (tgt := 19) hx hb dX1_hasTurn_12 (by decide) (fun _ => ?_) (fun c => absurd rfl c)
    refine lv_iconst (v := nI 0) hx hb dX1_hasTurn_19 (by decide) ?_
    exact W.zret (v := (nI 0)) hx hb hr (by rfl) (fun t ht hW => ⟨⟨(nI 0), (M, hd, u, tw, iv, h, R), rfl, Or.inl ⟨rfl, hq⟩, by rw [ht]; exact hP, va_K.moved hW.alike hK, hD⟩, hS.F ht⟩) hS.2.2 dX1_hasTurn_20
  · refine lv_if_eq (tgt := 19) hx hb dX1_hasTurn_12 (by decide) (fun c => absurd c (by decide)) (fun _ => ?_)
    refine lv_iconst (v := nI 1) hx hb dX1_hasTurn_15 (by decide) ?_
    refine lv_goto (tgt := 20) hx hb dX1_hasTurn_16 (by decide) ?_
    exact W.zret (v := (nI 1)) hx hb hr (by rfl) (fun t ht hW => ⟨⟨(nI 1), (M, hd, u, tw, iv, h, R), rfl, Or.inr ⟨rfl, by obtain ⟨⟨y, _, hy, _⟩, _⟩ := hq; exact ⟨y, hy⟩⟩, by rw [ht]; exact hP, va_K.moved hW.alike hK, hD⟩, hS.F ht⟩) hS.2.2 dX1_hasTurn_20
  · refine lv_if_eq (tgt := 19) hx hb dX1_hasTurn_12 (by decide) (fun c => absurd c (by decide)) (fun _ => ?_)
    refine lv_iconst (v := nI 1) hx hb dX1_hasTurn_15 (by decide) ?_
    refine lv_goto (tgt := 20) hx hb dX1_hasTurn_16 (by decide) ?_
    exact W.zret (v := (nI 1)) hx hb hr (by rfl) (fun t ht hW => ⟨⟨(nI 1), (M, hd, u, tw, iv, h, R), rfl, Or.inr ⟨rfl, hq.1⟩, by rw [ht]; exact hP, va_K.moved hW.alike hK, hD⟩, hS.F ht⟩) hS.2.2 dX1_hasTurn_20
set_option maxHeartbeats 1000000 in
set_option maxRecDepth 100000 in
/-- ranked() -/
theorem c_X1_ranked (l : Launch) (dC : Nat → ClassId) (dI : Nat → Nat → Nat) (sz : Nat) (p0 qt qg h0 : Nat) (rt : Nat → Nat) (cB cI cA cJ : ClassId) (qc qh : Nat) (r : Nat → Nat) (vn ct : Nat) (ft fb : Int64) (gl : Nat → Int32) (T : Nat → Nat → Int32) (me nw : Nat) (u : Int64) (tw : Int32) (iv : Int64) (hd : Nat → Int32) (M : Nat → Nat → Int64) (hv1 : 1 ≤ vn) (hv3 : vn ≤ 3) (hc : ct ≤ 8) (hT : okT T ct) : Met l yX1_ranked wsX1_ranked ({ frames := 5, cells := 0, slots := 0, locals := 146 }) (va_Pc [.ref p0] (fun U => U.heap.size = sz ∧ va_P (dC, dI) vwCl (rfX p0 qt qg h0 rt cB cI vn ct ft fb gl T ++ (wgW h0 qc qh r cA cI cJ me nw u tw iv hd M)) U.heap ∧ va_K (dC, dI) vwCl ((cB, .array .int) :: (cI, .int) :: wgT cA cI cJ) U ∧ va_D (fun _ => True) (rfX p0 qt qg h0 rt cB cI vn ct ft fb gl T ++ (wgW h0 qc qh r cA cI cJ me nw u tw iv hd M)))) (va_Qi (fun (x : Int32) (v : wgS) => (x = 1 ∧ Cer (2 * ct) (3 * vn) (CR T vn ct)) ∨ (x = 0 ∧ ∃ y, Fea (2 * ct) (3 * vn) (CR T vn ct) y)) (fun v t => va_P (dC, dI) vwCl (rfX p0 qt qg h0 rt cB cI vn ct ft fb gl T ++ (wgW h0 qc qh r cA cI cJ (3 * vn) (2 * ct) v.2.2.1 v.2.2.2.1 v.2.2.2.2.1 v.2.1 v.1)) t.heap ∧ va_K (dC, dI) vwCl ((cB, .array .int) :: (cI, .int) :: wgT cA cI cJ) t ∧ va_D (va_A (rfX p0 qt qg h0 rt cB cI vn ct ft fb gl T ++ (wgW h0 qc qh r cA cI cJ me nw u tw iv hd M)) sz) (rfX p0 qt qg h0 rt cB cI vn ct ft fb gl T ++ (wgW h0 qc qh r cA cI cJ (3 * vn) (2 * ct) v.2.2.1 v.2.2.2.1 v.2.2.2.2.1 v.2.1 v.1))) (va_A (rfX p0 qt qg h0 rt cB cI vn ct ft fb gl T ++ (wgW h0 qc qh r cA cI cJ me nw u tw iv hd M)) sz)) 0 0 (va_A (rfX p0 qt qg h0 rt cB cI vn ct ft fb gl T ++ (wgW h0 qc qh r cA cI cJ me nw u tw iv hd M)) sz) := by
  refine Met.ofW (cc := cX1_ranked) (maxL := 1) (ret := (some .boolean)) (by decide) rfl ?_
  intro p e s m args below meth c s₁ B hml hv
  obtain ⟨rfl, hsz, hP, hK, hD0⟩ := hv
  have hx := B.exec
  have hb := B.bytes
  have hr := B.returns
  have hts := atoms_spec (ws := wsX1_ranked) B.pre
  have hown : s.vm.findClass RX1 = some m.cls := findClass_of_methodNamed B.named
  subst hsz
  have hD := hD0.self (sz := s.heap.size)
  clear hD0
  generalize hAe : va_A (rfX p0 qt qg h0 rt cB cI vn ct ft fb gl T ++ (wgW h0 qc qh r cA cI cJ me nw u tw iv hd M)) s.heap.size = A at hD ⊢
  have hA : ∀ q : Nat, s.heap.size ≤ q → A q := fun q h => by rw [← hAe]; exact Or.inr h
  have hl := lv_entry ([.ref p0]) (n := 1) (Nat.le_of_ble_eq_true rfl)
  rw [lg_entry_eq]
  generalize (lg_sl ([.ref p0]) ++ List.replicate (1 - (lg_sl ([.ref p0])).length) Slot.unset).toArray = ls at hl ⊢
  have hl : lv_has ls 1 [(0, .ref p0)] := hl
  have hP : va_P (dC, dI) vwCl (rfX p0 qt qg h0 rt cB cI vn ct ft fb gl T ++ (wgW h0 qc qh r cA cI cJ me nw u tw iv hd M)) s.heap := hP
  obtain ⟨H, hH⟩ : ∃ H, H = s.heap := ⟨_, rfl⟩
  have hS : va_S A s.heap H [] := by rw [hH]; exact va_S.rf
  rw [← hH] at hP ⊢
  refine lv_aload_n hx hb dX1_ranked_0 rfl (lv_at hl 0 rfl) ?_
  have hFc : ∀ q, va_A (rfX p0 qt qg h0 rt cB cI vn ct ft fb gl T ++ (wgW h0 qc qh r cA cI cJ me nw u tw iv hd M)) H.size q → A q := va_fall hD hS hA
  refine va_callv (va_runV (As := []) (rest := []) ⟨hx, hb, hml, hown, hts⟩ (c_X1_weighRanking l dC dI H.size p0 qt qg h0 rt cB cI cA cJ qc qh r vn ct ft fb gl T me nw u tw iv hd M hv1 hv3 hc) (cwV 0 hts gX1_ranked_X1_weighRanking rfl rfl rfl (by decide +kernel) ⟨Nat.le_of_ble_eq_true rfl, Nat.le_of_ble_eq_true rfl⟩) ⟨fun a U g mk q => by obtain ⟨q0, q1, qP, qK, qD⟩ := q; exact ⟨q0, q1, qP, va_K.moved (u := U) (U := U.calling g mk a) (Vm.Alike.refl U.vm) qK, qD⟩, va_recv hK hP (ci := 1) (q0 := 0) rfl rfl, fun U hU hW => ⟨rfl, by rw [hU], by rw [hU]; exact hP, va_K.moved hW.alike hK, hD.weaken (fun _ _ _ _ => trivial)⟩⟩ rfl rfl hl.1 rfl (lv_room (Nat.le_of_ble_eq_true rfl)) dX1_ranked_1 ⟨(Nat.zero_le _), (Nat.zero_le _)⟩) hS (fun q _ h => hFc q h) hFc (fun v9 t H1 locs ht hvm hw hB hz1 hk1 hS => ?_)
  obtain ⟨hP1, hK1, hD1⟩ := hB
  rw [ht] at hP1
  clear hP hD hK
  have hK := va_K.moved hvm.symm hK1
  have hP := hP1
  have hD := hD1.weaken (B := A) (fun _ q _ h => hFc q.1 h)
  clear hP1 hD1 hK1 hFc hk1 hz1 ht hvm
  generalize H1 = H at hP hS ⊢
  have hP : va_P (dC, dI) vwCl (rfX p0 qt qg h0 rt cB cI vn ct ft fb gl T ++ (wgW h0 qc qh r cA cI cJ (3 * vn) (2 * ct) 1 (bcF ((1 &&& -1) - 1)) (nwF (sr 1 (bcF ((1 &&& -1) - 1))) 5) (filI hd 9 (-1)) v9)) H := hP
  have hD : va_D A (rfX p0 qt qg h0 rt cB cI vn ct ft fb gl T ++ (wgW h0 qc qh r cA cI cJ (3 * vn) (2 * ct) 1 (bcF ((1 &&& -1) - 1)) (nwF (sr 1 (bcF ((1 &&& -1) - 1))) 5) (filI hd 9 (-1)) v9)) := hD
  have hG := Gd_init (me := 3 * vn) (nw := 2 * ct) (C := (CR T vn ct)) (M := v9) (hd := filI hd 9 (-1)) Unt_1 (fun i j hi hj => by rw [hw i j hi hj]; exact CR_t hT hv3) (fun i hi => if_pos (by omega))
  refine lv_aload_n hx hb dX1_ranked_4 rfl (lv_at hl 0 rfl) ?_
  refine va_get (D := (dC, dI)) (ci := 1) (v := .ref h0) (C := RX1) (T := TX1) (N := 7) hx hb hts (fun _ h => List.mem_cons_of_mem _ (List.mem_append_left _ (List.mem_append_right _ h))) hown hK hP 0 rfl rfl 2 (by decide) (hts (.fieldLink RX1 21 "RankFinder" "weighing" "LRankFinder$Weighing;") (List.mem_of_getElem? (i := 1) rfl)) (fun _ h9 => h9) rfl dX1_ranked_5 ?_
  have hPc : va_P (dC, dI) vwCl (wgW h0 qc qh r cA cI cJ (3 * vn) (2 * ct) 1 (bcF ((1 &&& -1) - 1)) (nwF (sr 1 (bcF ((1 &&& -1) - 1))) 5) (filI hd 9 (-1)) v9) H := va_Pr hP
  have hKc := hK.sub (tys' := wgT cA cI cJ) [2, 3, 4] rfl
  have hFc : ∀ q, va_A (wgW h0 qc qh r cA cI cJ (3 * vn) (2 * ct) 1 (bcF ((1 &&& -1) - 1)) (nwF (sr 1 (bcF ((1 &&& -1) - 1))) 5) (filI hd 9 (-1)) v9) H.size q → A q := va_Ar hD hS hA
  refine va_calli (va_runV (As := []) (rest := []) ⟨hx, hb, hml, hown, hts⟩ (c_X0_fallsForEver l dC dI h0 qc qh r cA cI cJ H.size (3 * vn) (2 * ct) 1 (bcF ((1 &&& -1) - 1)) (nwF (sr 1 (bcF ((1 &&& -1) - 1))) 5) (filI hd 9 (-1)) v9 (CR T vn ct) (fun _ => none) un (by omega) (by omega) (CR_bnd hT hv1 hv3) hG (fun _ _ => rfl)) (cwV 0 hts gX1_ranked_X0_fallsForEver rfl rfl rfl (by decide +kernel) ⟨Nat.le_of_ble_eq_true rfl, Nat.le_of_ble_eq_true rfl⟩) ⟨fun a U g mk q => by obtain ⟨q0, q1, qP, qK, qD⟩ := q; exact ⟨q0, q1, qP, va_K.moved (u := U) (U := U.calling g mk a) (Vm.Alike.refl U.vm) qK, qD⟩, va_recv hKc hPc (ci := 0) (q0 := 0) rfl rfl, fun U hU hW => ⟨rfl, by rw [hU], by rw [hU]; exact hPc, va_K.moved hW.alike hKc, va_Dr hD⟩⟩ rfl rfl hl.1 rfl (lv_room (Nat.le_of_ble_eq_true rfl)) dX1_ranked_8 ⟨(Nat.zero_le _), (Nat.zero_le _)⟩) hS (fun q _ h => hFc q h) hFc (fun r_8 v9_ t H1 locs ht hvm hw hB hz1 hk1 hS => ?_)
  obtain ⟨hP1, hK1, hD1⟩ := hB
  rw [ht] at hP1
  obtain ⟨hP, hD⟩ := jn_app hP hD hk1 hFc hP1 hD1
  clear hPc hKc hP1 hD1 hK1 hFc hk1 hz1 ht hvm
  generalize H1 = H at hP hS ⊢
  obtain ⟨M, hd, u, tw, iv, h, R⟩ := v9_
  have hP : va_P (dC, dI) vwCl (rfX p0 qt qg h0 rt cB cI vn ct ft fb gl T ++ (wgW h0 qc qh r cA cI cJ (3 * vn) (2 * ct) u tw iv hd M)) H := hP
  have hD : va_D A (rfX p0 qt qg h0 rt cB cI vn ct ft fb gl T ++ (wgW h0 qc qh r cA cI cJ (3 * vn) (2 * ct) u tw iv hd M)) := hD
  rcases hw with ⟨rfl, hcer⟩ | ⟨rfl, hG2, hZ, hC⟩
  · exact W.zret (v := 1) hx hb hr (by rfl) (fun t ht hW => ⟨⟨1, (M, hd, u, tw, iv, h, R), rfl, Or.inl ⟨rfl, hcer⟩, by rw [ht]; exact hP, va_K.moved hW.alike hK, hD⟩, hS.F ht⟩) hS.2.2 dX1_ranked_11
  · exact W.zret (v := 0) hx hb hr (by rfl) (fun t ht hW => ⟨⟨0, (M, hd, u, tw, iv, h, R), rfl, Or.inr ⟨rfl, _, Fea_of hG2.1 hC⟩, by rw [ht]; exact hP, va_K.moved hW.alike hK, hD⟩, hS.F ht⟩) hS.2.2 dX1_ranked_11
