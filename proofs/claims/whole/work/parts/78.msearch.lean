/-! ===== the reference: isGreater, search ===== -/
theorem gt_pos {h l : Int64} {e : Int} (he : h.toInt * 18446744073709551616 + (uN l : Int) = e) (q : 0 < h) : 0 < e := by
  have := uN_lt l
  rw [Int64.lt_iff_toInt_lt, show (0 : Int64).toInt = 0 from rfl] at q
  omega
theorem gt_zer {h l : Int64} {e : Int} (he : h.toInt * 18446744073709551616 + (uN l : Int) = e) (q : h = 0) : (l ≠ 0 → 0 < e) ∧ (l = 0 → e = 0) := by
  subst q
  rw [show (0 : Int64).toInt = 0 from rfl] at he
  refine ⟨fun z => ?_, fun z => ?_⟩
  · have : uN l ≠ 0 := fun q => z (uN_inj (q.trans rfl))
    omega
  · subst z
    have : uN 0 = 0 := rfl
    omega
theorem gt_neg {h l : Int64} {e : Int} (he : h.toInt * 18446744073709551616 + (uN l : Int) = e) (q : ¬ 0 < h) (q2 : h ≠ 0) : ¬ 0 < e := by
  have := uN_lt l
  rw [Int64.lt_iff_toInt_lt, show (0 : Int64).toInt = 0 from rfl] at q
  have : h.toInt ≠ 0 := fun z => q2 (Int64.toInt_inj.mp z)
  omega
/-- which of two rows has the greater bound -/
def grt (rw : Nat → Int64) (a b : Nat) : Prop := 0 < (rw (11 * a + 10)).toInt * (rw (11 * b + 9)).toInt - (rw (11 * b + 10)).toInt * (rw (11 * a + 9)).toInt
theorem grt_e {rw : Nat → Int64} {a b : Nat} (ha : rwB rw a) (hb : rwB rw b) : (mkH (rw (11 * a + 10)) (rw (11 * b + 9)) (-(rw (11 * b + 10))) (rw (11 * a + 9))).toInt * 18446744073709551616 + (uN (rw (11 * a + 10) * rw (11 * b + 9) + -(rw (11 * b + 10)) * rw (11 * a + 9)) : Int) = (rw (11 * a + 10)).toInt * (rw (11 * b + 9)).toInt - (rw (11 * b + 10)).toInt * (rw (11 * a + 9)).toInt := by
  have a9 := ha 9 (by omega)
  have a10 := ha 10 (by omega)
  have b9 := hb 9 (by omega)
  have b10 := hb 10 (by omega)
  have hq : (-(rw (11 * b + 10))).toInt = -(rw (11 * b + 10)).toInt := neg_int (by omega)
  have p1 := prodB a10.1 a10.2 b9.1 b9.2
  have p2 := prodB b10.1 b10.2 a9.1 a9.2
  have e : (rw (11 * a + 10)).toInt * (rw (11 * b + 9)).toInt - (rw (11 * b + 10)).toInt * (rw (11 * a + 9)).toInt = (rw (11 * a + 10)).toInt * (rw (11 * b + 9)).toInt + (-(rw (11 * b + 10))).toInt * (rw (11 * a + 9)).toInt := by rw [hq, Int.neg_mul]; omega
  rw [e]
  refine mk_int ?_ ?_
  · rw [hq, Int.neg_mul]; omega
  · rw [hq, Int.neg_mul]; omega
set_option maxHeartbeats 1000000 in
set_option maxRecDepth 100000 in
/-- isGreater(a, b) -/
theorem c_X2_isGreater (l : Launch) (dC : Nat → ClassId) (dI : Nat → Nat → Nat) (sz : Nat) (m0 aN aR aX aO aP aH aL aW : Nat) (cI cJ : ClassId) (vn ct : Nat) (nm : Nat → Int32) (tp bt : Int64) (an : Int32) (rw nx : Nat → Int64) (og no : Nat → Int32) (rc nc : Nat) (hgh lws : Nat → Int64) (dh dl fT fB : Int64) (wd : Nat → Int32) (a b : Nat) (ha9 : a < 1200) (hb9 : b < 1200) (hra : rwB rw a) (hrb : rwB rw b) : Met l yX2_isGreater wsX2_isGreater ({ frames := 2, cells := 0, slots := 0, locals := 68 }) (va_Pc [.ref m0, .int (nI a), .int (nI b)] (fun U => U.heap.size = sz ∧ va_P (dC, dI) vwCl (mdW m0 aN aR aX aO aP aH aL aW cI cJ vn ct nm tp bt an rw nx og no rc nc hgh lws dh dl fT fB wd) U.heap ∧ va_K (dC, dI) vwCl [(cI, .int), (cJ, .long)] U ∧ va_D (fun _ => True) (mdW m0 aN aR aX aO aP aH aL aW cI cJ vn ct nm tp bt an rw nx og no rc nc hgh lws dh dl fT fB wd))) (va_Qi (fun (x : Int32) (v : (Nat → Int64) × (Nat → Int64)) => (x = 1 ∧ grt rw a b) ∨ (x = 0 ∧ ¬ grt rw a b)) (fun v t => va_P (dC, dI) vwCl (mdW m0 aN aR aX aO aP aH aL aW cI cJ vn ct nm tp bt an rw nx og no rc nc v.1 v.2 dh dl fT fB wd) t.heap ∧ va_K (dC, dI) vwCl [(cI, .int), (cJ, .long)] t ∧ va_D (va_A (mdW m0 aN aR aX aO aP aH aL aW cI cJ vn ct nm tp bt an rw nx og no rc nc hgh lws dh dl fT fB wd) sz) (mdW m0 aN aR aX aO aP aH aL aW cI cJ vn ct nm tp bt an rw nx og no rc nc v.1 v.2 dh dl fT fB wd)) (va_A (mdW m0 aN aR aX aO aP aH aL aW cI cJ vn ct nm tp bt an rw nx og no rc nc hgh lws dh dl fT fB wd) sz)) 0 0 (va_A (mdW m0 aN aR aX aO aP aH aL aW cI cJ vn ct nm tp bt an rw nx og no rc nc hgh lws dh dl fT fB wd) sz) := by
  refine Met.ofW (cc := cX2_isGreater) (maxL := 3) (ret := (some .boolean)) (by decide) rfl ?_
  intro p e s m args below meth c s₁ B hml hv
  obtain ⟨rfl, hsz, hP, hK, hD0⟩ := hv
  have hx := B.exec
  have hb := B.bytes
  have hr := B.returns
  have hts := atoms_spec (ws := wsX2_isGreater) B.pre
  have hown : s.vm.findClass RX2 = some m.cls := findClass_of_methodNamed B.named
  subst hsz
  have hD := hD0.self (sz := s.heap.size)
  clear hD0
  generalize hAe : va_A (mdW m0 aN aR aX aO aP aH aL aW cI cJ vn ct nm tp bt an rw nx og no rc nc hgh lws dh dl fT fB wd) s.heap.size = A at hD ⊢
  have hA : ∀ q : Nat, s.heap.size ≤ q → A q := fun q h => by rw [← hAe]; exact Or.inr h
  have hl := lv_entry ([.ref m0, .int (nI a), .int (nI b)]) (n := 3) (Nat.le_of_ble_eq_true rfl)
  rw [lg_entry_eq]
  generalize (lg_sl ([.ref m0, .int (nI a), .int (nI b)]) ++ List.replicate (3 - (lg_sl ([.ref m0, .int (nI a), .int (nI b)])).length) Slot.unset).toArray = ls at hl ⊢
  have hl : lv_has ls 3 [(0, .ref m0), (1, .int (nI a)), (2, .int (nI b))] := hl
  have hP : va_P (dC, dI) vwCl (mdW m0 aN aR aX aO aP aH aL aW cI cJ vn ct nm tp bt an rw nx og no rc nc hgh lws dh dl fT fB wd) s.heap := hP
  obtain ⟨H, hH⟩ : ∃ H, H = s.heap := ⟨_, rfl⟩
  have hS : va_S A s.heap H [] := by rw [hH]; exact va_S.rf
  rw [← hH] at hP ⊢
  refine lv_aload_n hx hb dX2_isGreater_0 rfl (lv_at hl 0 rfl) ?_
  refine lv_iconst (v := nI 0) hx hb dX2_isGreater_1 (by decide) ?_
  refine lv_aload_n hx hb dX2_isGreater_2 rfl (lv_at hl 0 rfl) ?_
  refine va_get (D := (dC, dI)) (ci := 2) (v := .ref aR) (C := RX2) (T := TX2) (N := 19) hx hb hts (fun _ h => List.mem_cons_of_mem _ (List.mem_append_right _ h)) hown hK hP 0 rfl rfl 6 (by decide) (hts (.fieldLink RX2 17 "RankFinderModel" "rows" "[J") (List.mem_of_getElem? (i := 1) rfl)) (fun _ h9 => h9) rfl dX2_isGreater_3 ?_
  refine lv_bipush (v := nI 11) hx hb dX2_isGreater_6 (by decide) ?_
  refine lv_iload_n hx hb dX2_isGreater_8 rfl (lv_at hl 1 rfl) ?_
  refine lv_imul hx hb dX2_isGreater_9 ?_
  refine lv_topi (fun z_1 ez_1 => ?_)
  obtain rfl : z_1 = nI (11 * a) := ez_1.trans (pk_mul 11 a)
  refine lv_bipush (v := nI 10) hx hb dX2_isGreater_10 (by decide) ?_
  refine lv_iadd hx hb dX2_isGreater_12 ?_
  refine lv_topi (fun z_2 ez_2 => ?_)
  obtain rfl : z_2 = nI ((11 * a) + 10) := ez_2.trans (nI_add (11 * a) 10)
  refine na_lald hx hb hK hP 2 1 rfl rfl (show 11 * a + 10 < 13200 by omega) (by decide) dX2_isGreater_13 ?_
  refine lv_aload_n hx hb dX2_isGreater_14 rfl (lv_at hl 0 rfl) ?_
  refine va_get (D := (dC, dI)) (ci := 2) (v := .ref aR) (C := RX2) (T := TX2) (N := 19) hx hb hts (fun _ h => List.mem_cons_of_mem _ (List.mem_append_right _ h)) hown hK hP 0 rfl rfl 6 (by decide) (hts (.fieldLink RX2 17 "RankFinderModel" "rows" "[J") (List.mem_of_getElem? (i := 1) rfl)) (fun _ h9 => h9) rfl dX2_isGreater_15 ?_
  refine lv_bipush (v := nI 11) hx hb dX2_isGreater_18 (by decide) ?_
  refine lv_iload_n hx hb dX2_isGreater_20 rfl (lv_at hl 2 rfl) ?_
  refine lv_imul hx hb dX2_isGreater_21 ?_
  refine lv_topi (fun z_3 ez_3 => ?_)
  obtain rfl : z_3 = nI (11 * b) := ez_3.trans (pk_mul 11 b)
  refine lv_bipush (v := nI 9) hx hb dX2_isGreater_22 (by decide) ?_
  refine lv_iadd hx hb dX2_isGreater_24 ?_
  refine lv_topi (fun z_4 ez_4 => ?_)
  obtain rfl : z_4 = nI ((11 * b) + 9) := ez_4.trans (nI_add (11 * b) 9)
  refine na_lald hx hb hK hP 2 1 rfl rfl (show 11 * b + 9 < 13200 by omega) (by decide) dX2_isGreater_25 ?_
  refine lv_aload_n hx hb dX2_isGreater_26 rfl (lv_at hl 0 rfl) ?_
  refine va_get (D := (dC, dI)) (ci := 2) (v := .ref aR) (C := RX2) (T := TX2) (N := 19) hx hb hts (fun _ h => List.mem_cons_of_mem _ (List.mem_append_right _ h)) hown hK hP 0 rfl rfl 6 (by decide) (hts (.fieldLink RX2 17 "RankFinderModel" "rows" "[J") (List.mem_of_getElem? (i := 1) rfl)) (fun _ h9 => h9) rfl dX2_isGreater_27 ?_
  refine lv_bipush (v := nI 11) hx hb dX2_isGreater_30 (by decide) ?_
  refine lv_iload_n hx hb dX2_isGreater_32 rfl (lv_at hl 2 rfl) ?_
  refine lv_imul hx hb dX2_isGreater_33 ?_
  refine lv_topi (fun z_5 ez_5 => ?_)
  obtain rfl : z_5 = nI (11 * b) := ez_5.trans (pk_mul 11 b)
  refine lv_bipush (v := nI 10) hx hb dX2_isGreater_34 (by decide) ?_
  refine lv_iadd hx hb dX2_isGreater_36 ?_
  refine lv_topi (fun z_6 ez_6 => ?_)
  obtain rfl : z_6 = nI ((11 * b) + 10) := ez_6.trans (nI_add (11 * b) 10)
  refine na_lald hx hb hK hP 2 1 rfl rfl (show 11 * b + 10 < 13200 by omega) (by decide) dX2_isGreater_37 ?_
  refine lv_lneg hx hb dX2_isGreater_38 ?_
  refine lv_aload_n hx hb dX2_isGreater_39 rfl (lv_at hl 0 rfl) ?_
  refine va_get (D := (dC, dI)) (ci := 2) (v := .ref aR) (C := RX2) (T := TX2) (N := 19) hx hb hts (fun _ h => List.mem_cons_of_mem _ (List.mem_append_right _ h)) hown hK hP 0 rfl rfl 6 (by decide) (hts (.fieldLink RX2 17 "RankFinderModel" "rows" "[J") (List.mem_of_getElem? (i := 1) rfl)) (fun _ h9 => h9) rfl dX2_isGreater_40 ?_
  refine lv_bipush (v := nI 11) hx hb dX2_isGreater_43 (by decide) ?_
  refine lv_iload_n hx hb dX2_isGreater_45 rfl (lv_at hl 1 rfl) ?_
  refine lv_imul hx hb dX2_isGreater_46 ?_
  refine lv_topi (fun z_7 ez_7 => ?_)
  obtain rfl : z_7 = nI (11 * a) := ez_7.trans (pk_mul 11 a)
  refine lv_bipush (v := nI 9) hx hb dX2_isGreater_47 (by decide) ?_
  refine lv_iadd hx hb dX2_isGreater_49 ?_
  refine lv_topi (fun z_8 ez_8 => ?_)
  obtain rfl : z_8 = nI ((11 * a) + 9) := ez_8.trans (nI_add (11 * a) 9)
  refine na_lald hx hb hK hP 2 1 rfl rfl (show 11 * a + 9 < 13200 by omega) (by decide) dX2_isGreater_50 ?_
  have he := grt_e hra hrb
  have hFc : ∀ q, va_A (mdW m0 aN aR aX aO aP aH aL aW cI cJ vn ct nm tp bt an rw nx og no rc nc hgh lws dh dl fT fB wd) H.size q → A q := va_fall hD hS hA
  refine va_callv (va_runV (As := [.int (nI 0), .long (rw ((11 * a) + 10)), .long (rw ((11 * b) + 9)), .long (-(rw ((11 * b) + 10))), .long (rw ((11 * a) + 9))]) (rest := []) ⟨hx, hb, hml, hown, hts⟩ (c_X2_make l dC dI H.size m0 aN aR aX aO aP aH aL aW cI cJ vn ct nm tp bt an rw nx og no rc nc hgh lws dh dl fT fB wd 0 (rw (11 * a + 10)) (rw (11 * b + 9)) (-(rw (11 * b + 10))) (rw (11 * a + 9)) (by omega)) (cwV 5 hts gX2_isGreater_X2_make rfl rfl rfl (by decide +kernel) ⟨Nat.le_of_ble_eq_true rfl, Nat.le_of_ble_eq_true rfl⟩) ⟨fun a U g mk q => by obtain ⟨q0, q1, qP, qK, qD⟩ := q; exact ⟨q0, q1, qP, va_K.moved (u := U) (U := U.calling g mk a) (Vm.Alike.refl U.vm) qK, qD⟩, va_recv hK hP (ci := 2) (q0 := 0) rfl rfl, fun U hU hW => ⟨rfl, by rw [hU], by rw [hU]; exact hP, va_K.moved hW.alike hK, hD.weaken (fun _ _ _ _ => trivial)⟩⟩ rfl rfl hl.1 rfl (lv_room (Nat.le_of_ble_eq_true rfl)) dX2_isGreater_51 ⟨(Nat.zero_le _), (Nat.zero_le _)⟩) hS (fun q _ h => hFc q h) hFc (fun v9 t H1 locs ht hvm hw hB hz1 hk1 hS => ?_)
  obtain ⟨hP1, hK1, hD1⟩ := hB
  rw [ht] at hP1
  clear hP hD hK
  have hK := va_K.moved hvm.symm hK1
  have hP := hP1
  have hD := hD1.weaken (B := A) (fun _ q _ h => hFc q.1 h)
  clear hP1 hD1 hK1 hFc hk1 hz1 ht hvm
  generalize H1 = H at hP hS ⊢
  have hP : va_P (dC, dI) vwCl (mdW m0 aN aR aX aO aP aH aL aW cI cJ vn ct nm tp bt an rw nx og no rc nc (vp_updL hgh 0 (mkH (rw (11 * a + 10)) (rw (11 * b + 9)) (-(rw (11 * b + 10))) (rw (11 * a + 9)))) (vp_updL lws 0 (rw (11 * a + 10) * rw (11 * b + 9) + -(rw (11 * b + 10)) * rw (11 * a + 9))) dh dl fT fB wd) H := hP
  have hD : va_D A (mdW m0 aN aR aX aO aP aH aL aW cI cJ vn ct nm tp bt an rw nx og no rc nc (vp_updL hgh 0 (mkH (rw (11 * a + 10)) (rw (11 * b + 9)) (-(rw (11 * b + 10))) (rw (11 * a + 9)))) (vp_updL lws 0 (rw (11 * a + 10) * rw (11 * b + 9) + -(rw (11 * b + 10)) * rw (11 * a + 9))) dh dl fT fB wd) := hD
  obtain ⟨h2, hh2⟩ : ∃ f, f = vp_updL hgh 0 (mkH (rw (11 * a + 10)) (rw (11 * b + 9)) (-(rw (11 * b + 10))) (rw (11 * a + 9))) := ⟨_, rfl⟩
  obtain ⟨l2, hl2⟩ : ∃ f, f = vp_updL lws 0 (rw (11 * a + 10) * rw (11 * b + 9) + -(rw (11 * b + 10)) * rw (11 * a + 9)) := ⟨_, rfl⟩
  rw [← hh2, ← hl2] at hP hD
  have hP : va_P (dC, dI) vwCl (mdW m0 aN aR aX aO aP aH aL aW cI cJ vn ct nm tp bt an rw nx og no rc nc h2 l2 dh dl fT fB wd) H := hP
  have hD : va_D A (mdW m0 aN aR aX aO aP aH aL aW cI cJ vn ct nm tp bt an rw nx og no rc nc h2 l2 dh dl fT fB wd) := hD
  have e1 : h2 0 = mkH (rw (11 * a + 10)) (rw (11 * b + 9)) (-(rw (11 * b + 10))) (rw (11 * a + 9)) := by rw [hh2]; rfl
  have e2 : l2 0 = rw (11 * a + 10) * rw (11 * b + 9) + -(rw (11 * b + 10)) * rw (11 * a + 9) := by rw [hl2]; rfl
  rw [← e1, ← e2] at he
  refine lv_aload_n hx hb dX2_isGreater_54 rfl (lv_at hl 0 rfl) ?_
  refine va_get (D := (dC, dI)) (ci := 2) (v := .ref aH) (C := RX2) (T := TX2) (N := 19) hx hb hts (fun _ h => List.mem_cons_of_mem _ (List.mem_append_right _ h)) hown hK hP 0 rfl rfl 12 (by decide) (hts (.fieldLink RX2 30 "RankFinderModel" "highs" "[J") (List.mem_of_getElem? (i := 2) rfl)) (fun _ h9 => h9) rfl dX2_isGreater_55 ?_
  refine lv_iconst (v := nI 0) hx hb dX2_isGreater_58 (by decide) ?_
  refine na_lald hx hb hK hP 6 1 rfl rfl (show 0 < 11 by omega) (by decide) dX2_isGreater_59 ?_
  refine lv_lconst (v := 0) hx hb dX2_isGreater_60 (by decide) ?_
  refine W.lcmp hx hb dX2_isGreater_61 ?_
  refine lv_if_gt (tgt := 87) hx hb dX2_isGreater_62 (by decide) (fun c1 => ?_) (fun c1 => ?_)
  · rw [lg_cmp_gt] at c1
    refine lv_iconst (v := nI 1) hx hb dX2_isGreater_87 (by decide) ?_
    refine lv_goto (tgt := 92) hx hb dX2_isGreater_88 (by decide) ?_
    exact W.zret (v := (nI 1)) hx hb hr (by rfl) (fun t ht hW => ⟨⟨(nI 1), (h2, l2), rfl, Or.inl ⟨rfl, gt_pos he c1⟩, by rw [ht]; exact hP, va_K.moved hW.alike hK, hD⟩, hS.F ht⟩) hS.2.2 dX2_isGreater_92
  · rw [lg_cmp_gt] at c1
    refine lv_aload_n hx hb dX2_isGreater_65 rfl (lv_at hl 0 rfl) ?_
    refine va_get (D := (dC, dI)) (ci := 2) (v := .ref aH) (C := RX2) (T := TX2) (N := 19) hx hb hts (fun _ h => List.mem_cons_of_mem _ (List.mem_append_right _ h)) hown hK hP 0 rfl rfl 12 (by decide) (hts (.fieldLink RX2 30 "RankFinderModel" "highs" "[J") (List.mem_of_getElem? (i := 2) rfl)) (fun _ h9 => h9) rfl dX2_isGreater_66 ?_
    refine lv_iconst (v := nI 0) hx hb dX2_isGreater_69 (by decide) ?_
    refine na_lald hx hb hK hP 6 1 rfl rfl (show 0 < 11 by omega) (by decide) dX2_isGreater_70 ?_
    refine lv_lconst (v := 0) hx hb dX2_isGreater_71 (by decide) ?_
    refine W.lcmp hx hb dX2_isGreater_72 ?_
    refine lv_if_ne (tgt := 91) hx hb dX2_isGreater_73 (by decide) (fun c2 => ?_) (fun c2 => ?_)
    · rw [lg_cmp_eq] at c2
      refine lv_iconst (v := nI 0) hx hb dX2_isGreater_91 (by decide) ?_
      exact W.zret (v := (nI 0)) hx hb hr (by rfl) (fun t ht hW => ⟨⟨(nI 0), (h2, l2), rfl, Or.inr ⟨rfl, gt_neg he c1 c2⟩, by rw [ht]; exact hP, va_K.moved hW.alike hK, hD⟩, hS.F ht⟩) hS.2.2 dX2_isGreater_92
    · rw [lg_cmp_eq] at c2
      refine lv_aload_n hx hb dX2_isGreater_76 rfl (lv_at hl 0 rfl) ?_
      refine va_get (D := (dC, dI)) (ci := 2) (v := .ref aL) (C := RX2) (T := TX2) (N := 19) hx hb hts (fun _ h => List.mem_cons_of_mem _ (List.mem_append_right _ h)) hown hK hP 0 rfl rfl 13 (by decide) (hts (.fieldLink RX2 33 "RankFinderModel" "lows" "[J") (List.mem_of_getElem? (i := 3) rfl)) (fun _ h9 => h9) rfl dX2_isGreater_77 ?_
      refine lv_iconst (v := nI 0) hx hb dX2_isGreater_80 (by decide) ?_
      refine na_lald hx hb hK hP 7 1 rfl rfl (show 0 < 11 by omega) (by decide) dX2_isGreater_81 ?_
      refine lv_lconst (v := 0) hx hb dX2_isGreater_82 (by decide) ?_
      refine W.lcmp hx hb dX2_isGreater_83 ?_
      refine lv_if_eq (tgt := 91) hx hb dX2_isGreater_84 (by decide) (fun c3 => ?_) (fun c3 => ?_)
      · rw [lg_cmp_eq] at c3
        refine lv_iconst (v := nI 0) hx hb dX2_isGreater_91 (by decide) ?_
        exact W.zret (v := (nI 0)) hx hb hr (by rfl) (fun t ht hW => ⟨⟨(nI 0), (h2, l2), rfl, Or.inr ⟨rfl, fun q => by have := (gt_zer he c2).2 c3; unfold grt at q; omega⟩, by rw [ht]; exact hP, va_K.moved hW.alike hK, hD⟩, hS.F ht⟩) hS.2.2 dX2_isGreater_92
      · rw [lg_cmp_eq] at c3
        refine lv_iconst (v := nI 1) hx hb dX2_isGreater_87 (by decide) ?_
        refine lv_goto (tgt := 92) hx hb dX2_isGreater_88 (by decide) ?_
        exact W.zret (v := (nI 1)) hx hb hr (by rfl) (fun t ht hW => ⟨⟨(nI 1), (h2, l2), rfl, Or.inl ⟨rfl, (gt_zer he c2).1 c3⟩, by rw [ht]; exact hP, va_K.moved hW.alike hK, hD⟩, hS.F ht⟩) hS.2.2 dX2_isGreater_92
def srP (wd : Nat → Int32) (i j : Nat) : Int64 := if j < i ∨ (3 ≤ j ∧ j < 3 + i) then (wd j).toInt64 else 0
def smL (nm wd : Nat → Int32) (vn ct a j : Nat) : Int64 := if a < ct then brM nm vn a j else if j < vn ∨ (3 ≤ j ∧ j < 3 + vn) then (wd j).toInt64 else if j = 9 then -1 else 0
theorem srP_s {f : Nat → Int64} {wd : Nat → Int32} {r i : Nat} (hi : i < 3) (h : ∀ j, j < 11 → f (11 * r + j) = srP wd i j) : ∀ j, j < 11 → vp_updL (vp_updL f (11 * r + i) (wd i).toInt64) (11 * r + 3 + i) (wd (3 + i)).toInt64 (11 * r + j) = srP wd (i + 1) j := fun j hj => by
  unfold vp_updL
  by_cases e : j = 3 + i
  · subst e
    rw [if_pos (by omega)]; unfold srP; rw [if_pos (by omega)]
  · rw [if_neg (by omega)]
    by_cases e2 : j = i
    · subst e2
      rw [if_pos rfl]; unfold srP; rw [if_pos (by omega)]
    · rw [if_neg (by omega), h j hj]; unfold srP
      by_cases q : j < i ∨ (3 ≤ j ∧ j < 3 + i)
      · rw [if_pos q, if_pos (by omega)]
      · rw [if_neg q, if_neg (by omega)]
theorem smL_int {nm wd : Nat → Int32} {vn ct k j : Nat} : (smL nm wd vn ct k j).toInt = SM nm wd vn ct k j := by
  unfold smL SM
  by_cases q : k < ct
  · rw [if_pos q, if_pos q]; rfl
  · rw [if_neg q, if_neg q]
    by_cases q1 : j < vn ∨ (3 ≤ j ∧ j < 3 + vn)
    · rw [if_pos q1, if_pos q1, Int32.toInt_toInt64]
    · rw [if_neg q1, if_neg q1]
      by_cases q2 : j = 9
      · rw [if_pos q2, if_pos q2]; rfl
      · rw [if_neg q2, if_neg q2]; rfl
theorem SM_b {nm wd : Nat → Int32} {vn ct : Nat} (hN : okN nm ct) (hG : okG wd) (hv : vn ≤ 3) (k j : Nat) : -1000 ≤ SM nm wd vn ct k j ∧ SM nm wd vn ct k j ≤ 1000 := by
  unfold SM
  by_cases q : k < ct
  · rw [if_pos q]; have := (mt_b hN hv q j).2; omega
  · rw [if_neg q]
    by_cases q1 : j < vn ∨ (3 ≤ j ∧ j < 3 + vn)
    · rw [if_pos q1]; have := hG j (by omega); omega
    · rw [if_neg q1]; split <;> omega
/-- the best of the rows so far -/
def bst (rw : Nat → Int64) (k : Nat) (b9 : Int32) : Prop := (b9 = -1 ∧ ∀ r, r < k → ¬ rw (11 * r + 9) < 0) ∨ ∃ b, b < k ∧ b9 = nI b ∧ (rw (11 * b + 9)).toInt < 0 ∧ ∀ r, r < k → (rw (11 * r + 9)).toInt < 0 → (rw (11 * r + 10)).toInt * (rw (11 * b + 9)).toInt ≤ (rw (11 * b + 10)).toInt * (rw (11 * r + 9)).toInt
theorem bst_skip {rw : Nat → Int64} {k : Nat} {b9 : Int32} (h : bst rw k b9) (hk : ¬ rw (11 * k + 9) < 0) : bst rw (k + 1) b9 := by
  rcases h with ⟨h1, h2⟩ | ⟨b, h1, h2, h3, h4⟩
  · refine Or.inl ⟨h1, fun r hr => ?_⟩
    by_cases e : r = k
    · subst e; exact hk
    · exact h2 r (by omega)
  · refine Or.inr ⟨b, by omega, h2, h3, fun r hr q => ?_⟩
    by_cases e : r = k
    · subst e; exact absurd (Int64.lt_iff_toInt_lt.mpr q) hk
    · exact h4 r (by omega) q
theorem bst_first {rw : Nat → Int64} {k : Nat} (h : ∀ r, r < k → ¬ rw (11 * r + 9) < 0) (hk : (rw (11 * k + 9)).toInt < 0) : bst rw (k + 1) (nI k) := by
  refine Or.inr ⟨k, by omega, rfl, hk, fun r hr q => ?_⟩
  by_cases e : r = k
  · subst e; omega
  · exact absurd (Int64.lt_iff_toInt_lt.mpr q) (h r (by omega))
theorem cross {R1 s1 R2 s2 R3 s3 : Int} (h1 : s1 < 0) (h2 : s2 < 0) (h3 : s3 < 0) (a : R1 * s2 ≤ R2 * s1) (b : R2 * s3 ≤ R3 * s2) : R1 * s3 ≤ R3 * s1 := by
  have e1 := Int.mul_le_mul_of_nonneg_right a (show 0 ≤ -s3 by omega)
  have e2 := Int.mul_le_mul_of_nonneg_right b (show 0 ≤ -s1 by omega)
  have e3 : (R1 * s3) * -s2 ≤ (R3 * s1) * -s2 := by grind
  exact Int.le_of_mul_le_mul_right e3 (by omega)
theorem bst_new {rw : Nat → Int64} {k b : Nat} (hb : b < k) (h3 : (rw (11 * b + 9)).toInt < 0) (h4 : ∀ r, r < k → (rw (11 * r + 9)).toInt < 0 → (rw (11 * r + 10)).toInt * (rw (11 * b + 9)).toInt ≤ (rw (11 * b + 10)).toInt * (rw (11 * r + 9)).toInt) (hk : (rw (11 * k + 9)).toInt < 0) (hg : grt rw k b) : bst rw (k + 1) (nI k) := by
  refine Or.inr ⟨k, by omega, rfl, hk, fun r hr q => ?_⟩
  by_cases e : r = k
  · subst e; omega
  · unfold grt at hg
    exact cross q h3 hk (h4 r (by omega) q) (by omega)
theorem bst_old {rw : Nat → Int64} {k b : Nat} (hb : b < k) (h3 : (rw (11 * b + 9)).toInt < 0) (h4 : ∀ r, r < k → (rw (11 * r + 9)).toInt < 0 → (rw (11 * r + 10)).toInt * (rw (11 * b + 9)).toInt ≤ (rw (11 * b + 10)).toInt * (rw (11 * r + 9)).toInt) (hg : ¬ grt rw k b) : bst rw (k + 1) (nI b) := by
  refine Or.inr ⟨b, by omega, rfl, h3, fun r hr q => ?_⟩
  by_cases e : r = k
  · subst e; unfold grt at hg; omega
  · exact h4 r (by omega) q
theorem lN_of {x : Int64} (h : 0 ≤ x.toInt) : x = lN x.toInt.natAbs := by
  have h1 := x.toInt_lt
  apply Int64.toInt_inj.mp
  rw [pk_lT (by omega)]; omega
set_option maxHeartbeats 1000000 in
set_option maxRecDepth 100000 in
/-- search() -/
theorem c_X2_search (l : Launch) (dC : Nat → ClassId) (dI : Nat → Nat → Nat) (sz : Nat) (m0 aN aR aX aO aP aH aL aW : Nat) (cI cJ : ClassId) (vn ct : Nat) (nm : Nat → Int32) (tp bt : Int64) (an : Int32) (rw nx : Nat → Int64) (og no : Nat → Int32) (rc nc : Nat) (hgh lws : Nat → Int64) (dh dl fT fB : Int64) (wd : Nat → Int32) (hv1 : 1 ≤ vn) (hv : vn ≤ 3) (hc : ct ≤ 8) (hN : okN nm ct) (hG : okG wd) : Met l yX2_search wsX2_search ({ frames := 5, cells := 0, slots := 0, locals := 152 }) (va_Pc [.ref m0] (fun U => U.heap.size = sz ∧ va_P (dC, dI) vwCl (mdW m0 aN aR aX aO aP aH aL aW cI cJ vn ct nm tp bt an rw nx og no rc nc hgh lws dh dl fT fB wd) U.heap ∧ va_K (dC, dI) vwCl [(cI, .int), (cJ, .long)] U ∧ va_D (fun _ => True) (mdW m0 aN aR aX aO aP aH aL aW cI cJ vn ct nm tp bt an rw nx og no rc nc hgh lws dh dl fT fB wd))) (va_Qi (fun (x : Int32) (v : Nat × (Nat → Int64) × (Nat → Int32) × (Nat → Int64) × (Nat → Int32) × (Nat → Int64) × (Nat → Int64) × Int64 × Int64 × Nat × Int64 × Int64) => (x = 0 ∧ CerQ ct 9 (SM nm wd vn ct)) ∨ (x = 1 ∧ ¬ CerQ ct 9 (SM nm wd vn ct) ∧ ¬ ∃ w, DuF ct (SM nm wd vn ct) w) ∨ (x = 2 ∧ ¬ CerQ ct 9 (SM nm wd vn ct) ∧ ∃ val, Opt ct (SM nm wd vn ct) val ∧ (v.2.2.2.2.2.2.2.2.2.2.1.toInt : Rat) = val * (v.2.2.2.2.2.2.2.2.2.2.2.toInt : Rat) ∧ 0 < v.2.2.2.2.2.2.2.2.2.2.2.toInt ∧ Nat.gcd v.2.2.2.2.2.2.2.2.2.2.1.toInt.natAbs v.2.2.2.2.2.2.2.2.2.2.2.toInt.natAbs = 1 ∧ v.2.2.2.2.2.2.2.2.2.2.2.toInt < 2251799813685248)) (fun v t => va_P (dC, dI) vwCl (mdW m0 aN aR aX aO aP aH aL aW cI cJ vn ct nm tp bt an v.2.1 v.2.2.2.1 v.2.2.1 v.2.2.2.2.1 v.1 v.2.2.2.2.2.2.2.2.2.1 v.2.2.2.2.2.1 v.2.2.2.2.2.2.1 v.2.2.2.2.2.2.2.1 v.2.2.2.2.2.2.2.2.1 v.2.2.2.2.2.2.2.2.2.2.1 v.2.2.2.2.2.2.2.2.2.2.2 wd) t.heap ∧ va_K (dC, dI) vwCl [(cI, .int), (cJ, .long)] t ∧ va_D (va_A (mdW m0 aN aR aX aO aP aH aL aW cI cJ vn ct nm tp bt an rw nx og no rc nc hgh lws dh dl fT fB wd) sz) (mdW m0 aN aR aX aO aP aH aL aW cI cJ vn ct nm tp bt an v.2.1 v.2.2.2.1 v.2.2.1 v.2.2.2.2.1 v.1 v.2.2.2.2.2.2.2.2.2.1 v.2.2.2.2.2.1 v.2.2.2.2.2.2.1 v.2.2.2.2.2.2.2.1 v.2.2.2.2.2.2.2.2.1 v.2.2.2.2.2.2.2.2.2.2.1 v.2.2.2.2.2.2.2.2.2.2.2 wd)) (va_A (mdW m0 aN aR aX aO aP aH aL aW cI cJ vn ct nm tp bt an rw nx og no rc nc hgh lws dh dl fT fB wd) sz)) 0 0 (va_A (mdW m0 aN aR aX aO aP aH aL aW cI cJ vn ct nm tp bt an rw nx og no rc nc hgh lws dh dl fT fB wd) sz) := by
  refine Met.ofW (cc := cX2_search) (maxL := 9) (ret := (some .int)) (by decide) rfl ?_
  intro p e s m args below meth c s₁ B hml hv
  obtain ⟨rfl, hsz, hP, hK, hD0⟩ := hv
  have hx := B.exec
  have hb := B.bytes
  have hr := B.returns
  have hts := atoms_spec (ws := wsX2_search) B.pre
  have hown : s.vm.findClass RX2 = some m.cls := findClass_of_methodNamed B.named
  subst hsz
  have hD := hD0.self (sz := s.heap.size)
  clear hD0
  generalize hAe : va_A (mdW m0 aN aR aX aO aP aH aL aW cI cJ vn ct nm tp bt an rw nx og no rc nc hgh lws dh dl fT fB wd) s.heap.size = A at hD ⊢
  have hA : ∀ q : Nat, s.heap.size ≤ q → A q := fun q h => by rw [← hAe]; exact Or.inr h
  have hl := lv_entry ([.ref m0]) (n := 9) (Nat.le_of_ble_eq_true rfl)
  rw [lg_entry_eq]
  generalize (lg_sl ([.ref m0]) ++ List.replicate (9 - (lg_sl ([.ref m0])).length) Slot.unset).toArray = ls at hl ⊢
  have hl : lv_has ls 9 [(0, .ref m0)] := hl
  have hP : va_P (dC, dI) vwCl (mdW m0 aN aR aX aO aP aH aL aW cI cJ vn ct nm tp bt an rw nx og no rc nc hgh lws dh dl fT fB wd) s.heap := hP
  obtain ⟨H, hH⟩ : ∃ H, H = s.heap := ⟨_, rfl⟩
  have hS : va_S A s.heap H [] := by rw [hH]; exact va_S.rf
  rw [← hH] at hP ⊢
  refine lv_aload_n hx hb dX2_search_0 rfl (lv_at hl 0 rfl) ?_
  have hFc : ∀ q, va_A (mdW m0 aN aR aX aO aP aH aL aW cI cJ vn ct nm tp bt an rw nx og no rc nc hgh lws dh dl fT fB wd) H.size q → A q := va_fall hD hS hA
  refine va_callv (va_runV (As := []) (rest := []) ⟨hx, hb, hml, hown, hts⟩ (c_X2_beginRows l dC dI H.size m0 aN aR aX aO aP aH aL aW cI cJ vn ct nm tp bt an rw nx og no rc nc hgh lws dh dl fT fB wd hc hv) (cwV 0 hts gX2_search_X2_beginRows rfl rfl rfl (by decide +kernel) ⟨Nat.le_of_ble_eq_true rfl, Nat.le_of_ble_eq_true rfl⟩) ⟨fun a U g mk q => by obtain ⟨q0, q1, qP, qK, qD⟩ := q; exact ⟨q0, q1, qP, va_K.moved (u := U) (U := U.calling g mk a) (Vm.Alike.refl U.vm) qK, qD⟩, va_recv hK hP (ci := 2) (q0 := 0) rfl rfl, fun U hU hW => ⟨rfl, by rw [hU], by rw [hU]; exact hP, va_K.moved hW.alike hK, hD.weaken (fun _ _ _ _ => trivial)⟩⟩ rfl rfl hl.1 rfl (lv_room (Nat.le_of_ble_eq_true rfl)) dX2_search_1 ⟨(Nat.zero_le _), (Nat.zero_le _)⟩) hS (fun q _ h => hFc q h) hFc (fun v9 t H1 locs ht hvm hw hB hz1 hk1 hS => ?_)
  obtain ⟨hP1, hK1, hD1⟩ := hB
  rw [ht] at hP1
  clear hP hD hK
  have hK := va_K.moved hvm.symm hK1
  have hP := hP1
  have hD := hD1.weaken (B := A) (fun _ q _ h => hFc q.1 h)
  clear hP1 hD1 hK1 hFc hk1 hz1 ht hvm
  generalize H1 = H at hP hS ⊢
  obtain ⟨f1, o1⟩ := v9
  have hP : va_P (dC, dI) vwCl (mdW m0 aN aR aX aO aP aH aL aW cI cJ vn ct nm tp bt an f1 nx o1 no ct nc hgh lws dh dl fT fB wd) H := hP
  have hD : va_D A (mdW m0 aN aR aX aO aP aH aL aW cI cJ vn ct nm tp bt an f1 nx o1 no ct nc hgh lws dh dl fT fB wd) := hD
  obtain ⟨hf1, ho1⟩ : rwI f1 (brM nm vn) ct ∧ ∀ k, k < ct → o1 k = bitI k := hw
  refine lv_aload_n hx hb dX2_search_4 rfl (lv_at hl 0 rfl) ?_
  have hFc : ∀ q, va_A (mdW m0 aN aR aX aO aP aH aL aW cI cJ vn ct nm tp bt an f1 nx o1 no ct nc hgh lws dh dl fT fB wd) H.size q → A q := va_fall hD hS hA
  refine va_calli (va_runV (As := []) (rest := []) ⟨hx, hb, hml, hown, hts⟩ (c_X2_empty l dC dI H.size m0 aN aR aX aO aP aH aL aW cI cJ vn ct nm tp bt an f1 nx o1 no ct nc hgh lws dh dl fT fB wd (by omega)) (cwV 0 hts gX2_search_X2_empty rfl rfl rfl (by decide +kernel) ⟨Nat.le_of_ble_eq_true rfl, Nat.le_of_ble_eq_true rfl⟩) ⟨fun a U g mk q => by obtain ⟨q0, q1, qP, qK, qD⟩ := q; exact ⟨q0, q1, qP, va_K.moved (u := U) (U := U.calling g mk a) (Vm.Alike.refl U.vm) qK, qD⟩, va_recv hK hP (ci := 2) (q0 := 0) rfl rfl, fun U hU hW => ⟨rfl, by rw [hU], by rw [hU]; exact hP, va_K.moved hW.alike hK, hD.weaken (fun _ _ _ _ => trivial)⟩⟩ rfl rfl hl.1 rfl (lv_room (Nat.le_of_ble_eq_true rfl)) dX2_search_5 ⟨(Nat.zero_le _), (Nat.zero_le _)⟩) hS (fun q _ h => hFc q h) hFc (fun r_5 v9 t H1 locs ht hvm hw hB hz1 hk1 hS => ?_)
  obtain ⟨hP1, hK1, hD1⟩ := hB
  rw [ht] at hP1
  clear hP hD hK
  have hK := va_K.moved hvm.symm hK1
  have hP := hP1
  have hD := hD1.weaken (B := A) (fun _ q _ h => hFc q.1 h)
  clear hP1 hD1 hK1 hFc hk1 hz1 ht hvm
  generalize H1 = H at hP hS ⊢
  subst hw
  have hP : va_P (dC, dI) vwCl (mdW m0 aN aR aX aO aP aH aL aW cI cJ vn ct nm tp bt an (zeF f1 ct 11) nx (upd o1 ct (bitI ct)) no (ct + 1) nc hgh lws dh dl fT fB wd) H := hP
  have hD : va_D A (mdW m0 aN aR aX aO aP aH aL aW cI cJ vn ct nm tp bt an (zeF f1 ct 11) nx (upd o1 ct (bitI ct)) no (ct + 1) nc hgh lws dh dl fT fB wd) := hD
  refine lv_istore_n (lv' := [(1, .int (nI (11 * ct))), (0, .ref m0)]) hx hb dX2_search_8 rfl hl (by decide) rfl (fun ls hl => ?_)
  refine lv_iconst (v := nI 0) hx hb dX2_search_9 (by decide) ?_
  refine lv_istore_n (lv' := [(2, .int (nI 0)), (1, .int (nI (11 * ct))), (0, .ref m0)]) hx hb dX2_search_10 rfl hl (by decide) rfl (fun ls hl => ?_)
  obtain ⟨hf2, hf3⟩ := rwI_ze hf1
  have inner : ∀ (d2 i : Nat) (f : Nat → Int64) (H : Heap) (locs : List Loc) (ls : Array Slot), i + d2 = vn → rwI f (brM nm vn) ct → (∀ j, j < 11 → f (11 * ct + j) = srP wd i j) → va_P (dC, dI) vwCl (mdW m0 aN aR aX aO aP aH aL aW cI cJ vn ct nm tp bt an f nx (upd o1 ct (bitI ct)) no (ct + 1) nc hgh lws dh dl fT fB wd) H → va_K (dC, dI) vwCl [(cI, .int), (cJ, .long)] s → va_D A (mdW m0 aN aR aX aO aP aH aL aW cI cJ vn ct nm tp bt an f nx (upd o1 ct (bitI ct)) no (ct + 1) nc hgh lws dh dl fT fB wd) → va_S A s.heap H locs → lv_has ls 9 [(2, .int (nI i)), (1, .int (nI (11 * ct))), (0, .ref m0)] → W p l e (headSpec wsX2_search ({ frames := 5, cells := 0, slots := 0, locals := 152 })).room s m #[.ref m0] below meth c H locs 0 0 (MQ below (va_Qi (fun (x : Int32) (v : Nat × (Nat → Int64) × (Nat → Int32) × (Nat → Int64) × (Nat → Int32) × (Nat → Int64) × (Nat → Int64) × Int64 × Int64 × Nat × Int64 × Int64) => (x = 0 ∧ CerQ ct 9 (SM nm wd vn ct)) ∨ (x = 1 ∧ ¬ CerQ ct 9 (SM nm wd vn ct) ∧ ¬ ∃ w, DuF ct (SM nm wd vn ct) w) ∨ (x = 2 ∧ ¬ CerQ ct 9 (SM nm wd vn ct) ∧ ∃ val, Opt ct (SM nm wd vn ct) val ∧ (v.2.2.2.2.2.2.2.2.2.2.1.toInt : Rat) = val * (v.2.2.2.2.2.2.2.2.2.2.2.toInt : Rat) ∧ 0 < v.2.2.2.2.2.2.2.2.2.2.2.toInt ∧ Nat.gcd v.2.2.2.2.2.2.2.2.2.2.1.toInt.natAbs v.2.2.2.2.2.2.2.2.2.2.2.toInt.natAbs = 1 ∧ v.2.2.2.2.2.2.2.2.2.2.2.toInt < 2251799813685248)) (fun v t => va_P (dC, dI) vwCl (mdW m0 aN aR aX aO aP aH aL aW cI cJ vn ct nm tp bt an v.2.1 v.2.2.2.1 v.2.2.1 v.2.2.2.2.1 v.1 v.2.2.2.2.2.2.2.2.2.1 v.2.2.2.2.2.1 v.2.2.2.2.2.2.1 v.2.2.2.2.2.2.2.1 v.2.2.2.2.2.2.2.2.1 v.2.2.2.2.2.2.2.2.2.2.1 v.2.2.2.2.2.2.2.2.2.2.2 wd) t.heap ∧ va_K (dC, dI) vwCl [(cI, .int), (cJ, .long)] t ∧ va_D A (mdW m0 aN aR aX aO aP aH aL aW cI cJ vn ct nm tp bt an v.2.1 v.2.2.2.1 v.2.2.1 v.2.2.2.2.1 v.1 v.2.2.2.2.2.2.2.2.2.1 v.2.2.2.2.2.1 v.2.2.2.2.2.2.1 v.2.2.2.2.2.2.2.1 v.2.2.2.2.2.2.2.2.1 v.2.2.2.2.2.2.2.2.2.2.1 v.2.2.2.2.2.2.2.2.2.2.2 wd)) A) #[.ref m0] s 0 0 A) (F0 m 11 ls []) := by
    clear hP hD hS hl hf1 hf2 hf3 hK
    intro d2
    induction d2 with
    | zero =>
      intro i f H locs ls hi2 hf hfi hP hK hD hS hl
      refine lv_iload_n hx hb dX2_search_11 rfl (lv_at hl 0 rfl) ?_
      refine lv_aload_n hx hb dX2_search_12 rfl (lv_at hl 2 rfl) ?_
      refine va_get (D := (dC, dI)) (ci := 2) (v := .int (nI vn)) (C := RX2) (T := TX2) (N := 19) hx hb hts (fun _ h => List.mem_cons_of_mem _ (List.mem_append_right _ h)) hown hK hP 0 rfl rfl 0 (by decide) (hts (.fieldLink RX2 7 "RankFinderModel" "n" "I") (List.mem_of_getElem? (i := 1) rfl)) (fun _ h9 => h9) rfl dX2_search_13 ?_
      refine lv_icmp_ge (tgt := 59) hx hb dX2_search_16 (by decide) (fun c2 => ?_) (fun c2 => ?_)
      · obtain rfl : i = vn := by omega
        refine lv_aload_n hx hb dX2_search_59 rfl (lv_at hl 2 rfl) ?_
        refine va_get (D := (dC, dI)) (ci := 2) (v := .ref aR) (C := RX2) (T := TX2) (N := 19) hx hb hts (fun _ h => List.mem_cons_of_mem _ (List.mem_append_right _ h)) hown hK hP 0 rfl rfl 6 (by decide) (hts (.fieldLink RX2 17 "RankFinderModel" "rows" "[J") (List.mem_of_getElem? (i := 2) rfl)) (fun _ h9 => h9) rfl dX2_search_60 ?_
        refine lv_iload_n hx hb dX2_search_63 rfl (lv_at hl 1 rfl) ?_
        refine lv_bipush (v := nI 9) hx hb dX2_search_64 (by decide) ?_
        refine lv_iadd hx hb dX2_search_66 ?_
        refine lv_topi (fun z_1 ez_1 => ?_)
        obtain rfl : z_1 = nI ((11 * ct) + 9) := ez_1.trans (nI_add (11 * ct) 9)
        refine lv_ldc2 (v := (-1)) hx hb hown (hts (.constantLong RX2 118 (-1)) (List.mem_of_getElem? (i := 4) rfl)) dX2_search_67 ?_
        refine na_last hx hb hK hP hD hS 2 1 rfl rfl (show 11 * ct + 9 < 13200 by omega) (by decide) dX2_search_70 (fun H locs hP hD hS => ?_)
        have hP : va_P (dC, dI) vwCl (mdW m0 aN aR aX aO aP aH aL aW cI cJ i ct nm tp bt an (vp_updL f ((11 * ct) + 9) (-1)) nx (upd o1 ct (bitI ct)) no (ct + 1) nc hgh lws dh dl fT fB wd) H := hP
        have hD : va_D A (mdW m0 aN aR aX aO aP aH aL aW cI cJ i ct nm tp bt an (vp_updL f ((11 * ct) + 9) (-1)) nx (upd o1 ct (bitI ct)) no (ct + 1) nc hgh lws dh dl fT fB wd) := hD
        obtain ⟨f3, hf3⟩ : ∃ g, g = vp_updL f (11 * ct + 9) (-1) := ⟨_, rfl⟩
        rw [← hf3] at hP hD
        have hP : va_P (dC, dI) vwCl (mdW m0 aN aR aX aO aP aH aL aW cI cJ i ct nm tp bt an f3 nx (upd o1 ct (bitI ct)) no (ct + 1) nc hgh lws dh dl fT fB wd) H := hP
        have hD : va_D A (mdW m0 aN aR aX aO aP aH aL aW cI cJ i ct nm tp bt an f3 nx (upd o1 ct (bitI ct)) no (ct + 1) nc hgh lws dh dl fT fB wd) := hD
        have hi1 : RI (ct + 1) (SM nm wd i ct) 0 (ct + 1) f3 (upd o1 ct (bitI ct)) := RI_init (by omega) (fun a j ha hj => by
          rw [← smL_int]
          congr 1
          rw [hf3]
          unfold vp_updL smL
          by_cases e : a < ct
          · rw [if_neg (by omega), if_pos e]; exact hf a j e hj
          · obtain rfl : a = ct := by omega
            by_cases e9 : j = 9
            · subst e9; rw [if_pos rfl, if_neg e, if_neg (by omega), if_pos rfl]
            · rw [if_neg (by omega), if_neg e, hfi j hj, if_neg e9]; rfl) (fun a j _ _ => SM_b hN hG hv a j) (fun a ha => by
          unfold upd
          by_cases e : a = ct
          · subst e; rw [if_pos rfl]
          · rw [if_neg e]; exact ho1 a (by omega))
        clear hf3 hf hfi
        refine lv_aload_n hx hb dX2_search_71 rfl (lv_at hl 2 rfl) ?_
        have hFc : ∀ q, va_A (mdW m0 aN aR aX aO aP aH aL aW cI cJ i ct nm tp bt an f3 nx (upd o1 ct (bitI ct)) no (ct + 1) nc hgh lws dh dl fT fB wd) H.size q → A q := va_fall hD hS hA
        refine va_callv (va_runV (As := []) (rest := []) ⟨hx, hb, hml, hown, hts⟩ (c_X2_eliminateAll l dC dI H.size m0 aN aR aX aO aP aH aL aW cI cJ i ct nm tp bt an f3 nx (upd o1 ct (bitI ct)) no (ct + 1) nc hgh lws dh dl fT fB wd (ct + 1) (SM nm wd i ct) (okM_S hN hG hv) (by omega) hi1) (cwV 0 hts gX2_search_X2_eliminateAll rfl rfl rfl (by decide +kernel) ⟨Nat.le_of_ble_eq_true rfl, Nat.le_of_ble_eq_true rfl⟩) ⟨fun a U g mk q => by obtain ⟨q0, q1, qP, qK, qD⟩ := q; exact ⟨q0, q1, qP, va_K.moved (u := U) (U := U.calling g mk a) (Vm.Alike.refl U.vm) qK, qD⟩, va_recv hK hP (ci := 2) (q0 := 0) rfl rfl, fun U hU hW => ⟨rfl, by rw [hU], by rw [hU]; exact hP, va_K.moved hW.alike hK, hD.weaken (fun _ _ _ _ => trivial)⟩⟩ rfl rfl hl.1 rfl (lv_room (Nat.le_of_ble_eq_true rfl)) dX2_search_72 ⟨(Nat.zero_le _), (Nat.zero_le _)⟩) hS (fun q _ h => hFc q h) hFc (fun v9 t H1 locs ht hvm hw hB hz1 hk1 hS => ?_)
        obtain ⟨hP1, hK1, hD1⟩ := hB
        rw [ht] at hP1
        clear hP hD hK
        have hK := va_K.moved hvm.symm hK1
        have hP := hP1
        have hD := hD1.weaken (B := A) (fun _ q _ h => hFc q.1 h)
        clear hP1 hD1 hK1 hFc hk1 hz1 ht hvm
        generalize H1 = H at hP hS ⊢
        obtain ⟨r2, f2, o2, x2, p2, h2, l2, a2, b2, c2⟩ := v9
        have hP : va_P (dC, dI) vwCl (mdW m0 aN aR aX aO aP aH aL aW cI cJ i ct nm tp bt an f2 x2 o2 p2 r2 c2 h2 l2 a2 b2 fT fB wd) H := hP
        have hD : va_D A (mdW m0 aN aR aX aO aP aH aL aW cI cJ i ct nm tp bt an f2 x2 o2 p2 r2 c2 h2 l2 a2 b2 fT fB wd) := hD
        have hw : RI (ct + 1) (SM nm wd i ct) 9 r2 f2 o2 := hw
        have hri := hw
        have hrc9 : r2 ≤ 1200 := by obtain ⟨W2, q2, _⟩ := hw; exact q2.count (by omega)
        have hrb : ∀ r, r < r2 → rwB f2 r := fun r hr => by obtain ⟨W2, _, q2⟩ := hri; exact (q2 r hr).2.1
        have mz : ∀ k, k < ct → SM nm wd i ct k 9 = 0 := fun k hk => by unfold SM; rw [if_pos hk, mt_eq, if_neg (by omega), if_neg (by omega)]
        have m1 : SM nm wd i ct ct 9 = -1 := by unfold SM; rw [if_neg (by omega), if_neg (by omega), if_pos rfl]
        have m2 : SM nm wd i ct ct 10 = 0 := by unfold SM; rw [if_neg (by omega), if_neg (by omega), if_neg (by omega)]
        have hpi := poss_iff hw (fun k hk => by
          by_cases e : k < ct
          · rw [mz k e]; omega
          · rw [show k = ct by omega, m1]; omega)
        rw [Cer_last mz m1] at hpi
        clear hw
        refine lv_aload_n hx hb dX2_search_75 rfl (lv_at hl 2 rfl) ?_
        have hFc : ∀ q, va_A (mdW m0 aN aR aX aO aP aH aL aW cI cJ i ct nm tp bt an f2 x2 o2 p2 r2 c2 h2 l2 a2 b2 fT fB wd) H.size q → A q := va_fall hD hS hA
        refine va_calli (va_runV (As := []) (rest := []) ⟨hx, hb, hml, hown, hts⟩ (c_X2_isPossible l dC dI H.size m0 aN aR aX aO aP aH aL aW cI cJ i ct nm tp bt an f2 x2 o2 p2 r2 c2 h2 l2 a2 b2 fT fB wd hrc9) (cwV 0 hts gX2_search_X2_isPossible rfl rfl rfl (by decide +kernel) ⟨Nat.le_of_ble_eq_true rfl, Nat.le_of_ble_eq_true rfl⟩) ⟨fun a U g mk q => by obtain ⟨q0, q1, qP, qK, qD⟩ := q; exact ⟨q0, q1, qP, va_K.moved (u := U) (U := U.calling g mk a) (Vm.Alike.refl U.vm) qK, qD⟩, va_recv hK hP (ci := 2) (q0 := 0) rfl rfl, fun U hU hW => ⟨rfl, by rw [hU], by rw [hU]; exact hP, va_K.moved hW.alike hK, hD.weaken (fun _ _ _ _ => trivial)⟩⟩ rfl rfl hl.1 rfl (lv_room (Nat.le_of_ble_eq_true rfl)) dX2_search_76 ⟨(Nat.zero_le _), (Nat.zero_le _)⟩) hS (fun q _ h => hFc q h) hFc (fun r_76 v9 t H1 locs ht hvm hw hB hz1 hk1 hS => ?_)
        obtain ⟨hP1, hK1, hD1⟩ := hB
        rw [ht] at hP1
        clear hP hD hK
        have hK := va_K.moved hvm.symm hK1
        have hP := hP1
        have hD := hD1.weaken (B := A) (fun _ q _ h => hFc q.1 h)
        clear hP1 hD1 hK1 hFc hk1 hz1 ht hvm
        generalize H1 = H at hP hS ⊢
        rcases hw with ⟨rfl, hw⟩ | ⟨rfl, hw⟩
        · refine lv_if_ne (tgt := 84) hx hb dX2_search_79 (by decide) (fun _ => ?_) (fun c => absurd c (by decide))
          refine lv_iconst (v := (-1)) hx hb dX2_search_84 (by decide) ?_
          refine lv_istore_n (lv' := [(2, .int (-1)), (1, .int (nI (11 * ct))), (0, .ref m0)]) hx hb dX2_search_85 rfl hl (by decide) rfl (fun ls hl => ?_)
          refine lv_iconst (v := nI 0) hx hb dX2_search_86 (by decide) ?_
          refine lv_istore_n (lv' := [(3, .int (nI 0)), (2, .int (-1)), (1, .int (nI (11 * ct))), (0, .ref m0)]) hx hb dX2_search_87 rfl hl (by decide) rfl (fun ls hl => ?_)
          have hnc : ¬ CerQ ct 9 (SM nm wd i ct) := fun q => (hpi.mpr q) hw
          have loop : ∀ (d k : Nat) (b9 : Int32) (hh ll : Nat → Int64) (H : Heap) (locs : List Loc) (ls : Array Slot), k + d = r2 → bst f2 k b9 → va_P (dC, dI) vwCl (mdW m0 aN aR aX aO aP aH aL aW cI cJ i ct nm tp bt an f2 x2 o2 p2 r2 c2 hh ll a2 b2 fT fB wd) H → va_K (dC, dI) vwCl [(cI, .int), (cJ, .long)] s → va_D A (mdW m0 aN aR aX aO aP aH aL aW cI cJ i ct nm tp bt an f2 x2 o2 p2 r2 c2 hh ll a2 b2 fT fB wd) → va_S A s.heap H locs → lv_has ls 9 [(3, .int (nI k)), (2, .int b9), (0, .ref m0)] → W p l e (headSpec wsX2_search ({ frames := 5, cells := 0, slots := 0, locals := 152 })).room s m #[.ref m0] below meth c H locs 0 0 (MQ below (va_Qi (fun (x : Int32) (v : Nat × (Nat → Int64) × (Nat → Int32) × (Nat → Int64) × (Nat → Int32) × (Nat → Int64) × (Nat → Int64) × Int64 × Int64 × Nat × Int64 × Int64) => (x = 0 ∧ CerQ ct 9 (SM nm wd i ct)) ∨ (x = 1 ∧ ¬ CerQ ct 9 (SM nm wd i ct) ∧ ¬ ∃ w, DuF ct (SM nm wd i ct) w) ∨ (x = 2 ∧ ¬ CerQ ct 9 (SM nm wd i ct) ∧ ∃ val, Opt ct (SM nm wd i ct) val ∧ (v.2.2.2.2.2.2.2.2.2.2.1.toInt : Rat) = val * (v.2.2.2.2.2.2.2.2.2.2.2.toInt : Rat) ∧ 0 < v.2.2.2.2.2.2.2.2.2.2.2.toInt ∧ Nat.gcd v.2.2.2.2.2.2.2.2.2.2.1.toInt.natAbs v.2.2.2.2.2.2.2.2.2.2.2.toInt.natAbs = 1 ∧ v.2.2.2.2.2.2.2.2.2.2.2.toInt < 2251799813685248)) (fun v t => va_P (dC, dI) vwCl (mdW m0 aN aR aX aO aP aH aL aW cI cJ i ct nm tp bt an v.2.1 v.2.2.2.1 v.2.2.1 v.2.2.2.2.1 v.1 v.2.2.2.2.2.2.2.2.2.1 v.2.2.2.2.2.1 v.2.2.2.2.2.2.1 v.2.2.2.2.2.2.2.1 v.2.2.2.2.2.2.2.2.1 v.2.2.2.2.2.2.2.2.2.2.1 v.2.2.2.2.2.2.2.2.2.2.2 wd) t.heap ∧ va_K (dC, dI) vwCl [(cI, .int), (cJ, .long)] t ∧ va_D A (mdW m0 aN aR aX aO aP aH aL aW cI cJ i ct nm tp bt an v.2.1 v.2.2.2.1 v.2.2.1 v.2.2.2.2.1 v.1 v.2.2.2.2.2.2.2.2.2.1 v.2.2.2.2.2.1 v.2.2.2.2.2.2.1 v.2.2.2.2.2.2.2.1 v.2.2.2.2.2.2.2.2.1 v.2.2.2.2.2.2.2.2.2.2.1 v.2.2.2.2.2.2.2.2.2.2.2 wd)) A) #[.ref m0] s 0 0 A) (F0 m 88 ls []) := by
            clear hP hK hD hS hl
            intro d
            induction d with
            | zero =>
              intro k b9 hh ll H locs ls hk hbs hP hK hD hS hl
              refine lv_iload_n hx hb dX2_search_88 rfl (lv_at hl 0 rfl) ?_
              refine lv_aload_n hx hb dX2_search_89 rfl (lv_at hl 2 rfl) ?_
              refine va_get (D := (dC, dI)) (ci := 2) (v := .int (nI r2)) (C := RX2) (T := TX2) (N := 19) hx hb hts (fun _ h => List.mem_cons_of_mem _ (List.mem_append_right _ h)) hown hK hP 0 rfl rfl 10 (by decide) (hts (.fieldLink RX2 46 "RankFinderModel" "rowCount" "I") (List.mem_of_getElem? (i := 5) rfl)) (fun _ h9 => h9) rfl dX2_search_90 ?_
              refine lv_icmp_ge (tgt := 134) hx hb dX2_search_93 (by decide) (fun c1 => ?_) (fun c1 => ?_)
              · obtain rfl : k = r2 := by omega
                rcases hbs with ⟨rfl, hbs⟩ | ⟨b, hb1, rfl, hb3, hb4⟩
                · refine lv_iload_n hx hb dX2_search_134 rfl (lv_at hl 1 rfl) ?_
                  refine lv_if_ge (tgt := 140) hx hb dX2_search_135 (by decide) (fun c4 => ?_) (fun c4 => ?_)
                  · exact absurd c4 (by decide)
                  · refine lv_iconst (v := nI 1) hx hb dX2_search_138 (by decide) ?_
                    exact W.iret (v := (nI 1)) hx hb hr (fun t ht hW => ⟨⟨(nI 1), (k, f2, o2, x2, p2, hh, ll, a2, b2, c2, fT, fB), rfl, Or.inr (Or.inl ⟨rfl, hnc, no_best hri mz m1 m2 hbs⟩), by rw [ht]; exact hP, va_K.moved hW.alike hK, hD⟩, hS.F ht⟩) hS.2.2 dX2_search_139
                · refine lv_iload_n hx hb dX2_search_134 rfl (lv_at hl 1 rfl) ?_
                  refine lv_if_ge (tgt := 140) hx hb dX2_search_135 (by decide) (fun c4 => ?_) (fun c4 => ?_)
                  · have hopt := best_opt hri mz m1 m2 hw hb1 hb3 hb4
                    obtain ⟨bR1, bR2⟩ := hrb b hb1 10 (by omega)
                    obtain ⟨bS1, bS2⟩ := hrb b hb1 9 (by omega)
                    have nR : (-(f2 (11 * b + 10))).toInt = -(f2 (11 * b + 10)).toInt := neg_int (by omega)
                    have nS : (-(f2 (11 * b + 9))).toInt = -(f2 (11 * b + 9)).toInt := neg_int (by omega)
                    have euc : ∀ (d y z : Nat) (H : Heap) (locs : List Loc) (ls : Array Slot), y ≤ d → y < 2 ^ 63 → z < 2 ^ 63 → 0 < z → Nat.gcd y z = Nat.gcd (-(f2 (11 * b + 10))).toInt.natAbs (-(f2 (11 * b + 9))).toInt.natAbs → va_P (dC, dI) vwCl (mdW m0 aN aR aX aO aP aH aL aW cI cJ i ct nm tp bt an f2 x2 o2 p2 k c2 hh ll a2 b2 fT fB wd) H → va_K (dC, dI) vwCl [(cI, .int), (cJ, .long)] s → va_D A (mdW m0 aN aR aX aO aP aH aL aW cI cJ i ct nm tp bt an f2 x2 o2 p2 k c2 hh ll a2 b2 fT fB wd) → va_S A s.heap H locs → lv_has ls 9 [(5, .long (lN z)), (3, .long (lN y)), (2, .int (nI b)), (0, .ref m0)] → W p l e (headSpec wsX2_search ({ frames := 5, cells := 0, slots := 0, locals := 152 })).room s m #[.ref m0] below meth c H locs 0 0 (MQ below (va_Qi (fun (x : Int32) (v : Nat × (Nat → Int64) × (Nat → Int32) × (Nat → Int64) × (Nat → Int32) × (Nat → Int64) × (Nat → Int64) × Int64 × Int64 × Nat × Int64 × Int64) => (x = 0 ∧ CerQ ct 9 (SM nm wd i ct)) ∨ (x = 1 ∧ ¬ CerQ ct 9 (SM nm wd i ct) ∧ ¬ ∃ w, DuF ct (SM nm wd i ct) w) ∨ (x = 2 ∧ ¬ CerQ ct 9 (SM nm wd i ct) ∧ ∃ val, Opt ct (SM nm wd i ct) val ∧ (v.2.2.2.2.2.2.2.2.2.2.1.toInt : Rat) = val * (v.2.2.2.2.2.2.2.2.2.2.2.toInt : Rat) ∧ 0 < v.2.2.2.2.2.2.2.2.2.2.2.toInt ∧ Nat.gcd v.2.2.2.2.2.2.2.2.2.2.1.toInt.natAbs v.2.2.2.2.2.2.2.2.2.2.2.toInt.natAbs = 1 ∧ v.2.2.2.2.2.2.2.2.2.2.2.toInt < 2251799813685248)) (fun v t => va_P (dC, dI) vwCl (mdW m0 aN aR aX aO aP aH aL aW cI cJ i ct nm tp bt an v.2.1 v.2.2.2.1 v.2.2.1 v.2.2.2.2.1 v.1 v.2.2.2.2.2.2.2.2.2.1 v.2.2.2.2.2.1 v.2.2.2.2.2.2.1 v.2.2.2.2.2.2.2.1 v.2.2.2.2.2.2.2.2.1 v.2.2.2.2.2.2.2.2.2.2.1 v.2.2.2.2.2.2.2.2.2.2.2 wd) t.heap ∧ va_K (dC, dI) vwCl [(cI, .int), (cJ, .long)] t ∧ va_D A (mdW m0 aN aR aX aO aP aH aL aW cI cJ i ct nm tp bt an v.2.1 v.2.2.2.1 v.2.2.1 v.2.2.2.2.1 v.1 v.2.2.2.2.2.2.2.2.2.1 v.2.2.2.2.2.1 v.2.2.2.2.2.2.1 v.2.2.2.2.2.2.2.1 v.2.2.2.2.2.2.2.2.1 v.2.2.2.2.2.2.2.2.2.2.1 v.2.2.2.2.2.2.2.2.2.2.2 wd)) A) #[.ref m0] s 0 0 A) (F0 m 201 ls []) := by
                      clear hP hK hD hS hl
                      intro d
                      induction d with
                      | zero =>
                        intro y z H locs ls hyd hy hz hz0 hg hP hK hD hS hl
                        obtain rfl : y = 0 := by omega
                        refine lv_lload_n hx hb dX2_search_201 rfl (lv_at hl 1 rfl) ?_
                        refine lv_lconst (v := 0) hx hb dX2_search_202 (by decide) ?_
                        refine W.lcmp hx hb dX2_search_203 ?_
                        refine lv_if_le (tgt := 222) hx hb dX2_search_204 (by decide) (fun c5 => ?_) (fun c5 => ?_)
                        · obtain ⟨g0, g1, g2, g3, g4⟩ := red_ok (T := -(f2 (11 * b + 10))) (u := -(f2 (11 * b + 9))) (val := (((f2 (11 * b + 10)).toInt : Int) : Rat) * (((f2 (11 * b + 9)).toInt : Int) : Rat)⁻¹) (by
                            have hs0 : (((f2 (11 * b + 9)).toInt : Int) : Rat) ≠ 0 := fun e => by rw [rz_0] at e; omega
                            have hsi := Rat.mul_inv_cancel _ hs0
                            rw [nR, nS, Rat.intCast_neg, Rat.intCast_neg]
                            generalize (((f2 (11 * b + 9)).toInt : Int) : Rat) = s9 at hsi ⊢
                            generalize (((f2 (11 * b + 10)).toInt : Int) : Rat) = r9
                            have : -s9 * (r9 * s9⁻¹) = -(r9 * (s9 * s9⁻¹)) := by grind
                            rw [this, hsi]; grind) (by omega) (by omega) (show z = _ by rw [← hg, Nat.gcd_zero_left])
                          refine lv_aload_n hx hb dX2_search_222 rfl (lv_at hl 3 rfl) ?_
                          refine lv_aload_n hx hb dX2_search_223 rfl (lv_at hl 3 rfl) ?_
                          refine va_get (D := (dC, dI)) (ci := 2) (v := .ref aR) (C := RX2) (T := TX2) (N := 19) hx hb hts (fun _ h => List.mem_cons_of_mem _ (List.mem_append_right _ h)) hown hK hP 0 rfl rfl 6 (by decide) (hts (.fieldLink RX2 17 "RankFinderModel" "rows" "[J") (List.mem_of_getElem? (i := 2) rfl)) (fun _ h9 => h9) rfl dX2_search_224 ?_
                          refine lv_bipush (v := nI 11) hx hb dX2_search_227 (by decide) ?_
                          refine lv_iload_n hx hb dX2_search_229 rfl (lv_at hl 2 rfl) ?_
                          refine lv_imul hx hb dX2_search_230 ?_
                          refine lv_topi (fun z_1 ez_1 => ?_)
                          obtain rfl : z_1 = nI (11 * b) := ez_1.trans (pk_mul 11 b)
                          refine lv_bipush (v := nI 10) hx hb dX2_search_231 (by decide) ?_
                          refine lv_iadd hx hb dX2_search_233 ?_
                          refine lv_topi (fun z_2 ez_2 => ?_)
                          obtain rfl : z_2 = nI ((11 * b) + 10) := ez_2.trans (nI_add (11 * b) 10)
                          refine na_lald hx hb hK hP 2 1 rfl rfl (show 11 * b + 10 < 13200 by omega) (by decide) dX2_search_234 ?_
                          refine lv_lneg hx hb dX2_search_235 ?_
                          refine lv_lload hx hb dX2_search_236 (lv_at hl 0 rfl) ?_
                          refine lv_ldiv hx hb dX2_search_238 (fun q => by have := (pk_lEQ (b := 0) hz (by omega)).mp q; omega) ?_
                          refine va_put (D := (dC, dI)) (ci := 2) (v := .long (-(f2 (11 * b + 10)) / lN z)) (ty := .long) (C := RX2) (T := TX2) (N := 19) hx hb hts (fun _ h => List.mem_cons_of_mem _ (List.mem_append_right _ h)) tyX2 tyX2_ok nmX2 hown hK hP hD hS 0 rfl rfl 16 (by decide) (hts (.fieldLink RX2 123 "RankFinderModel" "foundTop" "J") (List.mem_of_getElem? (i := 6) rfl)) (fun _ h9 => h9) rfl (by decide +kernel) rfl rfl (Nat.le_of_ble_eq_true rfl) dX2_search_239 (fun H locs hP hD hS => ?_)
                          have hP : va_P (dC, dI) vwCl (mdW m0 aN aR aX aO aP aH aL aW cI cJ i ct nm tp bt an f2 x2 o2 p2 k c2 hh ll a2 b2 (-(f2 (11 * b + 10)) / lN z) fB wd) H := hP
                          have hD : va_D A (mdW m0 aN aR aX aO aP aH aL aW cI cJ i ct nm tp bt an f2 x2 o2 p2 k c2 hh ll a2 b2 (-(f2 (11 * b + 10)) / lN z) fB wd) := hD
                          refine lv_aload_n hx hb dX2_search_242 rfl (lv_at hl 3 rfl) ?_
                          refine lv_aload_n hx hb dX2_search_243 rfl (lv_at hl 3 rfl) ?_
                          refine va_get (D := (dC, dI)) (ci := 2) (v := .ref aR) (C := RX2) (T := TX2) (N := 19) hx hb hts (fun _ h => List.mem_cons_of_mem _ (List.mem_append_right _ h)) hown hK hP 0 rfl rfl 6 (by decide) (hts (.fieldLink RX2 17 "RankFinderModel" "rows" "[J") (List.mem_of_getElem? (i := 2) rfl)) (fun _ h9 => h9) rfl dX2_search_244 ?_
                          refine lv_bipush (v := nI 11) hx hb dX2_search_247 (by decide) ?_
                          refine lv_iload_n hx hb dX2_search_249 rfl (lv_at hl 2 rfl) ?_
                          refine lv_imul hx hb dX2_search_250 ?_
                          refine lv_topi (fun z_3 ez_3 => ?_)
                          obtain rfl : z_3 = nI (11 * b) := ez_3.trans (pk_mul 11 b)
                          refine lv_bipush (v := nI 9) hx hb dX2_search_251 (by decide) ?_
                          refine lv_iadd hx hb dX2_search_253 ?_
                          refine lv_topi (fun z_4 ez_4 => ?_)
                          obtain rfl : z_4 = nI ((11 * b) + 9) := ez_4.trans (nI_add (11 * b) 9)
                          refine na_lald hx hb hK hP 2 1 rfl rfl (show 11 * b + 9 < 13200 by omega) (by decide) dX2_search_254 ?_
                          refine lv_lneg hx hb dX2_search_255 ?_
                          refine lv_lload hx hb dX2_search_256 (lv_at hl 0 rfl) ?_
                          refine lv_ldiv hx hb dX2_search_258 (fun q => by have := (pk_lEQ (b := 0) hz (by omega)).mp q; omega) ?_
                          refine va_put (D := (dC, dI)) (ci := 2) (v := .long (-(f2 (11 * b + 9)) / lN z)) (ty := .long) (C := RX2) (T := TX2) (N := 19) hx hb hts (fun _ h => List.mem_cons_of_mem _ (List.mem_append_right _ h)) tyX2 tyX2_ok nmX2 hown hK hP hD hS 0 rfl rfl 17 (by decide) (hts (.fieldLink RX2 126 "RankFinderModel" "foundBottom" "J") (List.mem_of_getElem? (i := 7) rfl)) (fun _ h9 => h9) rfl (by decide +kernel) rfl rfl (Nat.le_of_ble_eq_true rfl) dX2_search_259 (fun H locs hP hD hS => ?_)
                          have hP : va_P (dC, dI) vwCl (mdW m0 aN aR aX aO aP aH aL aW cI cJ i ct nm tp bt an f2 x2 o2 p2 k c2 hh ll a2 b2 (-(f2 (11 * b + 10)) / lN z) (-(f2 (11 * b + 9)) / lN z) wd) H := hP
                          have hD : va_D A (mdW m0 aN aR aX aO aP aH aL aW cI cJ i ct nm tp bt an f2 x2 o2 p2 k c2 hh ll a2 b2 (-(f2 (11 * b + 10)) / lN z) (-(f2 (11 * b + 9)) / lN z) wd) := hD
                          refine lv_iconst (v := nI 2) hx hb dX2_search_262 (by decide) ?_
                          exact W.iret (v := (nI 2)) hx hb hr (fun t ht hW => ⟨⟨(nI 2), (k, f2, o2, x2, p2, hh, ll, a2, b2, c2, -(f2 (11 * b + 10)) / lN z, -(f2 (11 * b + 9)) / lN z), rfl, Or.inr (Or.inr ⟨rfl, hnc, _, hopt, g2, g3, g4, fb_small hN hG hv hri hb1 hb3 g2 g3 g4⟩), by rw [ht]; exact hP, va_K.moved hW.alike hK, hD⟩, hS.F ht⟩) hS.2.2 dX2_search_263
                        · rw [lg_cmp_le] at c5
                          exact absurd (by decide) c5
                      | succ d ih =>
                        intro y z H locs ls hyd hy hz hz0 hg hP hK hD hS hl
                        refine lv_lload_n hx hb dX2_search_201 rfl (lv_at hl 1 rfl) ?_
                        refine lv_lconst (v := 0) hx hb dX2_search_202 (by decide) ?_
                        refine W.lcmp hx hb dX2_search_203 ?_
                        refine lv_if_le (tgt := 222) hx hb dX2_search_204 (by decide) (fun c5 => ?_) (fun c5 => ?_)
                        · rw [lg_cmp_le] at c5
                          obtain rfl : y = 0 := by
                            rw [Int64.le_iff_toInt_le, pk_lT hy, show (0 : Int64).toInt = 0 from rfl] at c5
                            omega
                          obtain ⟨g0, g1, g2, g3, g4⟩ := red_ok (T := -(f2 (11 * b + 10))) (u := -(f2 (11 * b + 9))) (val := (((f2 (11 * b + 10)).toInt : Int) : Rat) * (((f2 (11 * b + 9)).toInt : Int) : Rat)⁻¹) (by
                            have hs0 : (((f2 (11 * b + 9)).toInt : Int) : Rat) ≠ 0 := fun e => by rw [rz_0] at e; omega
                            have hsi := Rat.mul_inv_cancel _ hs0
                            rw [nR, nS, Rat.intCast_neg, Rat.intCast_neg]
                            generalize (((f2 (11 * b + 9)).toInt : Int) : Rat) = s9 at hsi ⊢
                            generalize (((f2 (11 * b + 10)).toInt : Int) : Rat) = r9
                            have : -s9 * (r9 * s9⁻¹) = -(r9 * (s9 * s9⁻¹)) := by grind
                            rw [this, hsi]; grind) (by omega) (by omega) (show z = _ by rw [← hg, Nat.gcd_zero_left])
                          refine lv_aload_n hx hb dX2_search_222 rfl (lv_at hl 3 rfl) ?_
                          refine lv_aload_n hx hb dX2_search_223 rfl (lv_at hl 3 rfl) ?_
                          refine va_get (D := (dC, dI)) (ci := 2) (v := .ref aR) (C := RX2) (T := TX2) (N := 19) hx hb hts (fun _ h => List.mem_cons_of_mem _ (List.mem_append_right _ h)) hown hK hP 0 rfl rfl 6 (by decide) (hts (.fieldLink RX2 17 "RankFinderModel" "rows" "[J") (List.mem_of_getElem? (i := 2) rfl)) (fun _ h9 => h9) rfl dX2_search_224 ?_
                          refine lv_bipush (v := nI 11) hx hb dX2_search_227 (by decide) ?_
                          refine lv_iload_n hx hb dX2_search_229 rfl (lv_at hl 2 rfl) ?_
                          refine lv_imul hx hb dX2_search_230 ?_
                          refine lv_topi (fun z_1 ez_1 => ?_)
                          obtain rfl : z_1 = nI (11 * b) := ez_1.trans (pk_mul 11 b)
                          refine lv_bipush (v := nI 10) hx hb dX2_search_231 (by decide) ?_
                          refine lv_iadd hx hb dX2_search_233 ?_
                          refine lv_topi (fun z_2 ez_2 => ?_)
                          obtain rfl : z_2 = nI ((11 * b) + 10) := ez_2.trans (nI_add (11 * b) 10)
                          refine na_lald hx hb hK hP 2 1 rfl rfl (show 11 * b + 10 < 13200 by omega) (by decide) dX2_search_234 ?_
                          refine lv_lneg hx hb dX2_search_235 ?_
                          refine lv_lload hx hb dX2_search_236 (lv_at hl 0 rfl) ?_
                          refine lv_ldiv hx hb dX2_search_238 (fun q => by have := (pk_lEQ (b := 0) hz (by omega)).mp q; omega) ?_
                          refine va_put (D := (dC, dI)) (ci := 2) (v := .long (-(f2 (11 * b + 10)) / lN z)) (ty := .long) (C := RX2) (T := TX2) (N := 19) hx hb hts (fun _ h => List.mem_cons_of_mem _ (List.mem_append_right _ h)) tyX2 tyX2_ok nmX2 hown hK hP hD hS 0 rfl rfl 16 (by decide) (hts (.fieldLink RX2 123 "RankFinderModel" "foundTop" "J") (List.mem_of_getElem? (i := 6) rfl)) (fun _ h9 => h9) rfl (by decide +kernel) rfl rfl (Nat.le_of_ble_eq_true rfl) dX2_search_239 (fun H locs hP hD hS => ?_)
                          have hP : va_P (dC, dI) vwCl (mdW m0 aN aR aX aO aP aH aL aW cI cJ i ct nm tp bt an f2 x2 o2 p2 k c2 hh ll a2 b2 (-(f2 (11 * b + 10)) / lN z) fB wd) H := hP
                          have hD : va_D A (mdW m0 aN aR aX aO aP aH aL aW cI cJ i ct nm tp bt an f2 x2 o2 p2 k c2 hh ll a2 b2 (-(f2 (11 * b + 10)) / lN z) fB wd) := hD
                          refine lv_aload_n hx hb dX2_search_242 rfl (lv_at hl 3 rfl) ?_
                          refine lv_aload_n hx hb dX2_search_243 rfl (lv_at hl 3 rfl) ?_
                          refine va_get (D := (dC, dI)) (ci := 2) (v := .ref aR) (C := RX2) (T := TX2) (N := 19) hx hb hts (fun _ h => List.mem_cons_of_mem _ (List.mem_append_right _ h)) hown hK hP 0 rfl rfl 6 (by decide) (hts (.fieldLink RX2 17 "RankFinderModel" "rows" "[J") (List.mem_of_getElem? (i := 2) rfl)) (fun _ h9 => h9) rfl dX2_search_244 ?_
                          refine lv_bipush (v := nI 11) hx hb dX2_search_247 (by decide) ?_
                          refine lv_iload_n hx hb dX2_search_249 rfl (lv_at hl 2 rfl) ?_
                          refine lv_imul hx hb dX2_search_250 ?_
                          refine lv_topi (fun z_3 ez_3 => ?_)
                          obtain rfl : z_3 = nI (11 * b) := ez_3.trans (pk_mul 11 b)
                          refine lv_bipush (v := nI 9) hx hb dX2_search_251 (by decide) ?_
                          refine lv_iadd hx hb dX2_search_253 ?_
                          refine lv_topi (fun z_4 ez_4 => ?_)
                          obtain rfl : z_4 = nI ((11 * b) + 9) := ez_4.trans (nI_add (11 * b) 9)
                          refine na_lald hx hb hK hP 2 1 rfl rfl (show 11 * b + 9 < 13200 by omega) (by decide) dX2_search_254 ?_
                          refine lv_lneg hx hb dX2_search_255 ?_
                          refine lv_lload hx hb dX2_search_256 (lv_at hl 0 rfl) ?_
                          refine lv_ldiv hx hb dX2_search_258 (fun q => by have := (pk_lEQ (b := 0) hz (by omega)).mp q; omega) ?_
                          refine va_put (D := (dC, dI)) (ci := 2) (v := .long (-(f2 (11 * b + 9)) / lN z)) (ty := .long) (C := RX2) (T := TX2) (N := 19) hx hb hts (fun _ h => List.mem_cons_of_mem _ (List.mem_append_right _ h)) tyX2 tyX2_ok nmX2 hown hK hP hD hS 0 rfl rfl 17 (by decide) (hts (.fieldLink RX2 126 "RankFinderModel" "foundBottom" "J") (List.mem_of_getElem? (i := 7) rfl)) (fun _ h9 => h9) rfl (by decide +kernel) rfl rfl (Nat.le_of_ble_eq_true rfl) dX2_search_259 (fun H locs hP hD hS => ?_)
                          have hP : va_P (dC, dI) vwCl (mdW m0 aN aR aX aO aP aH aL aW cI cJ i ct nm tp bt an f2 x2 o2 p2 k c2 hh ll a2 b2 (-(f2 (11 * b + 10)) / lN z) (-(f2 (11 * b + 9)) / lN z) wd) H := hP
                          have hD : va_D A (mdW m0 aN aR aX aO aP aH aL aW cI cJ i ct nm tp bt an f2 x2 o2 p2 k c2 hh ll a2 b2 (-(f2 (11 * b + 10)) / lN z) (-(f2 (11 * b + 9)) / lN z) wd) := hD
                          refine lv_iconst (v := nI 2) hx hb dX2_search_262 (by decide) ?_
                          exact W.iret (v := (nI 2)) hx hb hr (fun t ht hW => ⟨⟨(nI 2), (k, f2, o2, x2, p2, hh, ll, a2, b2, c2, -(f2 (11 * b + 10)) / lN z, -(f2 (11 * b + 9)) / lN z), rfl, Or.inr (Or.inr ⟨rfl, hnc, _, hopt, g2, g3, g4, fb_small hN hG hv hri hb1 hb3 g2 g3 g4⟩), by rw [ht]; exact hP, va_K.moved hW.alike hK, hD⟩, hS.F ht⟩) hS.2.2 dX2_search_263
                        · rw [lg_cmp_le] at c5
                          have hy0 : 0 < y := by
                            apply Classical.byContradiction
                            intro q
                            obtain rfl : y = 0 := by omega
                            exact c5 (by decide)
                          refine lv_lload hx hb dX2_search_207 (lv_at hl 0 rfl) ?_
                          refine lv_lload_n hx hb dX2_search_209 rfl (lv_at hl 1 rfl) ?_
                          refine lv_lrem hx hb dX2_search_210 (fun q => by have := (pk_lEQ (b := 0) hy (by omega)).mp q; omega) ?_
                          refine lv_topl (fun z_5 ez_5 => ?_)
                          obtain rfl : z_5 = lN (z % y) := ez_5.trans (pk_lRem hz hy0 hy)
                          refine lv_lstore (lv' := [(7, .long (lN (z % y))), (5, .long (lN z)), (3, .long (lN y)), (2, .int (nI b)), (0, .ref m0)]) hx hb dX2_search_211 hl (by decide) rfl (fun ls hl => ?_)
                          refine lv_lload_n hx hb dX2_search_213 rfl (lv_at hl 2 rfl) ?_
                          refine lv_lstore (lv' := [(5, .long (lN y)), (7, .long (lN (z % y))), (3, .long (lN y)), (2, .int (nI b)), (0, .ref m0)]) hx hb dX2_search_214 hl (by decide) rfl (fun ls hl => ?_)
                          refine lv_lload hx hb dX2_search_216 (lv_at hl 1 rfl) ?_
                          refine lv_lstore_n (lv' := [(3, .long (lN (z % y))), (5, .long (lN y)), (7, .long (lN (z % y))), (2, .int (nI b)), (0, .ref m0)]) hx hb dX2_search_218 rfl hl (by decide) rfl (fun ls hl => ?_)
                          refine lv_goto (tgt := 201) hx hb dX2_search_219 (by decide) ?_
                          have hlt : z % y < y := Nat.mod_lt _ hy0
                          exact ih (z % y) y H _ ls (by omega) (by omega) hy hy0 (by rw [← Nat.gcd_rec]; exact hg) hP hK hD hS (lv_sub hl [1, 0, 3, 4] rfl)
                    refine lv_aload_n hx hb dX2_search_140 rfl (lv_at hl 2 rfl) ?_
                    refine va_get (D := (dC, dI)) (ci := 2) (v := .ref aR) (C := RX2) (T := TX2) (N := 19) hx hb hts (fun _ h => List.mem_cons_of_mem _ (List.mem_append_right _ h)) hown hK hP 0 rfl rfl 6 (by decide) (hts (.fieldLink RX2 17 "RankFinderModel" "rows" "[J") (List.mem_of_getElem? (i := 2) rfl)) (fun _ h9 => h9) rfl dX2_search_141 ?_
                    refine lv_bipush (v := nI 11) hx hb dX2_search_144 (by decide) ?_
                    refine lv_iload_n hx hb dX2_search_146 rfl (lv_at hl 1 rfl) ?_
                    refine lv_imul hx hb dX2_search_147 ?_
                    refine lv_topi (fun z_1 ez_1 => ?_)
                    obtain rfl : z_1 = nI (11 * b) := ez_1.trans (pk_mul 11 b)
                    refine lv_bipush (v := nI 10) hx hb dX2_search_148 (by decide) ?_
                    refine lv_iadd hx hb dX2_search_150 ?_
                    refine lv_topi (fun z_2 ez_2 => ?_)
                    obtain rfl : z_2 = nI ((11 * b) + 10) := ez_2.trans (nI_add (11 * b) 10)
                    refine na_lald hx hb hK hP 2 1 rfl rfl (show 11 * b + 10 < 13200 by omega) (by decide) dX2_search_151 ?_
                    refine lv_lconst (v := 0) hx hb dX2_search_152 (by decide) ?_
                    refine W.lcmp hx hb dX2_search_153 ?_
                    refine lv_if_ge (tgt := 173) hx hb dX2_search_154 (by decide) (fun c6 => ?_) (fun c6 => ?_)
                    · rw [lg_cmp_ge, Int64.le_iff_toInt_le, show (0 : Int64).toInt = 0 from rfl] at c6
                      refine lv_aload_n hx hb dX2_search_173 rfl (lv_at hl 2 rfl) ?_
                      refine va_get (D := (dC, dI)) (ci := 2) (v := .ref aR) (C := RX2) (T := TX2) (N := 19) hx hb hts (fun _ h => List.mem_cons_of_mem _ (List.mem_append_right _ h)) hown hK hP 0 rfl rfl 6 (by decide) (hts (.fieldLink RX2 17 "RankFinderModel" "rows" "[J") (List.mem_of_getElem? (i := 2) rfl)) (fun _ h9 => h9) rfl dX2_search_174 ?_
                      refine lv_bipush (v := nI 11) hx hb dX2_search_177 (by decide) ?_
                      refine lv_iload_n hx hb dX2_search_179 rfl (lv_at hl 1 rfl) ?_
                      refine lv_imul hx hb dX2_search_180 ?_
                      refine lv_topi (fun z_3 ez_3 => ?_)
                      obtain rfl : z_3 = nI (11 * b) := ez_3.trans (pk_mul 11 b)
                      refine lv_bipush (v := nI 10) hx hb dX2_search_181 (by decide) ?_
                      refine lv_iadd hx hb dX2_search_183 ?_
                      refine lv_topi (fun z_4 ez_4 => ?_)
                      obtain rfl : z_4 = nI ((11 * b) + 10) := ez_4.trans (nI_add (11 * b) 10)
                      refine na_lald hx hb hK hP 2 1 rfl rfl (show 11 * b + 10 < 13200 by omega) (by decide) dX2_search_184 ?_
                      refine lv_topl (fun z_5 ez_5 => ?_)
                      obtain rfl : z_5 = lN (-(f2 (11 * b + 10))).toInt.natAbs := ez_5.trans (by rw [nR, Int.natAbs_neg]; exact lN_of c6)
                      refine lv_lstore_n (lv' := [(3, .long (lN (-(f2 (11 * b + 10))).toInt.natAbs)), (2, .int (nI b)), (0, .ref m0)]) hx hb dX2_search_185 rfl hl (by decide) rfl (fun ls hl => ?_)
                      refine lv_aload_n hx hb dX2_search_186 rfl (lv_at hl 2 rfl) ?_
                      refine va_get (D := (dC, dI)) (ci := 2) (v := .ref aR) (C := RX2) (T := TX2) (N := 19) hx hb hts (fun _ h => List.mem_cons_of_mem _ (List.mem_append_right _ h)) hown hK hP 0 rfl rfl 6 (by decide) (hts (.fieldLink RX2 17 "RankFinderModel" "rows" "[J") (List.mem_of_getElem? (i := 2) rfl)) (fun _ h9 => h9) rfl dX2_search_187 ?_
                      refine lv_bipush (v := nI 11) hx hb dX2_search_190 (by decide) ?_
                      refine lv_iload_n hx hb dX2_search_192 rfl (lv_at hl 1 rfl) ?_
                      refine lv_imul hx hb dX2_search_193 ?_
                      refine lv_topi (fun z_6 ez_6 => ?_)
                      obtain rfl : z_6 = nI (11 * b) := ez_6.trans (pk_mul 11 b)
                      refine lv_bipush (v := nI 9) hx hb dX2_search_194 (by decide) ?_
                      refine lv_iadd hx hb dX2_search_196 ?_
                      refine lv_topi (fun z_7 ez_7 => ?_)
                      obtain rfl : z_7 = nI ((11 * b) + 9) := ez_7.trans (nI_add (11 * b) 9)
                      refine na_lald hx hb hK hP 2 1 rfl rfl (show 11 * b + 9 < 13200 by omega) (by decide) dX2_search_197 ?_
                      refine lv_lneg hx hb dX2_search_198 ?_
                      refine lv_topl (fun z_8 ez_8 => ?_)
                      obtain rfl : z_8 = lN (-(f2 (11 * b + 9))).toInt.natAbs := ez_8.trans (lN_of (by omega))
                      refine lv_lstore (lv' := [(5, .long (lN (-(f2 (11 * b + 9))).toInt.natAbs)), (3, .long (lN (-(f2 (11 * b + 10))).toInt.natAbs)), (2, .int (nI b)), (0, .ref m0)]) hx hb dX2_search_199 hl (by decide) rfl (fun ls hl => ?_)
                      exact euc _ _ _ H _ ls (Nat.le_refl _) (by omega) (by omega) (by omega) rfl hP hK hD hS (lv_sub hl [0, 1, 2, 3] rfl)
                    · rw [lg_cmp_ge, Int64.le_iff_toInt_le, show (0 : Int64).toInt = 0 from rfl] at c6
                      refine lv_aload_n hx hb dX2_search_157 rfl (lv_at hl 2 rfl) ?_
                      refine va_get (D := (dC, dI)) (ci := 2) (v := .ref aR) (C := RX2) (T := TX2) (N := 19) hx hb hts (fun _ h => List.mem_cons_of_mem _ (List.mem_append_right _ h)) hown hK hP 0 rfl rfl 6 (by decide) (hts (.fieldLink RX2 17 "RankFinderModel" "rows" "[J") (List.mem_of_getElem? (i := 2) rfl)) (fun _ h9 => h9) rfl dX2_search_158 ?_
                      refine lv_bipush (v := nI 11) hx hb dX2_search_161 (by decide) ?_
                      refine lv_iload_n hx hb dX2_search_163 rfl (lv_at hl 1 rfl) ?_
                      refine lv_imul hx hb dX2_search_164 ?_
                      refine lv_topi (fun z_9 ez_9 => ?_)
                      obtain rfl : z_9 = nI (11 * b) := ez_9.trans (pk_mul 11 b)
                      refine lv_bipush (v := nI 10) hx hb dX2_search_165 (by decide) ?_
                      refine lv_iadd hx hb dX2_search_167 ?_
                      refine lv_topi (fun z_10 ez_10 => ?_)
                      obtain rfl : z_10 = nI ((11 * b) + 10) := ez_10.trans (nI_add (11 * b) 10)
                      refine na_lald hx hb hK hP 2 1 rfl rfl (show 11 * b + 10 < 13200 by omega) (by decide) dX2_search_168 ?_
                      refine lv_lneg hx hb dX2_search_169 ?_
                      refine lv_goto (tgt := 185) hx hb dX2_search_170 (by decide) ?_
                      refine lv_topl (fun z_11 ez_11 => ?_)
                      obtain rfl : z_11 = lN (-(f2 (11 * b + 10))).toInt.natAbs := ez_11.trans (lN_of (by omega))
                      refine lv_lstore_n (lv' := [(3, .long (lN (-(f2 (11 * b + 10))).toInt.natAbs)), (2, .int (nI b)), (0, .ref m0)]) hx hb dX2_search_185 rfl hl (by decide) rfl (fun ls hl => ?_)
                      refine lv_aload_n hx hb dX2_search_186 rfl (lv_at hl 2 rfl) ?_
                      refine va_get (D := (dC, dI)) (ci := 2) (v := .ref aR) (C := RX2) (T := TX2) (N := 19) hx hb hts (fun _ h => List.mem_cons_of_mem _ (List.mem_append_right _ h)) hown hK hP 0 rfl rfl 6 (by decide) (hts (.fieldLink RX2 17 "RankFinderModel" "rows" "[J") (List.mem_of_getElem? (i := 2) rfl)) (fun _ h9 => h9) rfl dX2_search_187 ?_
                      refine lv_bipush (v := nI 11) hx hb dX2_search_190 (by decide) ?_
                      refine lv_iload_n hx hb dX2_search_192 rfl (lv_at hl 1 rfl) ?_
                      refine lv_imul hx hb dX2_search_193 ?_
                      refine lv_topi (fun z_12 ez_12 => ?_)
                      obtain rfl : z_12 = nI (11 * b) := ez_12.trans (pk_mul 11 b)
                      refine lv_bipush (v := nI 9) hx hb dX2_search_194 (by decide) ?_
                      refine lv_iadd hx hb dX2_search_196 ?_
                      refine lv_topi (fun z_13 ez_13 => ?_)
                      obtain rfl : z_13 = nI ((11 * b) + 9) := ez_13.trans (nI_add (11 * b) 9)
                      refine na_lald hx hb hK hP 2 1 rfl rfl (show 11 * b + 9 < 13200 by omega) (by decide) dX2_search_197 ?_
                      refine lv_lneg hx hb dX2_search_198 ?_
                      refine lv_topl (fun z_14 ez_14 => ?_)
                      obtain rfl : z_14 = lN (-(f2 (11 * b + 9))).toInt.natAbs := ez_14.trans (lN_of (by omega))
                      refine lv_lstore (lv' := [(5, .long (lN (-(f2 (11 * b + 9))).toInt.natAbs)), (3, .long (lN (-(f2 (11 * b + 10))).toInt.natAbs)), (2, .int (nI b)), (0, .ref m0)]) hx hb dX2_search_199 hl (by decide) rfl (fun ls hl => ?_)
                      exact euc _ _ _ H _ ls (Nat.le_refl _) (by omega) (by omega) (by omega) rfl hP hK hD hS (lv_sub hl [0, 1, 2, 3] rfl)
                  · exact absurd (nI_pos' (by omega)) c4
              · exact absurd (nI_le (by omega) (by omega)) c1
            | succ d ih =>
              intro k b9 hh ll H locs ls hk hbs hP hK hD hS hl
              refine lv_iload_n hx hb dX2_search_88 rfl (lv_at hl 0 rfl) ?_
              refine lv_aload_n hx hb dX2_search_89 rfl (lv_at hl 2 rfl) ?_
              refine va_get (D := (dC, dI)) (ci := 2) (v := .int (nI r2)) (C := RX2) (T := TX2) (N := 19) hx hb hts (fun _ h => List.mem_cons_of_mem _ (List.mem_append_right _ h)) hown hK hP 0 rfl rfl 10 (by decide) (hts (.fieldLink RX2 46 "RankFinderModel" "rowCount" "I") (List.mem_of_getElem? (i := 5) rfl)) (fun _ h9 => h9) rfl dX2_search_90 ?_
              refine lv_icmp_ge (tgt := 134) hx hb dX2_search_93 (by decide) (fun c1 => ?_) (fun c1 => ?_)
              · exact absurd c1 (nI_ge (by omega) (by omega))
              · refine lv_aload_n hx hb dX2_search_96 rfl (lv_at hl 2 rfl) ?_
                refine va_get (D := (dC, dI)) (ci := 2) (v := .ref aR) (C := RX2) (T := TX2) (N := 19) hx hb hts (fun _ h => List.mem_cons_of_mem _ (List.mem_append_right _ h)) hown hK hP 0 rfl rfl 6 (by decide) (hts (.fieldLink RX2 17 "RankFinderModel" "rows" "[J") (List.mem_of_getElem? (i := 2) rfl)) (fun _ h9 => h9) rfl dX2_search_97 ?_
                refine lv_bipush (v := nI 11) hx hb dX2_search_100 (by decide) ?_
                refine lv_iload_n hx hb dX2_search_102 rfl (lv_at hl 0 rfl) ?_
                refine lv_imul hx hb dX2_search_103 ?_
                refine lv_topi (fun z_1 ez_1 => ?_)
                obtain rfl : z_1 = nI (11 * k) := ez_1.trans (pk_mul 11 k)
                refine lv_bipush (v := nI 9) hx hb dX2_search_104 (by decide) ?_
                refine lv_iadd hx hb dX2_search_106 ?_
                refine lv_topi (fun z_2 ez_2 => ?_)
                obtain rfl : z_2 = nI ((11 * k) + 9) := ez_2.trans (nI_add (11 * k) 9)
                refine na_lald hx hb hK hP 2 1 rfl rfl (show 11 * k + 9 < 13200 by omega) (by decide) dX2_search_107 ?_
                refine lv_lconst (v := 0) hx hb dX2_search_108 (by decide) ?_
                refine W.lcmp hx hb dX2_search_109 ?_
                refine lv_if_ge (tgt := 128) hx hb dX2_search_110 (by decide) (fun c4 => ?_) (fun c4 => ?_)
                · rw [lg_cmp_ge] at c4
                  refine lv_iinc (v := nI (k + 1)) (lv' := [(3, .int (nI (k + 1))), (2, .int b9), (0, .ref m0)]) hx hb dX2_search_128 hl (k := 0) rfl (nI_1 _) (by decide) rfl (fun ls hl => ?_)
                  refine lv_goto (tgt := 88) hx hb dX2_search_131 (by decide) ?_
                  exact ih (k + 1) b9 hh ll H _ ls (by omega) (bst_skip hbs (Int64.not_lt.mpr c4)) hP hK hD hS (lv_sub hl [0, 1, 2] rfl)
                · rw [lg_cmp_ge] at c4
                  have hk9 : (f2 (11 * k + 9)).toInt < 0 := Int64.lt_iff_toInt_lt.mp (Int64.not_le.mp c4)
                  rcases hbs with ⟨rfl, hbs⟩ | ⟨b, hb1, rfl, hb3, hb4⟩
                  · refine lv_iload_n hx hb dX2_search_113 rfl (lv_at hl 1 rfl) ?_
                    refine lv_if_lt (tgt := 126) hx hb dX2_search_114 (by decide) (fun c5 => ?_) (fun c5 => ?_)
                    · refine lv_iload_n hx hb dX2_search_126 rfl (lv_at hl 0 rfl) ?_
                      refine lv_istore_n (lv' := [(2, .int (nI k)), (3, .int (nI k)), (0, .ref m0)]) hx hb dX2_search_127 rfl hl (by decide) rfl (fun ls hl => ?_)
                      refine lv_iinc (v := nI (k + 1)) (lv' := [(3, .int (nI (k + 1))), (2, .int (nI k)), (0, .ref m0)]) hx hb dX2_search_128 hl (k := 1) rfl (nI_1 _) (by decide) rfl (fun ls hl => ?_)
                      refine lv_goto (tgt := 88) hx hb dX2_search_131 (by decide) ?_
                      exact ih (k + 1) (nI k) hh ll H _ ls (by omega) (bst_first hbs hk9) hP hK hD hS (lv_sub hl [0, 1, 2] rfl)
                    · exact absurd (by decide) c5
                  · refine lv_iload_n hx hb dX2_search_113 rfl (lv_at hl 1 rfl) ?_
                    refine lv_if_lt (tgt := 126) hx hb dX2_search_114 (by decide) (fun c5 => ?_) (fun c5 => ?_)
                    · exact absurd c5 (nI_pos (by omega))
                    · refine lv_aload_n hx hb dX2_search_117 rfl (lv_at hl 2 rfl) ?_
                      refine lv_iload_n hx hb dX2_search_118 rfl (lv_at hl 0 rfl) ?_
                      refine lv_iload_n hx hb dX2_search_119 rfl (lv_at hl 1 rfl) ?_
                      have hFc : ∀ q, va_A (mdW m0 aN aR aX aO aP aH aL aW cI cJ i ct nm tp bt an f2 x2 o2 p2 r2 c2 hh ll a2 b2 fT fB wd) H.size q → A q := va_fall hD hS hA
                      refine va_calli (va_runV (As := [.int (nI k), .int (nI b)]) (rest := []) ⟨hx, hb, hml, hown, hts⟩ (c_X2_isGreater l dC dI H.size m0 aN aR aX aO aP aH aL aW cI cJ i ct nm tp bt an f2 x2 o2 p2 r2 c2 hh ll a2 b2 fT fB wd k b (by omega) (by omega) (hrb k (by omega)) (hrb b (by omega))) (cwV 2 hts gX2_search_X2_isGreater rfl rfl rfl (by decide +kernel) ⟨Nat.le_of_ble_eq_true rfl, Nat.le_of_ble_eq_true rfl⟩) ⟨fun a U g mk q => by obtain ⟨q0, q1, qP, qK, qD⟩ := q; exact ⟨q0, q1, qP, va_K.moved (u := U) (U := U.calling g mk a) (Vm.Alike.refl U.vm) qK, qD⟩, va_recv hK hP (ci := 2) (q0 := 0) rfl rfl, fun U hU hW => ⟨rfl, by rw [hU], by rw [hU]; exact hP, va_K.moved hW.alike hK, hD.weaken (fun _ _ _ _ => trivial)⟩⟩ rfl rfl hl.1 rfl (lv_room (Nat.le_of_ble_eq_true rfl)) dX2_search_120 ⟨(Nat.zero_le _), (Nat.zero_le _)⟩) hS (fun q _ h => hFc q h) hFc (fun r_120 v9 t H1 locs ht hvm hw9 hB hz1 hk1 hS => ?_)
                      obtain ⟨hP1, hK1, hD1⟩ := hB
                      rw [ht] at hP1
                      clear hP hD hK
                      have hK := va_K.moved hvm.symm hK1
                      have hP := hP1
                      have hD := hD1.weaken (B := A) (fun _ q _ h => hFc q.1 h)
                      clear hP1 hD1 hK1 hFc hk1 hz1 ht hvm
                      generalize H1 = H at hP hS ⊢
                      obtain ⟨h3, l3⟩ := v9
                      have hP : va_P (dC, dI) vwCl (mdW m0 aN aR aX aO aP aH aL aW cI cJ i ct nm tp bt an f2 x2 o2 p2 r2 c2 h3 l3 a2 b2 fT fB wd) H := hP
                      have hD : va_D A (mdW m0 aN aR aX aO aP aH aL aW cI cJ i ct nm tp bt an f2 x2 o2 p2 r2 c2 h3 l3 a2 b2 fT fB wd) := hD
                      rcases hw9 with ⟨rfl, hw9⟩ | ⟨rfl, hw9⟩
                      · refine lv_if_eq (tgt := 128) hx hb dX2_search_123 (by decide) (fun c => absurd c (by decide)) (fun _ => ?_)
                        refine lv_iload_n hx hb dX2_search_126 rfl (lv_at hl 0 rfl) ?_
                        refine lv_istore_n (lv' := [(2, .int (nI k)), (3, .int (nI k)), (0, .ref m0)]) hx hb dX2_search_127 rfl hl (by decide) rfl (fun ls hl => ?_)
                        refine lv_iinc (v := nI (k + 1)) (lv' := [(3, .int (nI (k + 1))), (2, .int (nI k)), (0, .ref m0)]) hx hb dX2_search_128 hl (k := 1) rfl (nI_1 _) (by decide) rfl (fun ls hl => ?_)
                        refine lv_goto (tgt := 88) hx hb dX2_search_131 (by decide) ?_
                        exact ih (k + 1) (nI k) h3 l3 H _ ls (by omega) (bst_new hb1 hb3 hb4 hk9 hw9) hP hK hD hS (lv_sub hl [0, 1, 2] rfl)
                      · refine lv_if_eq (tgt := 128) hx hb dX2_search_123 (by decide) (fun _ => ?_) (fun c => absurd rfl c)
                        refine lv_iinc (v := nI (k + 1)) (lv' := [(3, .int (nI (k + 1))), (2, .int (nI b)), (0, .ref m0)]) hx hb dX2_search_128 hl (k := 0) rfl (nI_1 _) (by decide) rfl (fun ls hl => ?_)
                        refine lv_goto (tgt := 88) hx hb dX2_search_131 (by decide) ?_
                        exact ih (k + 1) (nI b) h3 l3 H _ ls (by omega) (bst_old hb1 hb3 hb4 hw9) hP hK hD hS (lv_sub hl [0, 1, 2] rfl)
          exact loop r2 0 (-1) h2 l2 H _ ls (by omega) (Or.inl ⟨rfl, fun r hr => by omega⟩) hP hK hD hS (lv_sub hl [0, 1, 3] rfl)
        · refine lv_if_ne (tgt := 84) hx hb dX2_search_79 (by decide) (fun c => absurd rfl c) (fun _ => ?_)
          refine lv_iconst (v := nI 0) hx hb dX2_search_82 (by decide) ?_
          exact W.iret (v := (nI 0)) hx hb hr (fun t ht hW => ⟨⟨(nI 0), (r2, f2, o2, x2, p2, h2, l2, a2, b2, c2, fT, fB), rfl, Or.inl ⟨rfl, hpi.mp hw⟩, by rw [ht]; exact hP, va_K.moved hW.alike hK, hD⟩, hS.F ht⟩) hS.2.2 dX2_search_83
      · exact absurd (nI_le (by omega) (by omega)) c2
    | succ d2 ih2 =>
      intro i f H locs ls hi2 hf hfi hP hK hD hS hl
      refine lv_iload_n hx hb dX2_search_11 rfl (lv_at hl 0 rfl) ?_
      refine lv_aload_n hx hb dX2_search_12 rfl (lv_at hl 2 rfl) ?_
      refine va_get (D := (dC, dI)) (ci := 2) (v := .int (nI vn)) (C := RX2) (T := TX2) (N := 19) hx hb hts (fun _ h => List.mem_cons_of_mem _ (List.mem_append_right _ h)) hown hK hP 0 rfl rfl 0 (by decide) (hts (.fieldLink RX2 7 "RankFinderModel" "n" "I") (List.mem_of_getElem? (i := 1) rfl)) (fun _ h9 => h9) rfl dX2_search_13 ?_
      refine lv_icmp_ge (tgt := 59) hx hb dX2_search_16 (by decide) (fun c2 => ?_) (fun c2 => ?_)
      · exact absurd c2 (nI_ge (by omega) (by omega))
      · refine lv_aload_n hx hb dX2_search_19 rfl (lv_at hl 2 rfl) ?_
        refine va_get (D := (dC, dI)) (ci := 2) (v := .ref aR) (C := RX2) (T := TX2) (N := 19) hx hb hts (fun _ h => List.mem_cons_of_mem _ (List.mem_append_right _ h)) hown hK hP 0 rfl rfl 6 (by decide) (hts (.fieldLink RX2 17 "RankFinderModel" "rows" "[J") (List.mem_of_getElem? (i := 2) rfl)) (fun _ h9 => h9) rfl dX2_search_20 ?_
        refine lv_iload_n hx hb dX2_search_23 rfl (lv_at hl 1 rfl) ?_
        refine lv_iload_n hx hb dX2_search_24 rfl (lv_at hl 0 rfl) ?_
        refine lv_iadd hx hb dX2_search_25 ?_
        refine lv_topi (fun z_1 ez_1 => ?_)
        obtain rfl : z_1 = nI ((11 * ct) + i) := ez_1.trans (nI_add (11 * ct) i)
        refine lv_aload_n hx hb dX2_search_26 rfl (lv_at hl 2 rfl) ?_
        refine va_get (D := (dC, dI)) (ci := 2) (v := .ref aW) (C := RX2) (T := TX2) (N := 19) hx hb hts (fun _ h => List.mem_cons_of_mem _ (List.mem_append_right _ h)) hown hK hP 0 rfl rfl 18 (by decide) (hts (.fieldLink RX2 36 "RankFinderModel" "wanted" "[I") (List.mem_of_getElem? (i := 3) rfl)) (fun _ h9 => h9) rfl dX2_search_27 ?_
        refine lv_iload_n hx hb dX2_search_30 rfl (lv_at hl 0 rfl) ?_
        refine na_iald hx hb hK hP 8 0 rfl rfl (show i < 6 by omega) (by decide) dX2_search_31 ?_
        refine lv_i2l hx hb dX2_search_32 rfl ?_
        refine na_last hx hb hK hP hD hS 2 1 rfl rfl (show 11 * ct + i < 13200 by omega) (by decide) dX2_search_33 (fun H locs hP hD hS => ?_)
        have hP : va_P (dC, dI) vwCl (mdW m0 aN aR aX aO aP aH aL aW cI cJ vn ct nm tp bt an (vp_updL f ((11 * ct) + i) (Int32.toInt64 (wd i))) nx (upd o1 ct (bitI ct)) no (ct + 1) nc hgh lws dh dl fT fB wd) H := hP
        have hD : va_D A (mdW m0 aN aR aX aO aP aH aL aW cI cJ vn ct nm tp bt an (vp_updL f ((11 * ct) + i) (Int32.toInt64 (wd i))) nx (upd o1 ct (bitI ct)) no (ct + 1) nc hgh lws dh dl fT fB wd) := hD
        refine lv_aload_n hx hb dX2_search_34 rfl (lv_at hl 2 rfl) ?_
        refine va_get (D := (dC, dI)) (ci := 2) (v := .ref aR) (C := RX2) (T := TX2) (N := 19) hx hb hts (fun _ h => List.mem_cons_of_mem _ (List.mem_append_right _ h)) hown hK hP 0 rfl rfl 6 (by decide) (hts (.fieldLink RX2 17 "RankFinderModel" "rows" "[J") (List.mem_of_getElem? (i := 2) rfl)) (fun _ h9 => h9) rfl dX2_search_35 ?_
        refine lv_iload_n hx hb dX2_search_38 rfl (lv_at hl 1 rfl) ?_
        refine lv_iconst (v := nI 3) hx hb dX2_search_39 (by decide) ?_
        refine lv_iadd hx hb dX2_search_40 ?_
        refine lv_topi (fun z_2 ez_2 => ?_)
        obtain rfl : z_2 = nI ((11 * ct) + 3) := ez_2.trans (nI_add (11 * ct) 3)
        refine lv_iload_n hx hb dX2_search_41 rfl (lv_at hl 0 rfl) ?_
        refine lv_iadd hx hb dX2_search_42 ?_
        refine lv_topi (fun z_3 ez_3 => ?_)
        obtain rfl : z_3 = nI (((11 * ct) + 3) + i) := ez_3.trans (nI_add ((11 * ct) + 3) i)
        refine lv_aload_n hx hb dX2_search_43 rfl (lv_at hl 2 rfl) ?_
        refine va_get (D := (dC, dI)) (ci := 2) (v := .ref aW) (C := RX2) (T := TX2) (N := 19) hx hb hts (fun _ h => List.mem_cons_of_mem _ (List.mem_append_right _ h)) hown hK hP 0 rfl rfl 18 (by decide) (hts (.fieldLink RX2 36 "RankFinderModel" "wanted" "[I") (List.mem_of_getElem? (i := 3) rfl)) (fun _ h9 => h9) rfl dX2_search_44 ?_
        refine lv_iconst (v := nI 3) hx hb dX2_search_47 (by decide) ?_
        refine lv_iload_n hx hb dX2_search_48 rfl (lv_at hl 0 rfl) ?_
        refine lv_iadd hx hb dX2_search_49 ?_
        refine lv_topi (fun z_4 ez_4 => ?_)
        obtain rfl : z_4 = nI (3 + i) := ez_4.trans (nI_add 3 i)
        refine na_iald hx hb hK hP 8 0 rfl rfl (show 3 + i < 6 by omega) (by decide) dX2_search_50 ?_
        refine lv_i2l hx hb dX2_search_51 rfl ?_
        refine na_last hx hb hK hP hD hS 2 1 rfl rfl (show 11 * ct + 3 + i < 13200 by omega) (by decide) dX2_search_52 (fun H locs hP hD hS => ?_)
        have hP : va_P (dC, dI) vwCl (mdW m0 aN aR aX aO aP aH aL aW cI cJ vn ct nm tp bt an (vp_updL (vp_updL f ((11 * ct) + i) (Int32.toInt64 (wd i))) (((11 * ct) + 3) + i) (Int32.toInt64 (wd (3 + i)))) nx (upd o1 ct (bitI ct)) no (ct + 1) nc hgh lws dh dl fT fB wd) H := hP
        have hD : va_D A (mdW m0 aN aR aX aO aP aH aL aW cI cJ vn ct nm tp bt an (vp_updL (vp_updL f ((11 * ct) + i) (Int32.toInt64 (wd i))) (((11 * ct) + 3) + i) (Int32.toInt64 (wd (3 + i)))) nx (upd o1 ct (bitI ct)) no (ct + 1) nc hgh lws dh dl fT fB wd) := hD
        refine lv_iinc (v := nI (i + 1)) (lv' := [(2, .int (nI (i + 1))), (1, .int (nI (11 * ct))), (0, .ref m0)]) hx hb dX2_search_53 hl (k := 0) rfl (nI_1 _) (by decide) rfl (fun ls hl => ?_)
        refine lv_goto (tgt := 11) hx hb dX2_search_56 (by decide) ?_
        exact ih2 (i + 1) _ H _ ls (by omega) (by rw [show 11 * ct + 3 + i = 11 * ct + (3 + i) by omega]; exact rwI_up (rwI_up hf)) (srP_s (by omega) hfi) hP hK hD hS (lv_sub hl [0, 1, 2] rfl)
  exact inner vn 0 _ H _ ls (by omega) hf2 (fun j hj => by rw [hf3 j hj]; unfold srP; rw [if_neg (by omega)]) hP hK hD hS (lv_sub hl [0, 1, 2] rfl)
