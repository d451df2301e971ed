/-! ===== RankFinder: ranks, least: the walks ===== -/
theorem red_ok {T u : Int64} {val : Rat} (h1 : (T.toInt : Rat) = (u.toInt : Rat) * val) (hu : 0 < u.toInt) (hT : -9223372036854775808 < T.toInt) {g : Nat} (hg : g = Nat.gcd T.toInt.natAbs u.toInt.natAbs) :
    0 < g ∧ g < 2 ^ 63 ∧ ((T / lN g).toInt : Rat) = val * ((u / lN g).toInt : Rat) ∧ 0 < (u / lN g).toInt ∧ Nat.gcd (T / lN g).toInt.natAbs (u / lN g).toInt.natAbs = 1 := by
  have hT1 := T.toInt_lt
  have hu1 := u.toInt_lt
  have hg0 : 0 < g := by rw [hg]; exact Nat.gcd_pos_of_pos_right _ (by omega)
  have hgu : g ∣ u.toInt.natAbs := by rw [hg]; exact Nat.gcd_dvd_right _ _
  have hgT : g ∣ T.toInt.natAbs := by rw [hg]; exact Nat.gcd_dvd_left _ _
  have hgl : g < 2 ^ 63 := by have := Nat.le_of_dvd (by omega) hgu; omega
  obtain ⟨a, ha⟩ : ∃ a : Int, T.toInt = g * a := Int.ofNat_dvd_left.mpr hgT
  obtain ⟨b, hb⟩ : ∃ b : Int, u.toInt = g * b := Int.ofNat_dvd_left.mpr hgu
  have key : ∀ (x : Int64) (z : Int), -9223372036854775808 < x.toInt → x.toInt = g * z → (x / lN g).toInt = z := fun x z hx e => by
    have hx1 := x.toInt_lt
    rw [Int64.toInt_div, pk_lT hgl, e, Int.mul_tdiv_cancel_left _ (by omega)]
    have e2 : -9223372036854775808 < z ∧ z < 9223372036854775808 := by
      have h5 : z.natAbs ≤ x.toInt.natAbs := by
        rw [e, Int.natAbs_mul]
        have : 1 * z.natAbs ≤ (g : Int).natAbs * z.natAbs := Nat.mul_le_mul_right _ (by omega)
        omega
      omega
    exact Int.bmod_eq_of_le (by omega) (by omega)
  have k1 := key T a hT ha
  have k2 := key u b (by omega) hb
  have hb0 : 0 < b := by
    apply Classical.byContradiction
    intro q
    have : (g : Int) * b ≤ 0 := Int.mul_nonpos_of_nonneg_of_nonpos (by omega) (by omega)
    omega
  rw [k1, k2]
  refine ⟨hg0, hgl, ?_, hb0, ?_⟩
  · rw [ha, hb, Rat.intCast_mul, Rat.intCast_mul] at h1
    have hgi : (0 : Int) < (g : Int) := by omega
    have hgq : (0 : Rat) < ((g : Int) : Rat) := Rat.intCast_lt_intCast.mpr hgi
    have hii := Rat.mul_inv_cancel ((g : Int) : Rat) (by grind)
    generalize ((g : Int) : Rat) = w at h1 hii
    generalize w⁻¹ = i at hii
    have : (a : Rat) = i * (w * (a : Rat)) := by grind
    rw [this, h1]; grind
  · have e1 : T.toInt.natAbs = g * a.natAbs := by rw [ha, Int.natAbs_mul]; simp
    have e2 : u.toInt.natAbs = g * b.natAbs := by rw [hb, Int.natAbs_mul]; simp
    rw [e1, e2, Nat.gcd_mul_left] at hg
    have : g * 1 = g * Nat.gcd a.natAbs b.natAbs := by omega
    exact (Nat.eq_of_mul_eq_mul_left hg0 this).symm
set_option maxHeartbeats 1000000 in
set_option maxRecDepth 100000 in
/-- least(..) -/
theorem c_X1_least (l : Launch) (dC : Nat → ClassId) (dI : Nat → Nat → Nat) (sz : Nat) (p0 qt qg h0 : Nat) (rt : Nat → Nat) (cB cI cA cJ : ClassId) (qc qh : Nat) (r : Nat → Nat) (vn ct : Nat) (ft fb : Int64) (gl : Nat → Int32) (T : Nat → Nat → Int32) (me nw : Nat) (u : Int64) (tw : Int32) (iv : Int64) (hd : Nat → Int32) (M : Nat → Nat → Int64) (x1 x2 x3 x4 x5 x6 : Int32) (hv1 : 1 ≤ vn) (hv3 : vn ≤ 3) (hc : ct ≤ 8) (hT : okT T ct) : Met l yX1_least wsX1_least ({ frames := 6, cells := 0, slots := 0, locals := 166 }) (va_Pc [.ref p0, .int x1, .int x2, .int x3, .int x4, .int x5, .int x6] (fun U => U.heap.size = sz ∧ va_P (dC, dI) vwCl (rfX p0 qt qg h0 rt cB cI vn ct ft fb gl T ++ (wgW h0 qc qh r cA cI cJ me nw u tw iv hd M)) U.heap ∧ va_K (dC, dI) vwCl ((cB, .array .int) :: (cI, .int) :: wgT cA cI cJ) U ∧ va_D (fun _ => True) (rfX p0 qt qg h0 rt cB cI vn ct ft fb gl T ++ (wgW h0 qc qh r cA cI cJ me nw u tw iv hd M)))) (va_Qi (fun (x : Int32) (v : Int64 × Int64 × (Nat → Int32) × Nat × Nat × wgS) => (x = -1 ∧ ¬ ((inR x1 (nI 99) ∧ inR x2 (nI 99) ∧ inR x3 (nI 99)) ∧ inR x4 (nI 99) ∧ inR x5 (nI 99) ∧ inR x6 (nI 99)) ∧ v.1 = ft ∧ v.2.1 = fb) ∨ (((inR x1 (nI 99) ∧ inR x2 (nI 99) ∧ inR x3 (nI 99)) ∧ inR x4 (nI 99) ∧ inR x5 (nI 99) ∧ inR x6 (nI 99)) ∧ ((x = 0 ∧ Cer ct (2 * vn) (CG T (gl3 (gl3 gl 0 x1 x2 x3) 3 x4 x5 x6) vn ct) ∧ v.1 = 0 ∧ v.2.1 = 0) ∨ (x = 2 ∧ ∃ val, Fou ct (2 * vn) (CG T (gl3 (gl3 gl 0 x1 x2 x3) 3 x4 x5 x6) vn ct) val ∧ (v.1.toInt : Rat) = val * (v.2.1.toInt : Rat) ∧ 0 < v.2.1.toInt ∧ Nat.gcd v.1.toInt.natAbs v.2.1.toInt.natAbs = 1) ∨ (x = 1 ∧ Nol ct (2 * vn) (CG T (gl3 (gl3 gl 0 x1 x2 x3) 3 x4 x5 x6) vn ct) ∧ v.1 = 0 ∧ v.2.1 = 0)))) (fun v t => va_P (dC, dI) vwCl (rfX p0 qt qg h0 rt cB cI vn ct v.1 v.2.1 v.2.2.1 T ++ (wgW h0 qc qh r cA cI cJ v.2.2.2.1 v.2.2.2.2.1 v.2.2.2.2.2.2.2.1 v.2.2.2.2.2.2.2.2.1 v.2.2.2.2.2.2.2.2.2.1 v.2.2.2.2.2.2.1 v.2.2.2.2.2.1)) t.heap ∧ va_K (dC, dI) vwCl ((cB, .array .int) :: (cI, .int) :: wgT cA cI cJ) t ∧ va_D (va_A (rfX p0 qt qg h0 rt cB cI vn ct ft fb gl T ++ (wgW h0 qc qh r cA cI cJ me nw u tw iv hd M)) sz) (rfX p0 qt qg h0 rt cB cI vn ct v.1 v.2.1 v.2.2.1 T ++ (wgW h0 qc qh r cA cI cJ v.2.2.2.1 v.2.2.2.2.1 v.2.2.2.2.2.2.2.1 v.2.2.2.2.2.2.2.2.1 v.2.2.2.2.2.2.2.2.2.1 v.2.2.2.2.2.2.1 v.2.2.2.2.2.1))) (va_A (rfX p0 qt qg h0 rt cB cI vn ct ft fb gl T ++ (wgW h0 qc qh r cA cI cJ me nw u tw iv hd M)) sz)) 0 0 (va_A (rfX p0 qt qg h0 rt cB cI vn ct ft fb gl T ++ (wgW h0 qc qh r cA cI cJ me nw u tw iv hd M)) sz) := by
  refine Met.ofW (cc := cX1_least) (maxL := 10) (ret := (some .int)) (by decide) rfl ?_
  intro p e s m args below meth c s₁ B hml hv
  obtain ⟨rfl, hsz, hP, hK, hD0⟩ := hv
  have hx := B.exec
  have hb := B.bytes
  have hr := B.returns
  have hts := atoms_spec (ws := wsX1_least) B.pre
  have hown : s.vm.findClass RX1 = some m.cls := findClass_of_methodNamed B.named
  subst hsz
  have hD := hD0.self (sz := s.heap.size)
  clear hD0
  generalize hAe : va_A (rfX p0 qt qg h0 rt cB cI vn ct ft fb gl T ++ (wgW h0 qc qh r cA cI cJ me nw u tw iv hd M)) s.heap.size = A at hD ⊢
  have hA : ∀ q : Nat, s.heap.size ≤ q → A q := fun q h => by rw [← hAe]; exact Or.inr h
  have hl := lv_entry ([.ref p0, .int x1, .int x2, .int x3, .int x4, .int x5, .int x6]) (n := 10) (Nat.le_of_ble_eq_true rfl)
  rw [lg_entry_eq]
  generalize (lg_sl ([.ref p0, .int x1, .int x2, .int x3, .int x4, .int x5, .int x6]) ++ List.replicate (10 - (lg_sl ([.ref p0, .int x1, .int x2, .int x3, .int x4, .int x5, .int x6])).length) Slot.unset).toArray = ls at hl ⊢
  have hl : lv_has ls 10 [(0, .ref p0), (1, .int x1), (2, .int x2), (3, .int x3), (4, .int x4), (5, .int x5), (6, .int x6)] := hl
  have hP : va_P (dC, dI) vwCl (rfX p0 qt qg h0 rt cB cI vn ct ft fb gl T ++ (wgW h0 qc qh r cA cI cJ me nw u tw iv hd M)) s.heap := hP
  obtain ⟨H, hH⟩ : ∃ H, H = s.heap := ⟨_, rfl⟩
  have hS : va_S A s.heap H [] := by rw [hH]; exact va_S.rf
  rw [← hH] at hP ⊢
  refine lv_iload_n hx hb dX1_least_0 rfl (lv_at hl 1 rfl) ?_
  refine lv_iload_n hx hb dX1_least_1 rfl (lv_at hl 2 rfl) ?_
  refine lv_iload_n hx hb dX1_least_2 rfl (lv_at hl 3 rfl) ?_
  refine lv_bipush (v := nI 99) hx hb dX1_least_3 (by decide) ?_
  have hFc : ∀ q, va_A ([] : va_W) H.size q → A q := fun q h => va_nilA hS hA q h
  refine va_calli (va_runS (As := [.int x1, .int x2, .int x3, .int (nI 99)]) (rest := []) ⟨hx, hb, hml, hown, hts⟩ (c_X1_areWithin l dC dI H.size x1 x2 x3 (nI 99)) (va_cwS 4 hts gX1_least_X1_areWithin rfl rfl rfl (by decide +kernel) ⟨Nat.le_of_ble_eq_true rfl, Nat.le_of_ble_eq_true rfl⟩) ⟨fun a U g mk q => by obtain ⟨q0, q1, qP, qK, qD⟩ := q; exact ⟨q0, q1, qP, va_K.moved (u := U) (U := U.calling g mk a) (Vm.Alike.refl U.vm) qK, qD⟩, fun U hU hW => ⟨rfl, by rw [hU], va_nilP, va_K.moved hW.alike (hK.sub (tys' := []) [] rfl), va_nilD⟩⟩ rfl rfl hl.1 rfl (lv_room (Nat.le_of_ble_eq_true rfl)) dX1_least_5 ⟨(Nat.zero_le _), (Nat.zero_le _)⟩) hS (fun q _ h => hFc q h) hFc (fun r_5 v9 t H1 locs ht hvm hw hB hz1 hk1 hS => ?_)
  have hP := va_keep hP hk1
  clear hB hk1 hz1 ht hvm hFc
  generalize H1 = H at hP hS ⊢
  rcases hw with ⟨rfl, h1⟩ | ⟨rfl, h1⟩
  · refine lv_if_eq (tgt := 25) hx hb dX1_least_8 (by decide) (fun c => absurd c (by decide)) (fun _ => ?_)
    refine lv_iload hx hb dX1_least_11 (lv_at hl 4 rfl) ?_
    refine lv_iload hx hb dX1_least_13 (lv_at hl 5 rfl) ?_
    refine lv_iload hx hb dX1_least_15 (lv_at hl 6 rfl) ?_
    refine lv_bipush (v := nI 99) hx hb dX1_least_17 (by decide) ?_
    have hFc : ∀ q, va_A ([] : va_W) H.size q → A q := fun q h => va_nilA hS hA q h
    refine va_calli (va_runS (As := [.int x4, .int x5, .int x6, .int (nI 99)]) (rest := []) ⟨hx, hb, hml, hown, hts⟩ (c_X1_areWithin l dC dI H.size x4 x5 x6 (nI 99)) (va_cwS 4 hts gX1_least_X1_areWithin rfl rfl rfl (by decide +kernel) ⟨Nat.le_of_ble_eq_true rfl, Nat.le_of_ble_eq_true rfl⟩) ⟨fun a U g mk q => by obtain ⟨q0, q1, qP, qK, qD⟩ := q; exact ⟨q0, q1, qP, va_K.moved (u := U) (U := U.calling g mk a) (Vm.Alike.refl U.vm) qK, qD⟩, fun U hU hW => ⟨rfl, by rw [hU], va_nilP, va_K.moved hW.alike (hK.sub (tys' := []) [] rfl), va_nilD⟩⟩ rfl rfl hl.1 rfl (lv_room (Nat.le_of_ble_eq_true rfl)) dX1_least_19 ⟨(Nat.zero_le _), (Nat.zero_le _)⟩) hS (fun q _ h => hFc q h) hFc (fun r_19 v9 t H1 locs ht hvm hw hB hz1 hk1 hS => ?_)
    have hP := va_keep hP hk1
    clear hB hk1 hz1 ht hvm hFc
    generalize H1 = H at hP hS ⊢
    rcases hw with ⟨rfl, h2⟩ | ⟨rfl, h2⟩
    · refine lv_if_ne (tgt := 27) hx hb dX1_least_22 (by decide) (fun _ => ?_) (fun c => absurd c (by decide))
      have hg : okG (gl3 (gl3 gl 0 x1 x2 x3) 3 x4 x5 x6) := okG_3 (fun y hy => by
        rw [inR_int (by omega), inR_int (by omega), inR_int (by omega)] at h1 h2
        rcases hy with e | e | e | e | e | e <;> subst e <;> omega)
      refine lv_aload_n hx hb dX1_least_27 rfl (lv_at hl 0 rfl) ?_
      refine va_get (D := (dC, dI)) (ci := 1) (v := .ref qg) (C := RX1) (T := TX1) (N := 7) hx hb hts (fun _ h => List.mem_cons_of_mem _ (List.mem_append_left _ (List.mem_append_right _ h))) hown hK hP 0 rfl rfl 1 (by decide) (hts (.fieldLink RX1 14 "RankFinder" "goal" "[I") (List.mem_of_getElem? (i := 1) rfl)) (fun _ h9 => h9) rfl dX1_least_28 ?_
      refine lv_iconst (v := nI 0) hx hb dX1_least_31 (by decide) ?_
      refine lv_iload_n hx hb dX1_least_32 rfl (lv_at hl 1 rfl) ?_
      refine lv_iload_n hx hb dX1_least_33 rfl (lv_at hl 2 rfl) ?_
      refine lv_iload_n hx hb dX1_least_34 rfl (lv_at hl 3 rfl) ?_
      have hk9 : (rfX p0 qt qg h0 rt cB cI vn ct ft fb gl T ++ (wgW h0 qc qh r cA cI cJ me nw u tw iv hd M))[2]? = some (qg, .inl (cI, 6, .inl gl)) := rfl
      have hFc := va_oneA hD hk9 hS hA
      refine va_callv (va_runS (As := [.ref qg, .int (nI 0), .int x1, .int x2, .int x3]) (rest := []) ⟨hx, hb, hml, hown, hts⟩ (c_X1_fill l dC dI H.size cI qg 6 0 gl x1 x2 x3 (by omega) (by omega)) (va_cwS 5 hts gX1_least_X1_fill rfl rfl rfl (by decide +kernel) ⟨Nat.le_of_ble_eq_true rfl, Nat.le_of_ble_eq_true rfl⟩) ⟨fun a U g mk q => by obtain ⟨q0, q1, qP, qK, qD⟩ := q; exact ⟨q0, q1, qP, va_K.moved (u := U) (U := U.calling g mk a) (Vm.Alike.refl U.vm) qK, qD⟩, fun U hU hW => ⟨rfl, by rw [hU], by rw [hU]; exact va_oneP hP hk9, va_K.moved hW.alike (hK.sub [1] rfl), va_oneD trivial⟩⟩ rfl rfl hl.1 rfl (lv_room (Nat.le_of_ble_eq_true rfl)) dX1_least_35 ⟨(Nat.zero_le _), (Nat.zero_le _)⟩) hS (fun q _ h => hFc q h) hFc (fun v9 t H1 locs ht hvm hw hB hz1 hk1 hS => ?_)
      obtain ⟨hP1, hK1, hD1⟩ := hB
      rw [ht] at hP1
      obtain ⟨hP, hD⟩ := jn_at hP hD hk9 hk1 hP1
      clear hP1 hD1 hK1 hFc hk1 hz1 ht hvm hk9
      generalize H1 = H at hP hS ⊢
      have hP : va_P (dC, dI) vwCl (rfX p0 qt qg h0 rt cB cI vn ct ft fb (gl3 gl 0 x1 x2 x3) T ++ (wgW h0 qc qh r cA cI cJ me nw u tw iv hd M)) H := hP
      have hD : va_D A (rfX p0 qt qg h0 rt cB cI vn ct ft fb (gl3 gl 0 x1 x2 x3) T ++ (wgW h0 qc qh r cA cI cJ me nw u tw iv hd M)) := hD
      refine lv_aload_n hx hb dX1_least_38 rfl (lv_at hl 0 rfl) ?_
      refine va_get (D := (dC, dI)) (ci := 1) (v := .ref qg) (C := RX1) (T := TX1) (N := 7) hx hb hts (fun _ h => List.mem_cons_of_mem _ (List.mem_append_left _ (List.mem_append_right _ h))) hown hK hP 0 rfl rfl 1 (by decide) (hts (.fieldLink RX1 14 "RankFinder" "goal" "[I") (List.mem_of_getElem? (i := 1) rfl)) (fun _ h9 => h9) rfl dX1_least_39 ?_
      refine lv_iconst (v := nI 3) hx hb dX1_least_42 (by decide) ?_
      refine lv_iload hx hb dX1_least_43 (lv_at hl 4 rfl) ?_
      refine lv_iload hx hb dX1_least_45 (lv_at hl 5 rfl) ?_
      refine lv_iload hx hb dX1_least_47 (lv_at hl 6 rfl) ?_
      have hk9 : (rfX p0 qt qg h0 rt cB cI vn ct ft fb (gl3 gl 0 x1 x2 x3) T ++ (wgW h0 qc qh r cA cI cJ me nw u tw iv hd M))[2]? = some (qg, .inl (cI, 6, .inl (gl3 gl 0 x1 x2 x3))) := rfl
      have hFc := va_oneA hD hk9 hS hA
      refine va_callv (va_runS (As := [.ref qg, .int (nI 3), .int x4, .int x5, .int x6]) (rest := []) ⟨hx, hb, hml, hown, hts⟩ (c_X1_fill l dC dI H.size cI qg 6 3 (gl3 gl 0 x1 x2 x3) x4 x5 x6 (by omega) (by omega)) (va_cwS 5 hts gX1_least_X1_fill rfl rfl rfl (by decide +kernel) ⟨Nat.le_of_ble_eq_true rfl, Nat.le_of_ble_eq_true rfl⟩) ⟨fun a U g mk q => by obtain ⟨q0, q1, qP, qK, qD⟩ := q; exact ⟨q0, q1, qP, va_K.moved (u := U) (U := U.calling g mk a) (Vm.Alike.refl U.vm) qK, qD⟩, fun U hU hW => ⟨rfl, by rw [hU], by rw [hU]; exact va_oneP hP hk9, va_K.moved hW.alike (hK.sub [1] rfl), va_oneD trivial⟩⟩ rfl rfl hl.1 rfl (lv_room (Nat.le_of_ble_eq_true rfl)) dX1_least_49 ⟨(Nat.zero_le _), (Nat.zero_le _)⟩) hS (fun q _ h => hFc q h) hFc (fun v9 t H1 locs ht hvm hw hB hz1 hk1 hS => ?_)
      obtain ⟨hP1, hK1, hD1⟩ := hB
      rw [ht] at hP1
      obtain ⟨hP, hD⟩ := jn_at hP hD hk9 hk1 hP1
      clear hP1 hD1 hK1 hFc hk1 hz1 ht hvm hk9
      generalize H1 = H at hP hS ⊢
      have hP : va_P (dC, dI) vwCl (rfX p0 qt qg h0 rt cB cI vn ct ft fb (gl3 (gl3 gl 0 x1 x2 x3) 3 x4 x5 x6) T ++ (wgW h0 qc qh r cA cI cJ me nw u tw iv hd M)) H := hP
      have hD : va_D A (rfX p0 qt qg h0 rt cB cI vn ct ft fb (gl3 (gl3 gl 0 x1 x2 x3) 3 x4 x5 x6) T ++ (wgW h0 qc qh r cA cI cJ me nw u tw iv hd M)) := hD
      refine lv_aload_n hx hb dX1_least_52 rfl (lv_at hl 0 rfl) ?_
      have hFc : ∀ q, va_A (rfX p0 qt qg h0 rt cB cI vn ct ft fb (gl3 (gl3 gl 0 x1 x2 x3) 3 x4 x5 x6) T ++ (wgW h0 qc qh r cA cI cJ me nw u tw iv hd M)) H.size q → A q := va_fall hD hS hA
      refine va_calli (va_runV (As := []) (rest := []) ⟨hx, hb, hml, hown, hts⟩ (c_X1_seekLeast l dC dI H.size p0 qt qg h0 rt cB cI cA cJ qc qh r vn ct ft fb (gl3 (gl3 gl 0 x1 x2 x3) 3 x4 x5 x6) T me nw u tw iv hd M hv1 hv3 hc hT hg) (cwV 0 hts gX1_least_X1_seekLeast rfl rfl rfl (by decide +kernel) ⟨Nat.le_of_ble_eq_true rfl, Nat.le_of_ble_eq_true rfl⟩) ⟨fun a U g mk q => by obtain ⟨q0, q1, qP, qK, qD⟩ := q; exact ⟨q0, q1, qP, va_K.moved (u := U) (U := U.calling g mk a) (Vm.Alike.refl U.vm) qK, qD⟩, va_recv hK hP (ci := 1) (q0 := 0) rfl rfl, fun U hU hW => ⟨rfl, by rw [hU], by rw [hU]; exact hP, va_K.moved hW.alike hK, hD.weaken (fun _ _ _ _ => trivial)⟩⟩ rfl rfl hl.1 rfl (lv_room (Nat.le_of_ble_eq_true rfl)) dX1_least_53 ⟨(Nat.zero_le _), (Nat.zero_le _)⟩) hS (fun q _ h => hFc q h) hFc (fun r_53 v9 t H1 locs ht hvm hw hB hz1 hk1 hS => ?_)
      obtain ⟨hP1, hK1, hD1⟩ := hB
      rw [ht] at hP1
      clear hP hD hK
      have hK := va_K.moved hvm.symm hK1
      have hP := hP1
      have hD := hD1.weaken (B := A) (fun _ q _ h => hFc q.1 h)
      clear hP1 hD1 hK1 hFc hk1 hz1 ht hvm
      generalize H1 = H at hP hS ⊢
      obtain ⟨M, hd, u, tw, iv, h, R⟩ := v9
      have hP : va_P (dC, dI) vwCl (rfX p0 qt qg h0 rt cB cI vn ct ft fb (gl3 (gl3 gl 0 x1 x2 x3) 3 x4 x5 x6) T ++ (wgW h0 qc qh r cA cI cJ (2 * vn) ct u tw iv hd M)) H := hP
      have hD : va_D A (rfX p0 qt qg h0 rt cB cI vn ct ft fb (gl3 (gl3 gl 0 x1 x2 x3) 3 x4 x5 x6) T ++ (wgW h0 qc qh r cA cI cJ (2 * vn) ct u tw iv hd M)) := hD
      rcases hw with ⟨rfl, hq⟩ | ⟨rfl, hq, hG⟩ | ⟨rfl, hq⟩
      · refine lv_istore (lv' := [(7, .int 0), (0, .ref p0), (1, .int x1), (2, .int x2), (3, .int x3), (4, .int x4), (5, .int x5), (6, .int x6)]) hx hb dX1_least_56 hl (by decide) rfl (fun ls hl => ?_)
        refine lv_aload_n hx hb dX1_least_58 rfl (lv_at hl 1 rfl) ?_
        refine lv_lconst (v := 0) hx hb dX1_least_59 (by decide) ?_
        refine va_put (D := (dC, dI)) (ci := 1) (v := .long 0) (ty := .long) (C := RX1) (T := TX1) (N := 7) hx hb hts (fun _ h => List.mem_cons_of_mem _ (List.mem_append_left _ (List.mem_append_right _ h))) tyX1 tyX1_ok nmX1 hown hK hP hD hS 0 rfl rfl 5 (by decide) (hts (.fieldLink RX1 32 "RankFinder" "foundTop" "J") (List.mem_of_getElem? (i := 2) rfl)) (fun _ h9 => h9) rfl (by decide +kernel) rfl rfl (Nat.le_of_ble_eq_true rfl) dX1_least_60 (fun H locs hP hD hS => ?_)
        have hP : va_P (dC, dI) vwCl (rfX p0 qt qg h0 rt cB cI vn ct 0 fb (gl3 (gl3 gl 0 x1 x2 x3) 3 x4 x5 x6) T ++ (wgW h0 qc qh r cA cI cJ (2 * vn) ct u tw iv hd M)) H := hP
        have hD : va_D A (rfX p0 qt qg h0 rt cB cI vn ct 0 fb (gl3 (gl3 gl 0 x1 x2 x3) 3 x4 x5 x6) T ++ (wgW h0 qc qh r cA cI cJ (2 * vn) ct u tw iv hd M)) := hD
        refine lv_aload_n hx hb dX1_least_63 rfl (lv_at hl 1 rfl) ?_
        refine lv_lconst (v := 0) hx hb dX1_least_64 (by decide) ?_
        refine va_put (D := (dC, dI)) (ci := 1) (v := .long 0) (ty := .long) (C := RX1) (T := TX1) (N := 7) hx hb hts (fun _ h => List.mem_cons_of_mem _ (List.mem_append_left _ (List.mem_append_right _ h))) tyX1 tyX1_ok nmX1 hown hK hP hD hS 0 rfl rfl 6 (by decide) (hts (.fieldLink RX1 36 "RankFinder" "foundBottom" "J") (List.mem_of_getElem? (i := 3) rfl)) (fun _ h9 => h9) rfl (by decide +kernel) rfl rfl (Nat.le_of_ble_eq_true rfl) dX1_least_65 (fun H locs hP hD hS => ?_)
        have hP : va_P (dC, dI) vwCl (rfX p0 qt qg h0 rt cB cI vn ct 0 0 (gl3 (gl3 gl 0 x1 x2 x3) 3 x4 x5 x6) T ++ (wgW h0 qc qh r cA cI cJ (2 * vn) ct u tw iv hd M)) H := hP
        have hD : va_D A (rfX p0 qt qg h0 rt cB cI vn ct 0 0 (gl3 (gl3 gl 0 x1 x2 x3) 3 x4 x5 x6) T ++ (wgW h0 qc qh r cA cI cJ (2 * vn) ct u tw iv hd M)) := hD
        refine lv_iload hx hb dX1_least_68 (lv_at hl 0 rfl) ?_
        refine lv_iconst (v := nI 2) hx hb dX1_least_70 (by decide) ?_
        refine lv_icmp_ne (tgt := 121) hx hb dX1_least_71 (by decide) (fun c1 => ?_) (fun c1 => ?_)
        · refine lv_iload hx hb dX1_least_121 (lv_at hl 0 rfl) ?_
          exact W.iret (v := 0) hx hb hr (fun t ht hW => ⟨⟨0, (0, 0, (gl3 (gl3 gl 0 x1 x2 x3) 3 x4 x5 x6), 2 * vn, ct, (M, hd, u, tw, iv, h, R)), rfl, Or.inr ⟨⟨h1, h2⟩, Or.inl ⟨rfl, hq, rfl, rfl⟩⟩, by rw [ht]; exact hP, va_K.moved hW.alike hK, hD⟩, hS.F ht⟩) hS.2.2 dX1_least_123
        · exact absurd c1 (by decide)
      · refine lv_istore (lv' := [(7, .int 2), (0, .ref p0), (1, .int x1), (2, .int x2), (3, .int x3), (4, .int x4), (5, .int x5), (6, .int x6)]) hx hb dX1_least_56 hl (by decide) rfl (fun ls hl => ?_)
        refine lv_aload_n hx hb dX1_least_58 rfl (lv_at hl 1 rfl) ?_
        refine lv_lconst (v := 0) hx hb dX1_least_59 (by decide) ?_
        refine va_put (D := (dC, dI)) (ci := 1) (v := .long 0) (ty := .long) (C := RX1) (T := TX1) (N := 7) hx hb hts (fun _ h => List.mem_cons_of_mem _ (List.mem_append_left _ (List.mem_append_right _ h))) tyX1 tyX1_ok nmX1 hown hK hP hD hS 0 rfl rfl 5 (by decide) (hts (.fieldLink RX1 32 "RankFinder" "foundTop" "J") (List.mem_of_getElem? (i := 2) rfl)) (fun _ h9 => h9) rfl (by decide +kernel) rfl rfl (Nat.le_of_ble_eq_true rfl) dX1_least_60 (fun H locs hP hD hS => ?_)
        have hP : va_P (dC, dI) vwCl (rfX p0 qt qg h0 rt cB cI vn ct 0 fb (gl3 (gl3 gl 0 x1 x2 x3) 3 x4 x5 x6) T ++ (wgW h0 qc qh r cA cI cJ (2 * vn) ct u tw iv hd M)) H := hP
        have hD : va_D A (rfX p0 qt qg h0 rt cB cI vn ct 0 fb (gl3 (gl3 gl 0 x1 x2 x3) 3 x4 x5 x6) T ++ (wgW h0 qc qh r cA cI cJ (2 * vn) ct u tw iv hd M)) := hD
        refine lv_aload_n hx hb dX1_least_63 rfl (lv_at hl 1 rfl) ?_
        refine lv_lconst (v := 0) hx hb dX1_least_64 (by decide) ?_
        refine va_put (D := (dC, dI)) (ci := 1) (v := .long 0) (ty := .long) (C := RX1) (T := TX1) (N := 7) hx hb hts (fun _ h => List.mem_cons_of_mem _ (List.mem_append_left _ (List.mem_append_right _ h))) tyX1 tyX1_ok nmX1 hown hK hP hD hS 0 rfl rfl 6 (by decide) (hts (.fieldLink RX1 36 "RankFinder" "foundBottom" "J") (List.mem_of_getElem? (i := 3) rfl)) (fun _ h9 => h9) rfl (by decide +kernel) rfl rfl (Nat.le_of_ble_eq_true rfl) dX1_least_65 (fun H locs hP hD hS => ?_)
        have hP : va_P (dC, dI) vwCl (rfX p0 qt qg h0 rt cB cI vn ct 0 0 (gl3 (gl3 gl 0 x1 x2 x3) 3 x4 x5 x6) T ++ (wgW h0 qc qh r cA cI cJ (2 * vn) ct u tw iv hd M)) H := hP
        have hD : va_D A (rfX p0 qt qg h0 rt cB cI vn ct 0 0 (gl3 (gl3 gl 0 x1 x2 x3) 3 x4 x5 x6) T ++ (wgW h0 qc qh r cA cI cJ (2 * vn) ct u tw iv hd M)) := hD
        refine lv_iload hx hb dX1_least_68 (lv_at hl 0 rfl) ?_
        refine lv_iconst (v := nI 2) hx hb dX1_least_70 (by decide) ?_
        refine lv_icmp_ne (tgt := 121) hx hb dX1_least_71 (by decide) (fun c1 => ?_) (fun c1 => ?_)
        · exact absurd rfl c1
        · have hG : Gd (2 * vn) ct (CG T (gl3 (gl3 gl 0 x1 x2 x3) 3 x4 x5 x6) vn ct) M hd u tw iv h R := hG
          obtain ⟨hs1, hs2, hs3⟩ := Gd_small hT hg hv1 hv3 hG
          have hval := hG.2.2.2.1 (2 * vn) ct (Nat.le_refl _) (Nat.le_refl _)
          obtain ⟨g0, gl9, gv, gp, gc⟩ := red_ok hval hs2 (by omega) rfl
          refine lv_aload_n hx hb dX1_least_74 rfl (lv_at hl 1 rfl) ?_
          refine va_get (D := (dC, dI)) (ci := 1) (v := .ref h0) (C := RX1) (T := TX1) (N := 7) hx hb hts (fun _ h => List.mem_cons_of_mem _ (List.mem_append_left _ (List.mem_append_right _ h))) hown hK hP 0 rfl rfl 2 (by decide) (hts (.fieldLink RX1 21 "RankFinder" "weighing" "LRankFinder$Weighing;") (List.mem_of_getElem? (i := 4) rfl)) (fun _ h9 => h9) rfl dX1_least_75 ?_
          have hPc : va_P (dC, dI) vwCl (wgW h0 qc qh r cA cI cJ (2 * vn) ct u tw iv hd M) H := va_Pr hP
          have hKc := hK.sub (tys' := wgT cA cI cJ) [2, 3, 4] rfl
          have hFc : ∀ q, va_A (wgW h0 qc qh r cA cI cJ (2 * vn) ct u tw iv hd M) H.size q → A q := va_Ar hD hS hA
          refine va_calll (va_runV (As := []) (rest := []) ⟨hx, hb, hml, hown, hts⟩ (c_X0_leastTop l dC dI h0 qc qh r cA cI cJ H.size (2 * vn) ct u tw iv hd M (by omega) (by omega)) (cwV 0 hts gX1_least_X0_leastTop rfl rfl rfl (by decide +kernel) ⟨Nat.le_of_ble_eq_true rfl, Nat.le_of_ble_eq_true rfl⟩) ⟨fun a U g mk q => by obtain ⟨q0, q1, qP, qK, qD⟩ := q; exact ⟨q0, q1, qP, va_K.moved (u := U) (U := U.calling g mk a) (Vm.Alike.refl U.vm) qK, qD⟩, va_recv hKc hPc (ci := 0) (q0 := 0) rfl rfl, fun U hU hW => ⟨rfl, by rw [hU], by rw [hU]; exact hPc, va_K.moved hW.alike hKc, va_Dr hD⟩⟩ rfl rfl hl.1 rfl (lv_room (Nat.le_of_ble_eq_true rfl)) dX1_least_78 ⟨(Nat.zero_le _), (Nat.zero_le _)⟩) hS (fun q _ h => hFc q h) hFc (fun r_78 v9 t H1 locs ht hvm hw hB hz1 hk1 hS => ?_)
          obtain ⟨hP1, hK1, hD1⟩ := hB
          rw [ht] at hP1
          obtain ⟨hP, hD⟩ := jn_app hP hD hk1 hFc hP1 hD1
          clear hPc hKc hP1 hD1 hK1 hFc hk1 hz1 ht hvm
          generalize H1 = H at hP hS ⊢
          have hP : va_P (dC, dI) vwCl (rfX p0 qt qg h0 rt cB cI vn ct 0 0 (gl3 (gl3 gl 0 x1 x2 x3) 3 x4 x5 x6) T ++ (wgW h0 qc qh r cA cI cJ (2 * vn) ct u tw iv hd M)) H := hP
          have hD : va_D A (rfX p0 qt qg h0 rt cB cI vn ct 0 0 (gl3 (gl3 gl 0 x1 x2 x3) 3 x4 x5 x6) T ++ (wgW h0 qc qh r cA cI cJ (2 * vn) ct u tw iv hd M)) := hD
          subst hw
          refine lv_aload_n hx hb dX1_least_81 rfl (lv_at hl 1 rfl) ?_
          refine va_get (D := (dC, dI)) (ci := 1) (v := .ref h0) (C := RX1) (T := TX1) (N := 7) hx hb hts (fun _ h => List.mem_cons_of_mem _ (List.mem_append_left _ (List.mem_append_right _ h))) hown hK hP 0 rfl rfl 2 (by decide) (hts (.fieldLink RX1 21 "RankFinder" "weighing" "LRankFinder$Weighing;") (List.mem_of_getElem? (i := 4) rfl)) (fun _ h9 => h9) rfl dX1_least_82 ?_
          have hPc : va_P (dC, dI) vwCl (wgW h0 qc qh r cA cI cJ (2 * vn) ct u tw iv hd M) H := va_Pr hP
          have hKc := hK.sub (tys' := wgT cA cI cJ) [2, 3, 4] rfl
          have hFc : ∀ q, va_A (wgW h0 qc qh r cA cI cJ (2 * vn) ct u tw iv hd M) H.size q → A q := va_Ar hD hS hA
          refine va_calll (va_runV (As := []) (rest := [.long (M (2 * vn) ct)]) ⟨hx, hb, hml, hown, hts⟩ (c_X0_leastBottom l dC dI h0 qc qh r cA cI cJ H.size (2 * vn) ct u tw iv hd M) (cwV 0 hts gX1_least_X0_leastBottom rfl rfl rfl (by decide +kernel) ⟨Nat.le_of_ble_eq_true rfl, Nat.le_of_ble_eq_true rfl⟩) ⟨fun a U g mk q => by obtain ⟨q0, q1, qP, qK, qD⟩ := q; exact ⟨q0, q1, qP, va_K.moved (u := U) (U := U.calling g mk a) (Vm.Alike.refl U.vm) qK, qD⟩, va_recv hKc hPc (ci := 0) (q0 := 0) rfl rfl, fun U hU hW => ⟨rfl, by rw [hU], by rw [hU]; exact hPc, va_K.moved hW.alike hKc, va_Dr hD⟩⟩ rfl rfl hl.1 rfl (lv_room (Nat.le_of_ble_eq_true rfl)) dX1_least_85 ⟨(Nat.zero_le _), (Nat.zero_le _)⟩) hS (fun q _ h => hFc q h) hFc (fun r_85 v9 t H1 locs ht hvm hw hB hz1 hk1 hS => ?_)
          obtain ⟨hP1, hK1, hD1⟩ := hB
          rw [ht] at hP1
          obtain ⟨hP, hD⟩ := jn_app hP hD hk1 hFc hP1 hD1
          clear hPc hKc hP1 hD1 hK1 hFc hk1 hz1 ht hvm
          generalize H1 = H at hP hS ⊢
          have hP : va_P (dC, dI) vwCl (rfX p0 qt qg h0 rt cB cI vn ct 0 0 (gl3 (gl3 gl 0 x1 x2 x3) 3 x4 x5 x6) T ++ (wgW h0 qc qh r cA cI cJ (2 * vn) ct u tw iv hd M)) H := hP
          have hD : va_D A (rfX p0 qt qg h0 rt cB cI vn ct 0 0 (gl3 (gl3 gl 0 x1 x2 x3) 3 x4 x5 x6) T ++ (wgW h0 qc qh r cA cI cJ (2 * vn) ct u tw iv hd M)) := hD
          rw [show r_85 = u from hw]
          have hFc : ∀ q, va_A ([] : va_W) H.size q → A q := fun q h => va_nilA hS hA q h
          refine va_calll (va_runS (As := [.long (M (2 * vn) ct), .long u]) (rest := []) ⟨hx, hb, hml, hown, hts⟩ (c_X1_commonFactor l dC dI H.size (M (2 * vn) ct) u (by omega) hs2) (va_cwS 2 hts gX1_least_X1_commonFactor rfl rfl rfl (by decide +kernel) ⟨Nat.le_of_ble_eq_true rfl, Nat.le_of_ble_eq_true rfl⟩) ⟨fun a U g mk q => by obtain ⟨q0, q1, qP, qK, qD⟩ := q; exact ⟨q0, q1, qP, va_K.moved (u := U) (U := U.calling g mk a) (Vm.Alike.refl U.vm) qK, qD⟩, fun U hU hW => ⟨rfl, by rw [hU], va_nilP, va_K.moved hW.alike (hK.sub (tys' := []) [] rfl), va_nilD⟩⟩ rfl rfl hl.1 rfl (lv_room (Nat.le_of_ble_eq_true rfl)) dX1_least_88 ⟨(Nat.zero_le _), (Nat.zero_le _)⟩) hS (fun q _ h => hFc q h) hFc (fun r_88 v9 t H1 locs ht hvm hw hB hz1 hk1 hS => ?_)
          have hP := va_keep hP hk1
          clear hB hk1 hz1 ht hvm hFc
          generalize H1 = H at hP hS ⊢
          subst hw
          refine lv_lstore (lv' := [(8, .long (lN (Nat.gcd (M (2 * vn) ct).toInt.natAbs u.toInt.natAbs))), (7, .int 2), (0, .ref p0), (1, .int x1), (2, .int x2), (3, .int x3), (4, .int x4), (5, .int x5), (6, .int x6)]) hx hb dX1_least_91 hl (by decide) rfl (fun ls hl => ?_)
          refine lv_aload_n hx hb dX1_least_93 rfl (lv_at hl 2 rfl) ?_
          refine lv_aload_n hx hb dX1_least_94 rfl (lv_at hl 2 rfl) ?_
          refine va_get (D := (dC, dI)) (ci := 1) (v := .ref h0) (C := RX1) (T := TX1) (N := 7) hx hb hts (fun _ h => List.mem_cons_of_mem _ (List.mem_append_left _ (List.mem_append_right _ h))) hown hK hP 0 rfl rfl 2 (by decide) (hts (.fieldLink RX1 21 "RankFinder" "weighing" "LRankFinder$Weighing;") (List.mem_of_getElem? (i := 4) rfl)) (fun _ h9 => h9) rfl dX1_least_95 ?_
          have hPc : va_P (dC, dI) vwCl (wgW h0 qc qh r cA cI cJ (2 * vn) ct u tw iv hd M) H := va_Pr hP
          have hKc := hK.sub (tys' := wgT cA cI cJ) [2, 3, 4] rfl
          have hFc : ∀ q, va_A (wgW h0 qc qh r cA cI cJ (2 * vn) ct u tw iv hd M) H.size q → A q := va_Ar hD hS hA
          refine va_calll (va_runV (As := []) (rest := [.ref p0]) ⟨hx, hb, hml, hown, hts⟩ (c_X0_leastTop l dC dI h0 qc qh r cA cI cJ H.size (2 * vn) ct u tw iv hd M (by omega) (by omega)) (cwV 0 hts gX1_least_X0_leastTop rfl rfl rfl (by decide +kernel) ⟨Nat.le_of_ble_eq_true rfl, Nat.le_of_ble_eq_true rfl⟩) ⟨fun a U g mk q => by obtain ⟨q0, q1, qP, qK, qD⟩ := q; exact ⟨q0, q1, qP, va_K.moved (u := U) (U := U.calling g mk a) (Vm.Alike.refl U.vm) qK, qD⟩, va_recv hKc hPc (ci := 0) (q0 := 0) rfl rfl, fun U hU hW => ⟨rfl, by rw [hU], by rw [hU]; exact hPc, va_K.moved hW.alike hKc, va_Dr hD⟩⟩ rfl rfl hl.1 rfl (lv_room (Nat.le_of_ble_eq_true rfl)) dX1_least_98 ⟨(Nat.zero_le _), (Nat.zero_le _)⟩) hS (fun q _ h => hFc q h) hFc (fun r_98 v9 t H1 locs ht hvm hw hB hz1 hk1 hS => ?_)
          obtain ⟨hP1, hK1, hD1⟩ := hB
          rw [ht] at hP1
          obtain ⟨hP, hD⟩ := jn_app hP hD hk1 hFc hP1 hD1
          clear hPc hKc hP1 hD1 hK1 hFc hk1 hz1 ht hvm
          generalize H1 = H at hP hS ⊢
          have hP : va_P (dC, dI) vwCl (rfX p0 qt qg h0 rt cB cI vn ct 0 0 (gl3 (gl3 gl 0 x1 x2 x3) 3 x4 x5 x6) T ++ (wgW h0 qc qh r cA cI cJ (2 * vn) ct u tw iv hd M)) H := hP
          have hD : va_D A (rfX p0 qt qg h0 rt cB cI vn ct 0 0 (gl3 (gl3 gl 0 x1 x2 x3) 3 x4 x5 x6) T ++ (wgW h0 qc qh r cA cI cJ (2 * vn) ct u tw iv hd M)) := hD
          subst hw
          refine lv_lload hx hb dX1_least_101 (lv_at hl 0 rfl) ?_
          refine lv_ldiv hx hb dX1_least_103 (fun q => by have := (pk_lEQ (b := 0) gl9 (by omega)).mp q; omega) ?_
          refine va_put (D := (dC, dI)) (ci := 1) (v := .long ((M (2 * vn) ct) / (lN (Nat.gcd (M (2 * vn) ct).toInt.natAbs u.toInt.natAbs)))) (ty := .long) (C := RX1) (T := TX1) (N := 7) hx hb hts (fun _ h => List.mem_cons_of_mem _ (List.mem_append_left _ (List.mem_append_right _ h))) tyX1 tyX1_ok nmX1 hown hK hP hD hS 0 rfl rfl 5 (by decide) (hts (.fieldLink RX1 32 "RankFinder" "foundTop" "J") (List.mem_of_getElem? (i := 2) rfl)) (fun _ h9 => h9) rfl (by decide +kernel) rfl rfl (Nat.le_of_ble_eq_true rfl) dX1_least_104 (fun H locs hP hD hS => ?_)
          have hP : va_P (dC, dI) vwCl (rfX p0 qt qg h0 rt cB cI vn ct ((M (2 * vn) ct) / (lN (Nat.gcd (M (2 * vn) ct).toInt.natAbs u.toInt.natAbs))) 0 (gl3 (gl3 gl 0 x1 x2 x3) 3 x4 x5 x6) T ++ (wgW h0 qc qh r cA cI cJ (2 * vn) ct u tw iv hd M)) H := hP
          have hD : va_D A (rfX p0 qt qg h0 rt cB cI vn ct ((M (2 * vn) ct) / (lN (Nat.gcd (M (2 * vn) ct).toInt.natAbs u.toInt.natAbs))) 0 (gl3 (gl3 gl 0 x1 x2 x3) 3 x4 x5 x6) T ++ (wgW h0 qc qh r cA cI cJ (2 * vn) ct u tw iv hd M)) := hD
          refine lv_aload_n hx hb dX1_least_107 rfl (lv_at hl 2 rfl) ?_
          refine lv_aload_n hx hb dX1_least_108 rfl (lv_at hl 2 rfl) ?_
          refine va_get (D := (dC, dI)) (ci := 1) (v := .ref h0) (C := RX1) (T := TX1) (N := 7) hx hb hts (fun _ h => List.mem_cons_of_mem _ (List.mem_append_left _ (List.mem_append_right _ h))) hown hK hP 0 rfl rfl 2 (by decide) (hts (.fieldLink RX1 21 "RankFinder" "weighing" "LRankFinder$Weighing;") (List.mem_of_getElem? (i := 4) rfl)) (fun _ h9 => h9) rfl dX1_least_109 ?_
          have hPc : va_P (dC, dI) vwCl (wgW h0 qc qh r cA cI cJ (2 * vn) ct u tw iv hd M) H := va_Pr hP
          have hKc := hK.sub (tys' := wgT cA cI cJ) [2, 3, 4] rfl
          have hFc : ∀ q, va_A (wgW h0 qc qh r cA cI cJ (2 * vn) ct u tw iv hd M) H.size q → A q := va_Ar hD hS hA
          refine va_calll (va_runV (As := []) (rest := [.ref p0]) ⟨hx, hb, hml, hown, hts⟩ (c_X0_leastBottom l dC dI h0 qc qh r cA cI cJ H.size (2 * vn) ct u tw iv hd M) (cwV 0 hts gX1_least_X0_leastBottom rfl rfl rfl (by decide +kernel) ⟨Nat.le_of_ble_eq_true rfl, Nat.le_of_ble_eq_true rfl⟩) ⟨fun a U g mk q => by obtain ⟨q0, q1, qP, qK, qD⟩ := q; exact ⟨q0, q1, qP, va_K.moved (u := U) (U := U.calling g mk a) (Vm.Alike.refl U.vm) qK, qD⟩, va_recv hKc hPc (ci := 0) (q0 := 0) rfl rfl, fun U hU hW => ⟨rfl, by rw [hU], by rw [hU]; exact hPc, va_K.moved hW.alike hKc, va_Dr hD⟩⟩ rfl rfl hl.1 rfl (lv_room (Nat.le_of_ble_eq_true rfl)) dX1_least_112 ⟨(Nat.zero_le _), (Nat.zero_le _)⟩) hS (fun q _ h => hFc q h) hFc (fun r_112 v9 t H1 locs ht hvm hw hB hz1 hk1 hS => ?_)
          obtain ⟨hP1, hK1, hD1⟩ := hB
          rw [ht] at hP1
          obtain ⟨hP, hD⟩ := jn_app hP hD hk1 hFc hP1 hD1
          clear hPc hKc hP1 hD1 hK1 hFc hk1 hz1 ht hvm
          generalize H1 = H at hP hS ⊢
          have hP : va_P (dC, dI) vwCl (rfX p0 qt qg h0 rt cB cI vn ct ((M (2 * vn) ct) / (lN (Nat.gcd (M (2 * vn) ct).toInt.natAbs u.toInt.natAbs))) 0 (gl3 (gl3 gl 0 x1 x2 x3) 3 x4 x5 x6) T ++ (wgW h0 qc qh r cA cI cJ (2 * vn) ct u tw iv hd M)) H := hP
          have hD : va_D A (rfX p0 qt qg h0 rt cB cI vn ct ((M (2 * vn) ct) / (lN (Nat.gcd (M (2 * vn) ct).toInt.natAbs u.toInt.natAbs))) 0 (gl3 (gl3 gl 0 x1 x2 x3) 3 x4 x5 x6) T ++ (wgW h0 qc qh r cA cI cJ (2 * vn) ct u tw iv hd M)) := hD
          rw [show r_112 = u from hw]
          refine lv_lload hx hb dX1_least_115 (lv_at hl 0 rfl) ?_
          refine lv_ldiv hx hb dX1_least_117 (fun q => by have := (pk_lEQ (b := 0) gl9 (by omega)).mp q; omega) ?_
          refine va_put (D := (dC, dI)) (ci := 1) (v := .long (u / (lN (Nat.gcd (M (2 * vn) ct).toInt.natAbs u.toInt.natAbs)))) (ty := .long) (C := RX1) (T := TX1) (N := 7) hx hb hts (fun _ h => List.mem_cons_of_mem _ (List.mem_append_left _ (List.mem_append_right _ h))) tyX1 tyX1_ok nmX1 hown hK hP hD hS 0 rfl rfl 6 (by decide) (hts (.fieldLink RX1 36 "RankFinder" "foundBottom" "J") (List.mem_of_getElem? (i := 3) rfl)) (fun _ h9 => h9) rfl (by decide +kernel) rfl rfl (Nat.le_of_ble_eq_true rfl) dX1_least_118 (fun H locs hP hD hS => ?_)
          have hP : va_P (dC, dI) vwCl (rfX p0 qt qg h0 rt cB cI vn ct ((M (2 * vn) ct) / (lN (Nat.gcd (M (2 * vn) ct).toInt.natAbs u.toInt.natAbs))) (u / (lN (Nat.gcd (M (2 * vn) ct).toInt.natAbs u.toInt.natAbs))) (gl3 (gl3 gl 0 x1 x2 x3) 3 x4 x5 x6) T ++ (wgW h0 qc qh r cA cI cJ (2 * vn) ct u tw iv hd M)) H := hP
          have hD : va_D A (rfX p0 qt qg h0 rt cB cI vn ct ((M (2 * vn) ct) / (lN (Nat.gcd (M (2 * vn) ct).toInt.natAbs u.toInt.natAbs))) (u / (lN (Nat.gcd (M (2 * vn) ct).toInt.natAbs u.toInt.natAbs))) (gl3 (gl3 gl 0 x1 x2 x3) 3 x4 x5 x6) T ++ (wgW h0 qc qh r cA cI cJ (2 * vn) ct u tw iv hd M)) := hD
          refine lv_iload hx hb dX1_least_121 (lv_at hl 1 rfl) ?_
          exact W.iret (v := 2) hx hb hr (fun t ht hW => ⟨⟨2, ((M (2 * vn) ct) / (lN (Nat.gcd (M (2 * vn) ct).toInt.natAbs u.toInt.natAbs)), u / (lN (Nat.gcd (M (2 * vn) ct).toInt.natAbs u.toInt.natAbs)), (gl3 (gl3 gl 0 x1 x2 x3) 3 x4 x5 x6), 2 * vn, ct, (M, hd, u, tw, iv, h, R)), rfl, Or.inr ⟨⟨h1, h2⟩, Or.inr (Or.inl ⟨rfl, _, hq, gv, gp, gc⟩)⟩, by rw [ht]; exact hP, va_K.moved hW.alike hK, hD⟩, hS.F ht⟩) hS.2.2 dX1_least_123
      · refine lv_istore (lv' := [(7, .int 1), (0, .ref p0), (1, .int x1), (2, .int x2), (3, .int x3), (4, .int x4), (5, .int x5), (6, .int x6)]) hx hb dX1_least_56 hl (by decide) rfl (fun ls hl => ?_)
        refine lv_aload_n hx hb dX1_least_58 rfl (lv_at hl 1 rfl) ?_
        refine lv_lconst (v := 0) hx hb dX1_least_59 (by decide) ?_
        refine va_put (D := (dC, dI)) (ci := 1) (v := .long 0) (ty := .long) (C := RX1) (T := TX1) (N := 7) hx hb hts (fun _ h => List.mem_cons_of_mem _ (List.mem_append_left _ (List.mem_append_right _ h))) tyX1 tyX1_ok nmX1 hown hK hP hD hS 0 rfl rfl 5 (by decide) (hts (.fieldLink RX1 32 "RankFinder" "foundTop" "J") (List.mem_of_getElem? (i := 2) rfl)) (fun _ h9 => h9) rfl (by decide +kernel) rfl rfl (Nat.le_of_ble_eq_true rfl) dX1_least_60 (fun H locs hP hD hS => ?_)
        have hP : va_P (dC, dI) vwCl (rfX p0 qt qg h0 rt cB cI vn ct 0 fb (gl3 (gl3 gl 0 x1 x2 x3) 3 x4 x5 x6) T ++ (wgW h0 qc qh r cA cI cJ (2 * vn) ct u tw iv hd M)) H := hP
        have hD : va_D A (rfX p0 qt qg h0 rt cB cI vn ct 0 fb (gl3 (gl3 gl 0 x1 x2 x3) 3 x4 x5 x6) T ++ (wgW h0 qc qh r cA cI cJ (2 * vn) ct u tw iv hd M)) := hD
        refine lv_aload_n hx hb dX1_least_63 rfl (lv_at hl 1 rfl) ?_
        refine lv_lconst (v := 0) hx hb dX1_least_64 (by decide) ?_
        refine va_put (D := (dC, dI)) (ci := 1) (v := .long 0) (ty := .long) (C := RX1) (T := TX1) (N := 7) hx hb hts (fun _ h => List.mem_cons_of_mem _ (List.mem_append_left _ (List.mem_append_right _ h))) tyX1 tyX1_ok nmX1 hown hK hP hD hS 0 rfl rfl 6 (by decide) (hts (.fieldLink RX1 36 "RankFinder" "foundBottom" "J") (List.mem_of_getElem? (i := 3) rfl)) (fun _ h9 => h9) rfl (by decide +kernel) rfl rfl (Nat.le_of_ble_eq_true rfl) dX1_least_65 (fun H locs hP hD hS => ?_)
        have hP : va_P (dC, dI) vwCl (rfX p0 qt qg h0 rt cB cI vn ct 0 0 (gl3 (gl3 gl 0 x1 x2 x3) 3 x4 x5 x6) T ++ (wgW h0 qc qh r cA cI cJ (2 * vn) ct u tw iv hd M)) H := hP
        have hD : va_D A (rfX p0 qt qg h0 rt cB cI vn ct 0 0 (gl3 (gl3 gl 0 x1 x2 x3) 3 x4 x5 x6) T ++ (wgW h0 qc qh r cA cI cJ (2 * vn) ct u tw iv hd M)) := hD
        refine lv_iload hx hb dX1_least_68 (lv_at hl 0 rfl) ?_
        refine lv_iconst (v := nI 2) hx hb dX1_least_70 (by decide) ?_
        refine lv_icmp_ne (tgt := 121) hx hb dX1_least_71 (by decide) (fun c1 => ?_) (fun c1 => ?_)
        · refine lv_iload hx hb dX1_least_121 (lv_at hl 0 rfl) ?_
          exact W.iret (v := 1) hx hb hr (fun t ht hW => ⟨⟨1, (0, 0, (gl3 (gl3 gl 0 x1 x2 x3) 3 x4 x5 x6), 2 * vn, ct, (M, hd, u, tw, iv, h, R)), rfl, Or.inr ⟨⟨h1, h2⟩, Or.inr (Or.inr ⟨rfl, hq, rfl, rfl⟩)⟩, by rw [ht]; exact hP, va_K.moved hW.alike hK, hD⟩, hS.F ht⟩) hS.2.2 dX1_least_123
        · exact absurd c1 (by decide)
    · refine lv_if_ne (tgt := 27) hx hb dX1_least_22 (by decide) (fun c => absurd rfl c) (fun _ => ?_)
      refine lv_iconst (v := (-1)) hx hb dX1_least_25 (by decide) ?_
      exact W.iret (v := (-1)) hx hb hr (fun t ht hW => ⟨⟨(-1), (ft, fb, gl, me, nw, (M, hd, u, tw, iv, (fun _ => none), un)), rfl, Or.inl ⟨rfl, fun q => h2 q.2, rfl, rfl⟩, by rw [ht]; exact hP, va_K.moved hW.alike hK, hD⟩, hS.F ht⟩) hS.2.2 dX1_least_26
  · refine lv_if_eq (tgt := 25) hx hb dX1_least_8 (by decide) (fun _ => ?_) (fun c => absurd rfl c)
    refine lv_iconst (v := (-1)) hx hb dX1_least_25 (by decide) ?_
    exact W.iret (v := (-1)) hx hb hr (fun t ht hW => ⟨⟨(-1), (ft, fb, gl, me, nw, (M, hd, u, tw, iv, (fun _ => none), un)), rfl, Or.inl ⟨rfl, fun q => h1 q.1, rfl, rfl⟩, by rw [ht]; exact hP, va_K.moved hW.alike hK, hD⟩, hS.F ht⟩) hS.2.2 dX1_least_26
set_option maxHeartbeats 1000000 in
set_option maxRecDepth 100000 in
/-- ranks(..) -/
theorem c_X1_ranks (l : Launch) (dC : Nat → ClassId) (dI : Nat → Nat → Nat) (sz : Nat) (p0 qt qg h0 : Nat) (rt : Nat → Nat) (cB cI cA cJ : ClassId) (qc qh : Nat) (r : Nat → Nat) (vn ct : Nat) (ft fb : Int64) (gl : Nat → Int32) (T : Nat → Nat → Int32) (me nw : Nat) (u : Int64) (tw : Int32) (iv : Int64) (hd : Nat → Int32) (M : Nat → Nat → Int64) (r0 r1 r2 sv : Int32) (hv1 : 1 ≤ vn) (hv3 : vn ≤ 3) (hc : ct ≤ 8) (hT : okT T ct) : Met l yX1_ranks wsX1_ranks ({ frames := 6, cells := 0, slots := 0, locals := 166 }) (va_Pc [.ref p0, .int r0, .int r1, .int r2, .int sv] (fun U => U.heap.size = sz ∧ va_P (dC, dI) vwCl (rfX p0 qt qg h0 rt cB cI vn ct ft fb gl T ++ (wgW h0 qc qh r cA cI cJ me nw u tw iv hd M)) U.heap ∧ va_K (dC, dI) vwCl ((cB, .array .int) :: (cI, .int) :: wgT cA cI cJ) U ∧ va_D (fun _ => True) (rfX p0 qt qg h0 rt cB cI vn ct ft fb gl T ++ (wgW h0 qc qh r cA cI cJ me nw u tw iv hd M)))) (va_Qi (fun (x : Int32) (v : (Nat → Int32) × Nat × Nat × wgS) => (x = 0 ∧ ¬ ((inR r0 (nI 999) ∧ inR r1 (nI 999) ∧ inR r2 (nI 999)) ∧ inR sv (nI 999))) ∨ (((inR r0 (nI 999) ∧ inR r1 (nI 999) ∧ inR r2 (nI 999)) ∧ inR sv (nI 999)) ∧ ((x = 1 ∧ Cer ct (2 * vn) (CG T (gl3 (gl3 gl 0 r0 r1 r2) 3 0 0 0) vn ct)) ∨ (x = 0 ∧ Nol ct (2 * vn) (CG T (gl3 (gl3 gl 0 r0 r1 r2) 3 0 0 0) vn ct)) ∨ ∃ val, Fou ct (2 * vn) (CG T (gl3 (gl3 gl 0 r0 r1 r2) 3 0 0 0) vn ct) val ∧ ((x = 0 ∧ val + (sv.toInt : Rat) < 0) ∨ (0 ≤ val + (sv.toInt : Rat) ∧ ((x = 0 ∧ Cer ct (2 * vn) (CG T (gl3 (gl3 (gl3 gl 0 r0 r1 r2) 3 0 0 0) 3 (-r0) (-r1) (-r2)) vn ct)) ∨ (x = 0 ∧ Nol ct (2 * vn) (CG T (gl3 (gl3 (gl3 gl 0 r0 r1 r2) 3 0 0 0) 3 (-r0) (-r1) (-r2)) vn ct)) ∨ ∃ val2, Fou ct (2 * vn) (CG T (gl3 (gl3 (gl3 gl 0 r0 r1 r2) 3 0 0 0) 3 (-r0) (-r1) (-r2)) vn ct) val2 ∧ ((x = 0 ∧ val2 < 1) ∨ (x = 1 ∧ 1 ≤ val2)))))))) (fun v t => va_P (dC, dI) vwCl (rfX p0 qt qg h0 rt cB cI vn ct ft fb v.1 T ++ (wgW h0 qc qh r cA cI cJ v.2.1 v.2.2.1 v.2.2.2.2.2.1 v.2.2.2.2.2.2.1 v.2.2.2.2.2.2.2.1 v.2.2.2.2.1 v.2.2.2.1)) t.heap ∧ va_K (dC, dI) vwCl ((cB, .array .int) :: (cI, .int) :: wgT cA cI cJ) t ∧ va_D (va_A (rfX p0 qt qg h0 rt cB cI vn ct ft fb gl T ++ (wgW h0 qc qh r cA cI cJ me nw u tw iv hd M)) sz) (rfX p0 qt qg h0 rt cB cI vn ct ft fb v.1 T ++ (wgW h0 qc qh r cA cI cJ v.2.1 v.2.2.1 v.2.2.2.2.2.1 v.2.2.2.2.2.2.1 v.2.2.2.2.2.2.2.1 v.2.2.2.2.1 v.2.2.2.1))) (va_A (rfX p0 qt qg h0 rt cB cI vn ct ft fb gl T ++ (wgW h0 qc qh r cA cI cJ me nw u tw iv hd M)) sz)) 0 0 (va_A (rfX p0 qt qg h0 rt cB cI vn ct ft fb gl T ++ (wgW h0 qc qh r cA cI cJ me nw u tw iv hd M)) sz) := by
  refine Met.ofW (cc := cX1_ranks) (maxL := 6) (ret := (some .boolean)) (by decide) rfl ?_
  intro p e s m args below meth c s₁ B hml hv
  obtain ⟨rfl, hsz, hP, hK, hD0⟩ := hv
  have hx := B.exec
  have hb := B.bytes
  have hr := B.returns
  have hts := atoms_spec (ws := wsX1_ranks) B.pre
  have hown : s.vm.findClass RX1 = some m.cls := findClass_of_methodNamed B.named
  subst hsz
  have hD := hD0.self (sz := s.heap.size)
  clear hD0
  generalize hAe : va_A (rfX p0 qt qg h0 rt cB cI vn ct ft fb gl T ++ (wgW h0 qc qh r cA cI cJ me nw u tw iv hd M)) s.heap.size = A at hD ⊢
  have hA : ∀ q : Nat, s.heap.size ≤ q → A q := fun q h => by rw [← hAe]; exact Or.inr h
  have hl := lv_entry ([.ref p0, .int r0, .int r1, .int r2, .int sv]) (n := 6) (Nat.le_of_ble_eq_true rfl)
  rw [lg_entry_eq]
  generalize (lg_sl ([.ref p0, .int r0, .int r1, .int r2, .int sv]) ++ List.replicate (6 - (lg_sl ([.ref p0, .int r0, .int r1, .int r2, .int sv])).length) Slot.unset).toArray = ls at hl ⊢
  have hl : lv_has ls 6 [(0, .ref p0), (1, .int r0), (2, .int r1), (3, .int r2), (4, .int sv)] := hl
  have hP : va_P (dC, dI) vwCl (rfX p0 qt qg h0 rt cB cI vn ct ft fb gl T ++ (wgW h0 qc qh r cA cI cJ me nw u tw iv hd M)) s.heap := hP
  obtain ⟨H, hH⟩ : ∃ H, H = s.heap := ⟨_, rfl⟩
  have hS : va_S A s.heap H [] := by rw [hH]; exact va_S.rf
  rw [← hH] at hP ⊢
  refine lv_iload_n hx hb dX1_ranks_0 rfl (lv_at hl 1 rfl) ?_
  refine lv_iload_n hx hb dX1_ranks_1 rfl (lv_at hl 2 rfl) ?_
  refine lv_iload_n hx hb dX1_ranks_2 rfl (lv_at hl 3 rfl) ?_
  refine lv_sipush (v := nI 999) hx hb dX1_ranks_3 (by decide) ?_
  have hFc : ∀ q, va_A ([] : va_W) H.size q → A q := fun q h => va_nilA hS hA q h
  refine va_calli (va_runS (As := [.int r0, .int r1, .int r2, .int (nI 999)]) (rest := []) ⟨hx, hb, hml, hown, hts⟩ (c_X1_areWithin l dC dI H.size r0 r1 r2 (nI 999)) (va_cwS 4 hts gX1_ranks_X1_areWithin rfl rfl rfl (by decide +kernel) ⟨Nat.le_of_ble_eq_true rfl, Nat.le_of_ble_eq_true rfl⟩) ⟨fun a U g mk q => by obtain ⟨q0, q1, qP, qK, qD⟩ := q; exact ⟨q0, q1, qP, va_K.moved (u := U) (U := U.calling g mk a) (Vm.Alike.refl U.vm) qK, qD⟩, fun U hU hW => ⟨rfl, by rw [hU], va_nilP, va_K.moved hW.alike (hK.sub (tys' := []) [] rfl), va_nilD⟩⟩ rfl rfl hl.1 rfl (lv_room (Nat.le_of_ble_eq_true rfl)) dX1_ranks_6 ⟨(Nat.zero_le _), (Nat.zero_le _)⟩) hS (fun q _ h => hFc q h) hFc (fun r_6 v9 t H1 locs ht hvm hw hB hz1 hk1 hS => ?_)
  have hP := va_keep hP hk1
  clear hB hk1 hz1 ht hvm hFc
  generalize H1 = H at hP hS ⊢
  rcases hw with ⟨rfl, h1⟩ | ⟨rfl, h1⟩
  · refine lv_if_eq (tgt := 23) hx hb dX1_ranks_9 (by decide) (fun c => absurd c (by decide)) (fun _ => ?_)
    refine lv_iload hx hb dX1_ranks_12 (lv_at hl 4 rfl) ?_
    refine lv_sipush (v := nI 999) hx hb dX1_ranks_14 (by decide) ?_
    have hFc : ∀ q, va_A ([] : va_W) H.size q → A q := fun q h => va_nilA hS hA q h
    refine va_calli (va_runS (As := [.int sv, .int (nI 999)]) (rest := []) ⟨hx, hb, hml, hown, hts⟩ (c_X1_isWithin l dC dI H.size sv (nI 999)) (va_cwS 2 hts gX1_ranks_X1_isWithin rfl rfl rfl (by decide +kernel) ⟨Nat.le_of_ble_eq_true rfl, Nat.le_of_ble_eq_true rfl⟩) ⟨fun a U g mk q => by obtain ⟨q0, q1, qP, qK, qD⟩ := q; exact ⟨q0, q1, qP, va_K.moved (u := U) (U := U.calling g mk a) (Vm.Alike.refl U.vm) qK, qD⟩, fun U hU hW => ⟨rfl, by rw [hU], va_nilP, va_K.moved hW.alike (hK.sub (tys' := []) [] rfl), va_nilD⟩⟩ rfl rfl hl.1 rfl (lv_room (Nat.le_of_ble_eq_true rfl)) dX1_ranks_17 ⟨(Nat.zero_le _), (Nat.zero_le _)⟩) hS (fun q _ h => hFc q h) hFc (fun r_17 v9 t H1 locs ht hvm hw hB hz1 hk1 hS => ?_)
    have hP := va_keep hP hk1
    clear hB hk1 hz1 ht hvm hFc
    generalize H1 = H at hP hS ⊢
    rcases hw with ⟨rfl, h2⟩ | ⟨rfl, h2⟩
    · refine lv_if_ne (tgt := 25) hx hb dX1_ranks_20 (by decide) (fun _ => ?_) (fun c => absurd c (by decide))
      have hrr := h1
      have hss := h2
      rw [inR_int (by omega), inR_int (by omega), inR_int (by omega)] at hrr
      rw [inR_int (by omega)] at hss
      have hg : okG (gl3 (gl3 gl 0 r0 r1 r2) 3 0 0 0) := okG_3 (fun y hy => by
        rcases hy with e | e | e | e | e | e <;> subst e <;> first | omega | decide)
      refine lv_aload_n hx hb dX1_ranks_25 rfl (lv_at hl 0 rfl) ?_
      refine va_get (D := (dC, dI)) (ci := 1) (v := .ref qg) (C := RX1) (T := TX1) (N := 7) hx hb hts (fun _ h => List.mem_cons_of_mem _ (List.mem_append_left _ (List.mem_append_right _ h))) hown hK hP 0 rfl rfl 1 (by decide) (hts (.fieldLink RX1 14 "RankFinder" "goal" "[I") (List.mem_of_getElem? (i := 1) rfl)) (fun _ h9 => h9) rfl dX1_ranks_26 ?_
      refine lv_iconst (v := nI 0) hx hb dX1_ranks_29 (by decide) ?_
      refine lv_iload_n hx hb dX1_ranks_30 rfl (lv_at hl 1 rfl) ?_
      refine lv_iload_n hx hb dX1_ranks_31 rfl (lv_at hl 2 rfl) ?_
      refine lv_iload_n hx hb dX1_ranks_32 rfl (lv_at hl 3 rfl) ?_
      have hk9 : (rfX p0 qt qg h0 rt cB cI vn ct ft fb gl T ++ (wgW h0 qc qh r cA cI cJ me nw u tw iv hd M))[2]? = some (qg, .inl (cI, 6, .inl gl)) := rfl
      have hFc := va_oneA hD hk9 hS hA
      refine va_callv (va_runS (As := [.ref qg, .int (nI 0), .int r0, .int r1, .int r2]) (rest := []) ⟨hx, hb, hml, hown, hts⟩ (c_X1_fill l dC dI H.size cI qg 6 0 gl r0 r1 r2 (by omega) (by omega)) (va_cwS 5 hts gX1_ranks_X1_fill rfl rfl rfl (by decide +kernel) ⟨Nat.le_of_ble_eq_true rfl, Nat.le_of_ble_eq_true rfl⟩) ⟨fun a U g mk q => by obtain ⟨q0, q1, qP, qK, qD⟩ := q; exact ⟨q0, q1, qP, va_K.moved (u := U) (U := U.calling g mk a) (Vm.Alike.refl U.vm) qK, qD⟩, fun U hU hW => ⟨rfl, by rw [hU], by rw [hU]; exact va_oneP hP hk9, va_K.moved hW.alike (hK.sub [1] rfl), va_oneD trivial⟩⟩ rfl rfl hl.1 rfl (lv_room (Nat.le_of_ble_eq_true rfl)) dX1_ranks_33 ⟨(Nat.zero_le _), (Nat.zero_le _)⟩) hS (fun q _ h => hFc q h) hFc (fun v9 t H1 locs ht hvm hw hB hz1 hk1 hS => ?_)
      obtain ⟨hP1, hK1, hD1⟩ := hB
      rw [ht] at hP1
      obtain ⟨hP, hD⟩ := jn_at hP hD hk9 hk1 hP1
      clear hP1 hD1 hK1 hFc hk1 hz1 ht hvm hk9
      generalize H1 = H at hP hS ⊢
      have hP : va_P (dC, dI) vwCl (rfX p0 qt qg h0 rt cB cI vn ct ft fb (gl3 gl 0 r0 r1 r2) T ++ (wgW h0 qc qh r cA cI cJ me nw u tw iv hd M)) H := hP
      have hD : va_D A (rfX p0 qt qg h0 rt cB cI vn ct ft fb (gl3 gl 0 r0 r1 r2) T ++ (wgW h0 qc qh r cA cI cJ me nw u tw iv hd M)) := hD
      refine lv_aload_n hx hb dX1_ranks_36 rfl (lv_at hl 0 rfl) ?_
      refine va_get (D := (dC, dI)) (ci := 1) (v := .ref qg) (C := RX1) (T := TX1) (N := 7) hx hb hts (fun _ h => List.mem_cons_of_mem _ (List.mem_append_left _ (List.mem_append_right _ h))) hown hK hP 0 rfl rfl 1 (by decide) (hts (.fieldLink RX1 14 "RankFinder" "goal" "[I") (List.mem_of_getElem? (i := 1) rfl)) (fun _ h9 => h9) rfl dX1_ranks_37 ?_
      refine lv_iconst (v := nI 3) hx hb dX1_ranks_40 (by decide) ?_
      refine lv_iconst (v := nI 0) hx hb dX1_ranks_41 (by decide) ?_
      refine lv_iconst (v := nI 0) hx hb dX1_ranks_42 (by decide) ?_
      refine lv_iconst (v := nI 0) hx hb dX1_ranks_43 (by decide) ?_
      have hk9 : (rfX p0 qt qg h0 rt cB cI vn ct ft fb (gl3 gl 0 r0 r1 r2) T ++ (wgW h0 qc qh r cA cI cJ me nw u tw iv hd M))[2]? = some (qg, .inl (cI, 6, .inl (gl3 gl 0 r0 r1 r2))) := rfl
      have hFc := va_oneA hD hk9 hS hA
      refine va_callv (va_runS (As := [.ref qg, .int (nI 3), .int (nI 0), .int (nI 0), .int (nI 0)]) (rest := []) ⟨hx, hb, hml, hown, hts⟩ (c_X1_fill l dC dI H.size cI qg 6 3 (gl3 gl 0 r0 r1 r2) (nI 0) (nI 0) (nI 0) (by omega) (by omega)) (va_cwS 5 hts gX1_ranks_X1_fill rfl rfl rfl (by decide +kernel) ⟨Nat.le_of_ble_eq_true rfl, Nat.le_of_ble_eq_true rfl⟩) ⟨fun a U g mk q => by obtain ⟨q0, q1, qP, qK, qD⟩ := q; exact ⟨q0, q1, qP, va_K.moved (u := U) (U := U.calling g mk a) (Vm.Alike.refl U.vm) qK, qD⟩, fun U hU hW => ⟨rfl, by rw [hU], by rw [hU]; exact va_oneP hP hk9, va_K.moved hW.alike (hK.sub [1] rfl), va_oneD trivial⟩⟩ rfl rfl hl.1 rfl (lv_room (Nat.le_of_ble_eq_true rfl)) dX1_ranks_44 ⟨(Nat.zero_le _), (Nat.zero_le _)⟩) hS (fun q _ h => hFc q h) hFc (fun v9 t H1 locs ht hvm hw hB hz1 hk1 hS => ?_)
      obtain ⟨hP1, hK1, hD1⟩ := hB
      rw [ht] at hP1
      obtain ⟨hP, hD⟩ := jn_at hP hD hk9 hk1 hP1
      clear hP1 hD1 hK1 hFc hk1 hz1 ht hvm hk9
      generalize H1 = H at hP hS ⊢
      have hP : va_P (dC, dI) vwCl (rfX p0 qt qg h0 rt cB cI vn ct ft fb (gl3 (gl3 gl 0 r0 r1 r2) 3 (nI 0) (nI 0) (nI 0)) T ++ (wgW h0 qc qh r cA cI cJ me nw u tw iv hd M)) H := hP
      have hD : va_D A (rfX p0 qt qg h0 rt cB cI vn ct ft fb (gl3 (gl3 gl 0 r0 r1 r2) 3 (nI 0) (nI 0) (nI 0)) T ++ (wgW h0 qc qh r cA cI cJ me nw u tw iv hd M)) := hD
      have hP : va_P (dC, dI) vwCl (rfX p0 qt qg h0 rt cB cI vn ct ft fb (gl3 (gl3 gl 0 r0 r1 r2) 3 0 0 0) T ++ (wgW h0 qc qh r cA cI cJ me nw u tw iv hd M)) H := hP
      have hD : va_D A (rfX p0 qt qg h0 rt cB cI vn ct ft fb (gl3 (gl3 gl 0 r0 r1 r2) 3 0 0 0) T ++ (wgW h0 qc qh r cA cI cJ me nw u tw iv hd M)) := hD
      refine lv_aload_n hx hb dX1_ranks_47 rfl (lv_at hl 0 rfl) ?_
      have hFc : ∀ q, va_A (rfX p0 qt qg h0 rt cB cI vn ct ft fb (gl3 (gl3 gl 0 r0 r1 r2) 3 0 0 0) T ++ (wgW h0 qc qh r cA cI cJ me nw u tw iv hd M)) H.size q → A q := va_fall hD hS hA
      refine va_calli (va_runV (As := []) (rest := []) ⟨hx, hb, hml, hown, hts⟩ (c_X1_seekLeast l dC dI H.size p0 qt qg h0 rt cB cI cA cJ qc qh r vn ct ft fb (gl3 (gl3 gl 0 r0 r1 r2) 3 0 0 0) T me nw u tw iv hd M hv1 hv3 hc hT hg) (cwV 0 hts gX1_ranks_X1_seekLeast rfl rfl rfl (by decide +kernel) ⟨Nat.le_of_ble_eq_true rfl, Nat.le_of_ble_eq_true rfl⟩) ⟨fun a U g mk q => by obtain ⟨q0, q1, qP, qK, qD⟩ := q; exact ⟨q0, q1, qP, va_K.moved (u := U) (U := U.calling g mk a) (Vm.Alike.refl U.vm) qK, qD⟩, va_recv hK hP (ci := 1) (q0 := 0) rfl rfl, fun U hU hW => ⟨rfl, by rw [hU], by rw [hU]; exact hP, va_K.moved hW.alike hK, hD.weaken (fun _ _ _ _ => trivial)⟩⟩ rfl rfl hl.1 rfl (lv_room (Nat.le_of_ble_eq_true rfl)) dX1_ranks_48 ⟨(Nat.zero_le _), (Nat.zero_le _)⟩) hS (fun q _ h => hFc q h) hFc (fun r_48 v9 t H1 locs ht hvm hw hB hz1 hk1 hS => ?_)
      obtain ⟨hP1, hK1, hD1⟩ := hB
      rw [ht] at hP1
      clear hP hD hK
      have hK := va_K.moved hvm.symm hK1
      have hP := hP1
      have hD := hD1.weaken (B := A) (fun _ q _ h => hFc q.1 h)
      clear hP1 hD1 hK1 hFc hk1 hz1 ht hvm
      generalize H1 = H at hP hS ⊢
      obtain ⟨M, hd, u, tw, iv, h, R⟩ := v9
      have hP : va_P (dC, dI) vwCl (rfX p0 qt qg h0 rt cB cI vn ct ft fb (gl3 (gl3 gl 0 r0 r1 r2) 3 0 0 0) T ++ (wgW h0 qc qh r cA cI cJ (2 * vn) ct u tw iv hd M)) H := hP
      have hD : va_D A (rfX p0 qt qg h0 rt cB cI vn ct ft fb (gl3 (gl3 gl 0 r0 r1 r2) 3 0 0 0) T ++ (wgW h0 qc qh r cA cI cJ (2 * vn) ct u tw iv hd M)) := hD
      rcases hw with ⟨rfl, hq⟩ | ⟨rfl, hq, hG⟩ | ⟨rfl, hq⟩
      · refine lv_istore (lv' := [(5, .int 0), (0, .ref p0), (1, .int r0), (2, .int r1), (3, .int r2), (4, .int sv)]) hx hb dX1_ranks_51 hl (by decide) rfl (fun ls hl => ?_)
        refine lv_iload hx hb dX1_ranks_53 (lv_at hl 0 rfl) ?_
        refine lv_if_ne (tgt := 60) hx hb dX1_ranks_55 (by decide) (fun c => absurd rfl c) (fun _ => ?_)
        refine lv_iconst (v := nI 1) hx hb dX1_ranks_58 (by decide) ?_
        exact W.zret (v := (nI 1)) hx hb hr (by rfl) (fun t ht hW => ⟨⟨(nI 1), ((gl3 (gl3 gl 0 r0 r1 r2) 3 0 0 0), 2 * vn, ct, (M, hd, u, tw, iv, h, R)), rfl, Or.inr ⟨⟨h1, h2⟩, Or.inl ⟨rfl, hq⟩⟩, by rw [ht]; exact hP, va_K.moved hW.alike hK, hD⟩, hS.F ht⟩) hS.2.2 dX1_ranks_59
      · refine lv_istore (lv' := [(5, .int 2), (0, .ref p0), (1, .int r0), (2, .int r1), (3, .int r2), (4, .int sv)]) hx hb dX1_ranks_51 hl (by decide) rfl (fun ls hl => ?_)
        refine lv_iload hx hb dX1_ranks_53 (lv_at hl 0 rfl) ?_
        refine lv_if_ne (tgt := 60) hx hb dX1_ranks_55 (by decide) (fun _ => ?_) (fun c => absurd c (by decide))
        refine lv_iload hx hb dX1_ranks_60 (lv_at hl 0 rfl) ?_
        refine lv_iconst (v := nI 1) hx hb dX1_ranks_62 (by decide) ?_
        refine lv_icmp_eq (tgt := 90) hx hb dX1_ranks_63 (by decide) (fun c1 => ?_) (fun c1 => ?_)
        · exact absurd c1 (by decide)
        · have hG : Gd (2 * vn) ct (CG T (gl3 (gl3 gl 0 r0 r1 r2) 3 0 0 0) vn ct) M hd u tw iv h R := hG
          obtain ⟨hs1, hs2, hs3⟩ := Gd_small hT hg hv1 hv3 hG
          have hval := hG.2.2.2.1 (2 * vn) ct (Nat.le_refl _) (Nat.le_refl _)
          have huq : (0 : Rat) < (u.toInt : Rat) := Rat.intCast_lt_intCast.mpr hs2
          refine lv_aload_n hx hb dX1_ranks_66 rfl (lv_at hl 1 rfl) ?_
          refine va_get (D := (dC, dI)) (ci := 1) (v := .ref h0) (C := RX1) (T := TX1) (N := 7) hx hb hts (fun _ h => List.mem_cons_of_mem _ (List.mem_append_left _ (List.mem_append_right _ h))) hown hK hP 0 rfl rfl 2 (by decide) (hts (.fieldLink RX1 21 "RankFinder" "weighing" "LRankFinder$Weighing;") (List.mem_of_getElem? (i := 2) rfl)) (fun _ h9 => h9) rfl dX1_ranks_67 ?_
          have hPc : va_P (dC, dI) vwCl (wgW h0 qc qh r cA cI cJ (2 * vn) ct u tw iv hd M) H := va_Pr hP
          have hKc := hK.sub (tys' := wgT cA cI cJ) [2, 3, 4] rfl
          have hFc : ∀ q, va_A (wgW h0 qc qh r cA cI cJ (2 * vn) ct u tw iv hd M) H.size q → A q := va_Ar hD hS hA
          refine va_calll (va_runV (As := []) (rest := []) ⟨hx, hb, hml, hown, hts⟩ (c_X0_leastTop l dC dI h0 qc qh r cA cI cJ H.size (2 * vn) ct u tw iv hd M (by omega) (by omega)) (cwV 0 hts gX1_ranks_X0_leastTop rfl rfl rfl (by decide +kernel) ⟨Nat.le_of_ble_eq_true rfl, Nat.le_of_ble_eq_true rfl⟩) ⟨fun a U g mk q => by obtain ⟨q0, q1, qP, qK, qD⟩ := q; exact ⟨q0, q1, qP, va_K.moved (u := U) (U := U.calling g mk a) (Vm.Alike.refl U.vm) qK, qD⟩, va_recv hKc hPc (ci := 0) (q0 := 0) rfl rfl, fun U hU hW => ⟨rfl, by rw [hU], by rw [hU]; exact hPc, va_K.moved hW.alike hKc, va_Dr hD⟩⟩ rfl rfl hl.1 rfl (lv_room (Nat.le_of_ble_eq_true rfl)) dX1_ranks_70 ⟨(Nat.zero_le _), (Nat.zero_le _)⟩) hS (fun q _ h => hFc q h) hFc (fun r_70 v9 t H1 locs ht hvm hw hB hz1 hk1 hS => ?_)
          obtain ⟨hP1, hK1, hD1⟩ := hB
          rw [ht] at hP1
          obtain ⟨hP, hD⟩ := jn_app hP hD hk1 hFc hP1 hD1
          clear hPc hKc hP1 hD1 hK1 hFc hk1 hz1 ht hvm
          generalize H1 = H at hP hS ⊢
          have hP : va_P (dC, dI) vwCl (rfX p0 qt qg h0 rt cB cI vn ct ft fb (gl3 (gl3 gl 0 r0 r1 r2) 3 0 0 0) T ++ (wgW h0 qc qh r cA cI cJ (2 * vn) ct u tw iv hd M)) H := hP
          have hD : va_D A (rfX p0 qt qg h0 rt cB cI vn ct ft fb (gl3 (gl3 gl 0 r0 r1 r2) 3 0 0 0) T ++ (wgW h0 qc qh r cA cI cJ (2 * vn) ct u tw iv hd M)) := hD
          subst hw
          refine lv_iload hx hb dX1_ranks_73 (lv_at hl 5 rfl) ?_
          refine lv_i2l hx hb dX1_ranks_75 rfl ?_
          refine lv_aload_n hx hb dX1_ranks_76 rfl (lv_at hl 1 rfl) ?_
          refine va_get (D := (dC, dI)) (ci := 1) (v := .ref h0) (C := RX1) (T := TX1) (N := 7) hx hb hts (fun _ h => List.mem_cons_of_mem _ (List.mem_append_left _ (List.mem_append_right _ h))) hown hK hP 0 rfl rfl 2 (by decide) (hts (.fieldLink RX1 21 "RankFinder" "weighing" "LRankFinder$Weighing;") (List.mem_of_getElem? (i := 2) rfl)) (fun _ h9 => h9) rfl dX1_ranks_77 ?_
          have hPc : va_P (dC, dI) vwCl (wgW h0 qc qh r cA cI cJ (2 * vn) ct u tw iv hd M) H := va_Pr hP
          have hKc := hK.sub (tys' := wgT cA cI cJ) [2, 3, 4] rfl
          have hFc : ∀ q, va_A (wgW h0 qc qh r cA cI cJ (2 * vn) ct u tw iv hd M) H.size q → A q := va_Ar hD hS hA
          refine va_calll (va_runV (As := []) (rest := [.long (Int32.toInt64 sv), .long (M (2 * vn) ct)]) ⟨hx, hb, hml, hown, hts⟩ (c_X0_leastBottom l dC dI h0 qc qh r cA cI cJ H.size (2 * vn) ct u tw iv hd M) (cwV 0 hts gX1_ranks_X0_leastBottom rfl rfl rfl (by decide +kernel) ⟨Nat.le_of_ble_eq_true rfl, Nat.le_of_ble_eq_true rfl⟩) ⟨fun a U g mk q => by obtain ⟨q0, q1, qP, qK, qD⟩ := q; exact ⟨q0, q1, qP, va_K.moved (u := U) (U := U.calling g mk a) (Vm.Alike.refl U.vm) qK, qD⟩, va_recv hKc hPc (ci := 0) (q0 := 0) rfl rfl, fun U hU hW => ⟨rfl, by rw [hU], by rw [hU]; exact hPc, va_K.moved hW.alike hKc, va_Dr hD⟩⟩ rfl rfl hl.1 rfl (lv_room (Nat.le_of_ble_eq_true rfl)) dX1_ranks_80 ⟨(Nat.zero_le _), (Nat.zero_le _)⟩) hS (fun q _ h => hFc q h) hFc (fun r_80 v9 t H1 locs ht hvm hw hB hz1 hk1 hS => ?_)
          obtain ⟨hP1, hK1, hD1⟩ := hB
          rw [ht] at hP1
          obtain ⟨hP, hD⟩ := jn_app hP hD hk1 hFc hP1 hD1
          clear hPc hKc hP1 hD1 hK1 hFc hk1 hz1 ht hvm
          generalize H1 = H at hP hS ⊢
          have hP : va_P (dC, dI) vwCl (rfX p0 qt qg h0 rt cB cI vn ct ft fb (gl3 (gl3 gl 0 r0 r1 r2) 3 0 0 0) T ++ (wgW h0 qc qh r cA cI cJ (2 * vn) ct u tw iv hd M)) H := hP
          have hD : va_D A (rfX p0 qt qg h0 rt cB cI vn ct ft fb (gl3 (gl3 gl 0 r0 r1 r2) 3 0 0 0) T ++ (wgW h0 qc qh r cA cI cJ (2 * vn) ct u tw iv hd M)) := hD
          rw [show r_80 = u from hw]
          refine lv_lmul hx hb dX1_ranks_83 ?_
          refine lv_ladd hx hb dX1_ranks_84 ?_
          refine lv_lconst (v := 0) hx hb dX1_ranks_85 (by decide) ?_
          refine W.lcmp hx hb dX1_ranks_86 ?_
          refine lv_if_ge (tgt := 92) hx hb dX1_ranks_87 (by decide) (fun c2 => ?_) (fun c2 => ?_)
          · rw [lg_cmp_ge] at c2
            have hm1 : (Int32.toInt64 sv * u).toInt = sv.toInt * u.toInt := by
              have hb1 := mulB (x := sv.toInt) (y := u.toInt) (X := 999) (Y := 268435456) (by omega) (by omega) (by omega) (by omega) (by omega)
              have := lx_mulE (a := Int32.toInt64 sv) (b := u) (by rw [Int32.toInt_toInt64]; omega) (by rw [Int32.toInt_toInt64]; omega)
              rw [Int32.toInt_toInt64] at this
              exact this
            have hb1 := mulB (x := sv.toInt) (y := u.toInt) (X := 999) (Y := 268435456) (by omega) (by omega) (by omega) (by omega) (by omega)
            have hm2 : (M (2 * vn) ct + Int32.toInt64 sv * u).toInt = (M (2 * vn) ct).toInt + sv.toInt * u.toInt := by
              rw [lx_addE (by rw [hm1]; omega) (by rw [hm1]; omega), hm1]
            have hm3 : (((M (2 * vn) ct).toInt + sv.toInt * u.toInt : Int) : Rat) = (u.toInt : Rat) * (cd (2 * vn + 1) R (clm (CG T (gl3 (gl3 gl 0 r0 r1 r2) 3 0 0 0) vn ct) ct) (2 * vn) + (sv.toInt : Rat)) := by
              rw [Rat.intCast_add, Rat.intCast_mul, hval]; grind
            have hv : 0 ≤ cd (2 * vn + 1) R (clm (CG T (gl3 (gl3 gl 0 r0 r1 r2) 3 0 0 0) vn ct) ct) (2 * vn) + (sv.toInt : Rat) := by
              have q1 := Int64.le_iff_toInt_le.mp c2
              rw [hm2, show (0 : Int64).toInt = 0 from rfl] at q1
              apply Classical.byContradiction
              intro q2
              have q3 := Rat.mul_pos huq (show 0 < -(cd (2 * vn + 1) R (clm (CG T (gl3 (gl3 gl 0 r0 r1 r2) 3 0 0 0) vn ct) ct) (2 * vn) + (sv.toInt : Rat)) by grind)
              have q4 : (0 : Rat) ≤ (((M (2 * vn) ct).toInt + sv.toInt * u.toInt : Int) : Rat) := Rat.intCast_le_intCast.mpr q1
              rw [hm3] at q4
              grind
            have hg2 : okG (gl3 (gl3 (gl3 gl 0 r0 r1 r2) 3 0 0 0) 3 (-r0) (-r1) (-r2)) := fun i hi => by
              have n0 := neg32 (x := r0) (by omega) (by omega)
              have n1 := neg32 (x := r1) (by omega) (by omega)
              have n2 := neg32 (x := r2) (by omega) (by omega)
              rcases (by omega : i = 0 ∨ i = 1 ∨ i = 2 ∨ i = 3 ∨ i = 4 ∨ i = 5) with e | e | e | e | e | e <;> subst e
              · show -999 ≤ r0.toInt ∧ r0.toInt ≤ 999; omega
              · show -999 ≤ r1.toInt ∧ r1.toInt ≤ 999; omega
              · show -999 ≤ r2.toInt ∧ r2.toInt ≤ 999; omega
              · show -999 ≤ (-r0).toInt ∧ (-r0).toInt ≤ 999; rw [n0]; omega
              · show -999 ≤ (-r1).toInt ∧ (-r1).toInt ≤ 999; rw [n1]; omega
              · show -999 ≤ (-r2).toInt ∧ (-r2).toInt ≤ 999; rw [n2]; omega
            refine lv_aload_n hx hb dX1_ranks_92 rfl (lv_at hl 1 rfl) ?_
            refine va_get (D := (dC, dI)) (ci := 1) (v := .ref qg) (C := RX1) (T := TX1) (N := 7) hx hb hts (fun _ h => List.mem_cons_of_mem _ (List.mem_append_left _ (List.mem_append_right _ h))) hown hK hP 0 rfl rfl 1 (by decide) (hts (.fieldLink RX1 14 "RankFinder" "goal" "[I") (List.mem_of_getElem? (i := 1) rfl)) (fun _ h9 => h9) rfl dX1_ranks_93 ?_
            refine lv_iconst (v := nI 3) hx hb dX1_ranks_96 (by decide) ?_
            refine lv_iload_n hx hb dX1_ranks_97 rfl (lv_at hl 2 rfl) ?_
            refine lv_ineg hx hb dX1_ranks_98 ?_
            refine lv_iload_n hx hb dX1_ranks_99 rfl (lv_at hl 3 rfl) ?_
            refine lv_ineg hx hb dX1_ranks_100 ?_
            refine lv_iload_n hx hb dX1_ranks_101 rfl (lv_at hl 4 rfl) ?_
            refine lv_ineg hx hb dX1_ranks_102 ?_
            have hk9 : (rfX p0 qt qg h0 rt cB cI vn ct ft fb (gl3 (gl3 gl 0 r0 r1 r2) 3 0 0 0) T ++ (wgW h0 qc qh r cA cI cJ (2 * vn) ct u tw iv hd M))[2]? = some (qg, .inl (cI, 6, .inl (gl3 (gl3 gl 0 r0 r1 r2) 3 0 0 0))) := rfl
            have hFc := va_oneA hD hk9 hS hA
            refine va_callv (va_runS (As := [.ref qg, .int (nI 3), .int (-r0), .int (-r1), .int (-r2)]) (rest := []) ⟨hx, hb, hml, hown, hts⟩ (c_X1_fill l dC dI H.size cI qg 6 3 (gl3 (gl3 gl 0 r0 r1 r2) 3 0 0 0) (-r0) (-r1) (-r2) (by omega) (by omega)) (va_cwS 5 hts gX1_ranks_X1_fill rfl rfl rfl (by decide +kernel) ⟨Nat.le_of_ble_eq_true rfl, Nat.le_of_ble_eq_true rfl⟩) ⟨fun a U g mk q => by obtain ⟨q0, q1, qP, qK, qD⟩ := q; exact ⟨q0, q1, qP, va_K.moved (u := U) (U := U.calling g mk a) (Vm.Alike.refl U.vm) qK, qD⟩, fun U hU hW => ⟨rfl, by rw [hU], by rw [hU]; exact va_oneP hP hk9, va_K.moved hW.alike (hK.sub [1] rfl), va_oneD trivial⟩⟩ rfl rfl hl.1 rfl (lv_room (Nat.le_of_ble_eq_true rfl)) dX1_ranks_103 ⟨(Nat.zero_le _), (Nat.zero_le _)⟩) hS (fun q _ h => hFc q h) hFc (fun v9 t H1 locs ht hvm hw hB hz1 hk1 hS => ?_)
            obtain ⟨hP1, hK1, hD1⟩ := hB
            rw [ht] at hP1
            obtain ⟨hP, hD⟩ := jn_at hP hD hk9 hk1 hP1
            clear hP1 hD1 hK1 hFc hk1 hz1 ht hvm hk9
            generalize H1 = H at hP hS ⊢
            have hP : va_P (dC, dI) vwCl (rfX p0 qt qg h0 rt cB cI vn ct ft fb (gl3 (gl3 (gl3 gl 0 r0 r1 r2) 3 0 0 0) 3 (-r0) (-r1) (-r2)) T ++ (wgW h0 qc qh r cA cI cJ (2 * vn) ct u tw iv hd M)) H := hP
            have hD : va_D A (rfX p0 qt qg h0 rt cB cI vn ct ft fb (gl3 (gl3 (gl3 gl 0 r0 r1 r2) 3 0 0 0) 3 (-r0) (-r1) (-r2)) T ++ (wgW h0 qc qh r cA cI cJ (2 * vn) ct u tw iv hd M)) := hD
            refine lv_aload_n hx hb dX1_ranks_106 rfl (lv_at hl 1 rfl) ?_
            have hFc : ∀ q, va_A (rfX p0 qt qg h0 rt cB cI vn ct ft fb (gl3 (gl3 (gl3 gl 0 r0 r1 r2) 3 0 0 0) 3 (-r0) (-r1) (-r2)) T ++ (wgW h0 qc qh r cA cI cJ (2 * vn) ct u tw iv hd M)) H.size q → A q := va_fall hD hS hA
            refine va_calli (va_runV (As := []) (rest := []) ⟨hx, hb, hml, hown, hts⟩ (c_X1_seekLeast l dC dI H.size p0 qt qg h0 rt cB cI cA cJ qc qh r vn ct ft fb (gl3 (gl3 (gl3 gl 0 r0 r1 r2) 3 0 0 0) 3 (-r0) (-r1) (-r2)) T (2 * vn) ct u tw iv hd M hv1 hv3 hc hT hg2) (cwV 0 hts gX1_ranks_X1_seekLeast rfl rfl rfl (by decide +kernel) ⟨Nat.le_of_ble_eq_true rfl, Nat.le_of_ble_eq_true rfl⟩) ⟨fun a U g mk q => by obtain ⟨q0, q1, qP, qK, qD⟩ := q; exact ⟨q0, q1, qP, va_K.moved (u := U) (U := U.calling g mk a) (Vm.Alike.refl U.vm) qK, qD⟩, va_recv hK hP (ci := 1) (q0 := 0) rfl rfl, fun U hU hW => ⟨rfl, by rw [hU], by rw [hU]; exact hP, va_K.moved hW.alike hK, hD.weaken (fun _ _ _ _ => trivial)⟩⟩ rfl rfl hl.1 rfl (lv_room (Nat.le_of_ble_eq_true rfl)) dX1_ranks_107 ⟨(Nat.zero_le _), (Nat.zero_le _)⟩) hS (fun q _ h => hFc q h) hFc (fun r_107 v9 t H1 locs ht hvm hw hB hz1 hk1 hS => ?_)
            obtain ⟨hP1, hK1, hD1⟩ := hB
            rw [ht] at hP1
            clear hP hD hK
            have hK := va_K.moved hvm.symm hK1
            have hP := hP1
            have hD := hD1.weaken (B := A) (fun _ q _ h => hFc q.1 h)
            clear hP1 hD1 hK1 hFc hk1 hz1 ht hvm
            generalize H1 = H at hP hS ⊢
            obtain ⟨M2, hd2, u2, tw2, iv2, h2_, R2⟩ := v9
            have hP : va_P (dC, dI) vwCl (rfX p0 qt qg h0 rt cB cI vn ct ft fb (gl3 (gl3 (gl3 gl 0 r0 r1 r2) 3 0 0 0) 3 (-r0) (-r1) (-r2)) T ++ (wgW h0 qc qh r cA cI cJ (2 * vn) ct u2 tw2 iv2 hd2 M2)) H := hP
            have hD : va_D A (rfX p0 qt qg h0 rt cB cI vn ct ft fb (gl3 (gl3 (gl3 gl 0 r0 r1 r2) 3 0 0 0) 3 (-r0) (-r1) (-r2)) T ++ (wgW h0 qc qh r cA cI cJ (2 * vn) ct u2 tw2 iv2 hd2 M2)) := hD
            rcases hw with ⟨rfl, hq2⟩ | ⟨rfl, hq2, hG2⟩ | ⟨rfl, hq2⟩
            · refine lv_iconst (v := nI 2) hx hb dX1_ranks_110 (by decide) ?_
              refine lv_icmp_ne (tgt := 136) hx hb dX1_ranks_111 (by decide) (fun c3 => ?_) (fun c3 => ?_)
              · refine lv_iconst (v := nI 0) hx hb dX1_ranks_136 (by decide) ?_
                exact W.zret (v := (nI 0)) hx hb hr (by rfl) (fun t ht hW => ⟨⟨(nI 0), ((gl3 (gl3 (gl3 gl 0 r0 r1 r2) 3 0 0 0) 3 (-r0) (-r1) (-r2)), 2 * vn, ct, (M2, hd2, u2, tw2, iv2, h2_, R2)), rfl, Or.inr ⟨⟨h1, h2⟩, Or.inr (Or.inr ⟨_, hq, Or.inr ⟨hv, Or.inl ⟨rfl, hq2⟩⟩⟩)⟩, by rw [ht]; exact hP, va_K.moved hW.alike hK, hD⟩, hS.F ht⟩) hS.2.2 dX1_ranks_137
              · exact absurd c3 (by decide)
            · refine lv_iconst (v := nI 2) hx hb dX1_ranks_110 (by decide) ?_
              refine lv_icmp_ne (tgt := 136) hx hb dX1_ranks_111 (by decide) (fun c3 => ?_) (fun c3 => ?_)
              · exact absurd rfl c3
              · have hG2 : Gd (2 * vn) ct (CG T (gl3 (gl3 (gl3 gl 0 r0 r1 r2) 3 0 0 0) 3 (-r0) (-r1) (-r2)) vn ct) M2 hd2 u2 tw2 iv2 h2_ R2 := hG2
                have hval2 := hG2.2.2.2.1 (2 * vn) ct (Nat.le_refl _) (Nat.le_refl _)
                have huq2 : (0 : Rat) < (u2.toInt : Rat) := Rat.intCast_lt_intCast.mpr hG2.2.1.1
                refine lv_aload_n hx hb dX1_ranks_114 rfl (lv_at hl 1 rfl) ?_
                refine va_get (D := (dC, dI)) (ci := 1) (v := .ref h0) (C := RX1) (T := TX1) (N := 7) hx hb hts (fun _ h => List.mem_cons_of_mem _ (List.mem_append_left _ (List.mem_append_right _ h))) hown hK hP 0 rfl rfl 2 (by decide) (hts (.fieldLink RX1 21 "RankFinder" "weighing" "LRankFinder$Weighing;") (List.mem_of_getElem? (i := 2) rfl)) (fun _ h9 => h9) rfl dX1_ranks_115 ?_
                have hPc : va_P (dC, dI) vwCl (wgW h0 qc qh r cA cI cJ (2 * vn) ct u2 tw2 iv2 hd2 M2) H := va_Pr hP
                have hKc := hK.sub (tys' := wgT cA cI cJ) [2, 3, 4] rfl
                have hFc : ∀ q, va_A (wgW h0 qc qh r cA cI cJ (2 * vn) ct u2 tw2 iv2 hd2 M2) H.size q → A q := va_Ar hD hS hA
                refine va_calll (va_runV (As := []) (rest := []) ⟨hx, hb, hml, hown, hts⟩ (c_X0_leastTop l dC dI h0 qc qh r cA cI cJ H.size (2 * vn) ct u2 tw2 iv2 hd2 M2 (by omega) (by omega)) (cwV 0 hts gX1_ranks_X0_leastTop rfl rfl rfl (by decide +kernel) ⟨Nat.le_of_ble_eq_true rfl, Nat.le_of_ble_eq_true rfl⟩) ⟨fun a U g mk q => by obtain ⟨q0, q1, qP, qK, qD⟩ := q; exact ⟨q0, q1, qP, va_K.moved (u := U) (U := U.calling g mk a) (Vm.Alike.refl U.vm) qK, qD⟩, va_recv hKc hPc (ci := 0) (q0 := 0) rfl rfl, fun U hU hW => ⟨rfl, by rw [hU], by rw [hU]; exact hPc, va_K.moved hW.alike hKc, va_Dr hD⟩⟩ rfl rfl hl.1 rfl (lv_room (Nat.le_of_ble_eq_true rfl)) dX1_ranks_118 ⟨(Nat.zero_le _), (Nat.zero_le _)⟩) hS (fun q _ h => hFc q h) hFc (fun r_118 v9 t H1 locs ht hvm hw hB hz1 hk1 hS => ?_)
                obtain ⟨hP1, hK1, hD1⟩ := hB
                rw [ht] at hP1
                obtain ⟨hP, hD⟩ := jn_app hP hD hk1 hFc hP1 hD1
                clear hPc hKc hP1 hD1 hK1 hFc hk1 hz1 ht hvm
                generalize H1 = H at hP hS ⊢
                have hP : va_P (dC, dI) vwCl (rfX p0 qt qg h0 rt cB cI vn ct ft fb (gl3 (gl3 (gl3 gl 0 r0 r1 r2) 3 0 0 0) 3 (-r0) (-r1) (-r2)) T ++ (wgW h0 qc qh r cA cI cJ (2 * vn) ct u2 tw2 iv2 hd2 M2)) H := hP
                have hD : va_D A (rfX p0 qt qg h0 rt cB cI vn ct ft fb (gl3 (gl3 (gl3 gl 0 r0 r1 r2) 3 0 0 0) 3 (-r0) (-r1) (-r2)) T ++ (wgW h0 qc qh r cA cI cJ (2 * vn) ct u2 tw2 iv2 hd2 M2)) := hD
                subst hw
                refine lv_aload_n hx hb dX1_ranks_121 rfl (lv_at hl 1 rfl) ?_
                refine va_get (D := (dC, dI)) (ci := 1) (v := .ref h0) (C := RX1) (T := TX1) (N := 7) hx hb hts (fun _ h => List.mem_cons_of_mem _ (List.mem_append_left _ (List.mem_append_right _ h))) hown hK hP 0 rfl rfl 2 (by decide) (hts (.fieldLink RX1 21 "RankFinder" "weighing" "LRankFinder$Weighing;") (List.mem_of_getElem? (i := 2) rfl)) (fun _ h9 => h9) rfl dX1_ranks_122 ?_
                have hPc : va_P (dC, dI) vwCl (wgW h0 qc qh r cA cI cJ (2 * vn) ct u2 tw2 iv2 hd2 M2) H := va_Pr hP
                have hKc := hK.sub (tys' := wgT cA cI cJ) [2, 3, 4] rfl
                have hFc : ∀ q, va_A (wgW h0 qc qh r cA cI cJ (2 * vn) ct u2 tw2 iv2 hd2 M2) H.size q → A q := va_Ar hD hS hA
                refine va_calll (va_runV (As := []) (rest := [.long (M2 (2 * vn) ct)]) ⟨hx, hb, hml, hown, hts⟩ (c_X0_leastBottom l dC dI h0 qc qh r cA cI cJ H.size (2 * vn) ct u2 tw2 iv2 hd2 M2) (cwV 0 hts gX1_ranks_X0_leastBottom rfl rfl rfl (by decide +kernel) ⟨Nat.le_of_ble_eq_true rfl, Nat.le_of_ble_eq_true rfl⟩) ⟨fun a U g mk q => by obtain ⟨q0, q1, qP, qK, qD⟩ := q; exact ⟨q0, q1, qP, va_K.moved (u := U) (U := U.calling g mk a) (Vm.Alike.refl U.vm) qK, qD⟩, va_recv hKc hPc (ci := 0) (q0 := 0) rfl rfl, fun U hU hW => ⟨rfl, by rw [hU], by rw [hU]; exact hPc, va_K.moved hW.alike hKc, va_Dr hD⟩⟩ rfl rfl hl.1 rfl (lv_room (Nat.le_of_ble_eq_true rfl)) dX1_ranks_125 ⟨(Nat.zero_le _), (Nat.zero_le _)⟩) hS (fun q _ h => hFc q h) hFc (fun r_125 v9 t H1 locs ht hvm hw hB hz1 hk1 hS => ?_)
                obtain ⟨hP1, hK1, hD1⟩ := hB
                rw [ht] at hP1
                obtain ⟨hP, hD⟩ := jn_app hP hD hk1 hFc hP1 hD1
                clear hPc hKc hP1 hD1 hK1 hFc hk1 hz1 ht hvm
                generalize H1 = H at hP hS ⊢
                have hP : va_P (dC, dI) vwCl (rfX p0 qt qg h0 rt cB cI vn ct ft fb (gl3 (gl3 (gl3 gl 0 r0 r1 r2) 3 0 0 0) 3 (-r0) (-r1) (-r2)) T ++ (wgW h0 qc qh r cA cI cJ (2 * vn) ct u2 tw2 iv2 hd2 M2)) H := hP
                have hD : va_D A (rfX p0 qt qg h0 rt cB cI vn ct ft fb (gl3 (gl3 (gl3 gl 0 r0 r1 r2) 3 0 0 0) 3 (-r0) (-r1) (-r2)) T ++ (wgW h0 qc qh r cA cI cJ (2 * vn) ct u2 tw2 iv2 hd2 M2)) := hD
                rw [show r_125 = u2 from hw]
                refine W.lcmp hx hb dX1_ranks_128 ?_
                refine lv_if_lt (tgt := 136) hx hb dX1_ranks_129 (by decide) (fun c4 => ?_) (fun c4 => ?_)
                · rw [lg_cmp_lt] at c4
                  have hv2 : cd (2 * vn + 1) R2 (clm (CG T (gl3 (gl3 (gl3 gl 0 r0 r1 r2) 3 0 0 0) 3 (-r0) (-r1) (-r2)) vn ct) ct) (2 * vn) < 1 := by
                    have q1 : ((M2 (2 * vn) ct).toInt : Rat) < (u2.toInt : Rat) := Rat.intCast_lt_intCast.mpr (Int64.lt_iff_toInt_lt.mp c4)
                    rw [hval2] at q1
                    apply Classical.byContradiction
                    intro q2
                    have := Rat.mul_nonneg (Rat.le_of_lt huq2) (show 0 ≤ cd (2 * vn + 1) R2 (clm (CG T (gl3 (gl3 (gl3 gl 0 r0 r1 r2) 3 0 0 0) 3 (-r0) (-r1) (-r2)) vn ct) ct) (2 * vn) - 1 by grind)
                    grind
                  refine lv_iconst (v := nI 0) hx hb dX1_ranks_136 (by decide) ?_
                  exact W.zret (v := (nI 0)) hx hb hr (by rfl) (fun t ht hW => ⟨⟨(nI 0), ((gl3 (gl3 (gl3 gl 0 r0 r1 r2) 3 0 0 0) 3 (-r0) (-r1) (-r2)), 2 * vn, ct, (M2, hd2, u2, tw2, iv2, h2_, R2)), rfl, Or.inr ⟨⟨h1, h2⟩, Or.inr (Or.inr ⟨_, hq, Or.inr ⟨hv, Or.inr (Or.inr ⟨_, hq2, Or.inl ⟨rfl, hv2⟩⟩)⟩⟩)⟩, by rw [ht]; exact hP, va_K.moved hW.alike hK, hD⟩, hS.F ht⟩) hS.2.2 dX1_ranks_137
                · rw [lg_cmp_lt] at c4
                  have hv2 : 1 ≤ cd (2 * vn + 1) R2 (clm (CG T (gl3 (gl3 (gl3 gl 0 r0 r1 r2) 3 0 0 0) 3 (-r0) (-r1) (-r2)) vn ct) ct) (2 * vn) := by
                    have q1 : (u2.toInt : Rat) ≤ ((M2 (2 * vn) ct).toInt : Rat) := Rat.intCast_le_intCast.mpr (Int64.le_iff_toInt_le.mp (Int64.not_lt.mp c4))
                    rw [hval2] at q1
                    apply Classical.byContradiction
                    intro q2
                    have := Rat.mul_pos huq2 (show 0 < 1 - cd (2 * vn + 1) R2 (clm (CG T (gl3 (gl3 (gl3 gl 0 r0 r1 r2) 3 0 0 0) 3 (-r0) (-r1) (-r2)) vn ct) ct) (2 * vn) by grind)
                    grind
                  refine lv_iconst (v := nI 1) hx hb dX1_ranks_132 (by decide) ?_
                  refine lv_goto (tgt := 137) hx hb dX1_ranks_133 (by decide) ?_
                  exact W.zret (v := (nI 1)) hx hb hr (by rfl) (fun t ht hW => ⟨⟨(nI 1), ((gl3 (gl3 (gl3 gl 0 r0 r1 r2) 3 0 0 0) 3 (-r0) (-r1) (-r2)), 2 * vn, ct, (M2, hd2, u2, tw2, iv2, h2_, R2)), rfl, Or.inr ⟨⟨h1, h2⟩, Or.inr (Or.inr ⟨_, hq, Or.inr ⟨hv, Or.inr (Or.inr ⟨_, hq2, Or.inr ⟨rfl, hv2⟩⟩)⟩⟩)⟩, by rw [ht]; exact hP, va_K.moved hW.alike hK, hD⟩, hS.F ht⟩) hS.2.2 dX1_ranks_137
            · refine lv_iconst (v := nI 2) hx hb dX1_ranks_110 (by decide) ?_
              refine lv_icmp_ne (tgt := 136) hx hb dX1_ranks_111 (by decide) (fun c3 => ?_) (fun c3 => ?_)
              · refine lv_iconst (v := nI 0) hx hb dX1_ranks_136 (by decide) ?_
                exact W.zret (v := (nI 0)) hx hb hr (by rfl) (fun t ht hW => ⟨⟨(nI 0), ((gl3 (gl3 (gl3 gl 0 r0 r1 r2) 3 0 0 0) 3 (-r0) (-r1) (-r2)), 2 * vn, ct, (M2, hd2, u2, tw2, iv2, h2_, R2)), rfl, Or.inr ⟨⟨h1, h2⟩, Or.inr (Or.inr ⟨_, hq, Or.inr ⟨hv, Or.inr (Or.inl ⟨rfl, hq2⟩)⟩⟩)⟩, by rw [ht]; exact hP, va_K.moved hW.alike hK, hD⟩, hS.F ht⟩) hS.2.2 dX1_ranks_137
              · exact absurd c3 (by decide)
          · rw [lg_cmp_ge] at c2
            have hm1 : (Int32.toInt64 sv * u).toInt = sv.toInt * u.toInt := by
              have hb1 := mulB (x := sv.toInt) (y := u.toInt) (X := 999) (Y := 268435456) (by omega) (by omega) (by omega) (by omega) (by omega)
              have := lx_mulE (a := Int32.toInt64 sv) (b := u) (by rw [Int32.toInt_toInt64]; omega) (by rw [Int32.toInt_toInt64]; omega)
              rw [Int32.toInt_toInt64] at this
              exact this
            have hb1 := mulB (x := sv.toInt) (y := u.toInt) (X := 999) (Y := 268435456) (by omega) (by omega) (by omega) (by omega) (by omega)
            have hm2 : (M (2 * vn) ct + Int32.toInt64 sv * u).toInt = (M (2 * vn) ct).toInt + sv.toInt * u.toInt := by
              rw [lx_addE (by rw [hm1]; omega) (by rw [hm1]; omega), hm1]
            have hm3 : (((M (2 * vn) ct).toInt + sv.toInt * u.toInt : Int) : Rat) = (u.toInt : Rat) * (cd (2 * vn + 1) R (clm (CG T (gl3 (gl3 gl 0 r0 r1 r2) 3 0 0 0) vn ct) ct) (2 * vn) + (sv.toInt : Rat)) := by
              rw [Rat.intCast_add, Rat.intCast_mul, hval]; grind
            have hv : cd (2 * vn + 1) R (clm (CG T (gl3 (gl3 gl 0 r0 r1 r2) 3 0 0 0) vn ct) ct) (2 * vn) + (sv.toInt : Rat) < 0 := by
              have q1 := Int64.lt_iff_toInt_lt.mp (Int64.not_le.mp c2)
              rw [hm2, show (0 : Int64).toInt = 0 from rfl] at q1
              apply Classical.byContradiction
              intro q2
              have q3 := Rat.mul_nonneg (Rat.le_of_lt huq) (Rat.not_lt.mp q2)
              have q4 : (((M (2 * vn) ct).toInt + sv.toInt * u.toInt : Int) : Rat) < 0 := Rat.intCast_lt_intCast.mpr q1
              rw [hm3] at q4
              grind
            refine lv_iconst (v := nI 0) hx hb dX1_ranks_90 (by decide) ?_
            exact W.zret (v := (nI 0)) hx hb hr (by rfl) (fun t ht hW => ⟨⟨(nI 0), ((gl3 (gl3 gl 0 r0 r1 r2) 3 0 0 0), 2 * vn, ct, (M, hd, u, tw, iv, h, R)), rfl, Or.inr ⟨⟨h1, h2⟩, Or.inr (Or.inr ⟨_, hq, Or.inl ⟨rfl, hv⟩⟩)⟩, by rw [ht]; exact hP, va_K.moved hW.alike hK, hD⟩, hS.F ht⟩) hS.2.2 dX1_ranks_91
      · refine lv_istore (lv' := [(5, .int 1), (0, .ref p0), (1, .int r0), (2, .int r1), (3, .int r2), (4, .int sv)]) hx hb dX1_ranks_51 hl (by decide) rfl (fun ls hl => ?_)
        refine lv_iload hx hb dX1_ranks_53 (lv_at hl 0 rfl) ?_
        refine lv_if_ne (tgt := 60) hx hb dX1_ranks_55 (by decide) (fun _ => ?_) (fun c => absurd c (by decide))
        refine lv_iload hx hb dX1_ranks_60 (lv_at hl 0 rfl) ?_
        refine lv_iconst (v := nI 1) hx hb dX1_ranks_62 (by decide) ?_
        refine lv_icmp_eq (tgt := 90) hx hb dX1_ranks_63 (by decide) (fun c1 => ?_) (fun c1 => ?_)
        · refine lv_iconst (v := nI 0) hx hb dX1_ranks_90 (by decide) ?_
          exact W.zret (v := (nI 0)) hx hb hr (by rfl) (fun t ht hW => ⟨⟨(nI 0), ((gl3 (gl3 gl 0 r0 r1 r2) 3 0 0 0), 2 * vn, ct, (M, hd, u, tw, iv, h, R)), rfl, Or.inr ⟨⟨h1, h2⟩, Or.inr (Or.inl ⟨rfl, hq⟩)⟩, by rw [ht]; exact hP, va_K.moved hW.alike hK, hD⟩, hS.F ht⟩) hS.2.2 dX1_ranks_91
        · exact absurd rfl c1
    · refine lv_if_ne (tgt := 25) hx hb dX1_ranks_20 (by decide) (fun c => absurd rfl c) (fun _ => ?_)
      refine lv_iconst (v := nI 0) hx hb dX1_ranks_23 (by decide) ?_
      exact W.zret (v := (nI 0)) hx hb hr (by rfl) (fun t ht hW => ⟨⟨(nI 0), (gl, me, nw, (M, hd, u, tw, iv, (fun _ => none), un)), rfl, Or.inl ⟨rfl, fun q => h2 q.2⟩, by rw [ht]; exact hP, va_K.moved hW.alike hK, hD⟩, hS.F ht⟩) hS.2.2 dX1_ranks_24
  · refine lv_if_eq (tgt := 23) hx hb dX1_ranks_9 (by decide) (fun _ => ?_) (fun c => absurd rfl c)
    refine lv_iconst (v := nI 0) hx hb dX1_ranks_23 (by decide) ?_
    exact W.zret (v := (nI 0)) hx hb hr (by rfl) (fun t ht hW => ⟨⟨(nI 0), (gl, me, nw, (M, hd, u, tw, iv, (fun _ => none), un)), rfl, Or.inl ⟨rfl, fun q => h1 q.1⟩, by rw [ht]; exact hP, va_K.moved hW.alike hK, hD⟩, hS.F ht⟩) hS.2.2 dX1_ranks_24
