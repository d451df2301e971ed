/-! ===== RankFinder: rule, drop, keeps ===== -/
def rowF (f : Nat → Int32) (a0 a1 a2 b0 b1 b2 d : Int32) : Nat → Int32 := upd (upd (upd (upd (upd (upd (upd f 0 a0) 1 a1) 2 a2) 3 b0) 4 b1) 5 b2) 6 d
def okR (a0 a1 a2 b0 b1 b2 d : Int32) : Prop := (inR a0 (nI 9) ∧ inR a1 (nI 9) ∧ inR a2 (nI 9)) ∧ (inR b0 (nI 9) ∧ inR b1 (nI 9) ∧ inR b2 (nI 9)) ∧ inR d (nI 99)
def drF (T : Nat → Nat → Int32) (k i : Nat) : Nat → Nat → Int32 := fun a j => if k ≤ a ∧ a + 1 < i ∧ j < 7 then T (a + 1) j else T a j
theorem drF_0 (T : Nat → Nat → Int32) (k : Nat) : drF T k (k + 1) = T := by
  funext a j; unfold drF; rw [if_neg (by omega)]
theorem drF_s {T : Nat → Nat → Int32} {k i : Nat} (h : k < i) : fup (drF T k i) (i - 1) (va_cpy (drF T k i i) (drF T k i (i - 1)) 0 0 7) = drF T k (i + 1) := by
  funext a j
  unfold fup
  by_cases e : a = i - 1
  · subst e
    simp only [if_true]
    unfold va_cpy
    by_cases h7 : j < 7
    · rw [if_pos (by omega)]
      unfold drF
      rw [if_neg (by omega), if_pos (by omega), show i - 1 + 1 = i by omega, show 0 + (j - 0) = j by omega]
    · rw [if_neg (by omega)]
      unfold drF
      rw [if_neg (by omega), if_neg (by omega)]
  · rw [if_neg e]
    unfold drF
    by_cases q : k ≤ a ∧ a + 1 < i ∧ j < 7
    · rw [if_pos q, if_pos (by omega)]
    · rw [if_neg q, if_neg (by omega)]
/-- what a rule's half makes of values -/
def prF (f : Nat → Int32) (vn k : Nat) (x1 x2 x3 : Int64) : Int64 := if 2 < vn then (if 1 < vn then (f k).toInt64 * x1 + (f (k + 1)).toInt64 * x2 else (f k).toInt64 * x1) + (f (k + 2)).toInt64 * x3 else (if 1 < vn then (f k).toInt64 * x1 + (f (k + 1)).toInt64 * x2 else (f k).toInt64 * x1)
def kpF (f : Nat → Int32) (vn : Nat) (x1 x2 x3 y1 y2 y3 : Int32) : Prop := prF f vn 0 x1.toInt64 x2.toInt64 x3.toInt64 + prF f vn 3 y1.toInt64 y2.toInt64 y3.toInt64 ≤ (f 6).toInt64
set_option maxHeartbeats 1000000 in
set_option maxRecDepth 100000 in
/-- rule(..) -/
theorem c_X1_rule (l : Launch) (dC : Nat → ClassId) (dI : Nat → Nat → Nat) (sz : Nat) (p0 qt qg h0 : Nat) (rt : Nat → Nat) (cB cI : ClassId) (tz : List (ClassId × FieldType)) (Y : va_W) (vn ct : Nat) (ft fb : Int64) (gl : Nat → Int32) (T : Nat → Nat → Int32) (a0 a1 a2 b0 b1 b2 d : Int32) (hc : ct ≤ 8) : Met l yX1_rule wsX1_rule ({ frames := 2, cells := 0, slots := 0, locals := 44 }) (va_Pc [.ref p0, .int a0, .int a1, .int a2, .int b0, .int b1, .int b2, .int d] (fun U => U.heap.size = sz ∧ va_P (dC, dI) vwCl (rfX p0 qt qg h0 rt cB cI vn ct ft fb gl T ++ Y) U.heap ∧ va_K (dC, dI) vwCl ((cB, .array .int) :: (cI, .int) :: tz) U ∧ va_D (fun _ => True) (rfX p0 qt qg h0 rt cB cI vn ct ft fb gl T ++ Y))) (va_Qi (fun (x : Int32) (v : Nat × (Nat → Nat → Int32)) => (ct < 8 ∧ okR a0 a1 a2 b0 b1 b2 d ∧ x = nI ct ∧ v = (ct + 1, fup T ct (rowF (T ct) a0 a1 a2 b0 b1 b2 d))) ∨ (x = -1 ∧ ¬ (ct < 8 ∧ okR a0 a1 a2 b0 b1 b2 d) ∧ v = (ct, T))) (fun v t => va_P (dC, dI) vwCl (rfX p0 qt qg h0 rt cB cI vn v.1 ft fb gl v.2 ++ Y) t.heap ∧ va_K (dC, dI) vwCl ((cB, .array .int) :: (cI, .int) :: tz) t ∧ va_D (va_A (rfX p0 qt qg h0 rt cB cI vn ct ft fb gl T ++ Y) sz) (rfX p0 qt qg h0 rt cB cI vn v.1 ft fb gl v.2 ++ Y)) (va_A (rfX p0 qt qg h0 rt cB cI vn ct ft fb gl T ++ Y) sz)) 0 0 (va_A (rfX p0 qt qg h0 rt cB cI vn ct ft fb gl T ++ Y) sz) := by
  refine Met.ofW (cc := cX1_rule) (maxL := 9) (ret := (some .int)) (by decide) rfl ?_
  intro p e s m args below meth c s₁ B hml hv
  obtain ⟨rfl, hsz, hP, hK, hD0⟩ := hv
  have hx := B.exec
  have hb := B.bytes
  have hr := B.returns
  have hts := atoms_spec (ws := wsX1_rule) B.pre
  have hown : s.vm.findClass RX1 = some m.cls := findClass_of_methodNamed B.named
  subst hsz
  have hD := hD0.self (sz := s.heap.size)
  clear hD0
  generalize hAe : va_A (rfX p0 qt qg h0 rt cB cI vn ct ft fb gl T ++ Y) s.heap.size = A at hD ⊢
  have hA : ∀ q : Nat, s.heap.size ≤ q → A q := fun q h => by rw [← hAe]; exact Or.inr h
  have hl := lv_entry ([.ref p0, .int a0, .int a1, .int a2, .int b0, .int b1, .int b2, .int d]) (n := 9) (Nat.le_of_ble_eq_true rfl)
  rw [lg_entry_eq]
  generalize (lg_sl ([.ref p0, .int a0, .int a1, .int a2, .int b0, .int b1, .int b2, .int d]) ++ List.replicate (9 - (lg_sl ([.ref p0, .int a0, .int a1, .int a2, .int b0, .int b1, .int b2, .int d])).length) Slot.unset).toArray = ls at hl ⊢
  have hl : lv_has ls 9 [(0, .ref p0), (1, .int a0), (2, .int a1), (3, .int a2), (4, .int b0), (5, .int b1), (6, .int b2), (7, .int d)] := hl
  have hP : va_P (dC, dI) vwCl (rfX p0 qt qg h0 rt cB cI vn ct ft fb gl T ++ Y) s.heap := hP
  obtain ⟨H, hH⟩ : ∃ H, H = s.heap := ⟨_, rfl⟩
  have hS : va_S A s.heap H [] := by rw [hH]; exact va_S.rf
  rw [← hH] at hP ⊢
  refine lv_aload_n hx hb dX1_rule_0 rfl (lv_at hl 0 rfl) ?_
  refine va_get (D := (dC, dI)) (ci := 1) (v := .int (nI ct)) (C := RX1) (T := TX1) (N := 7) hx hb hts (fun _ h => List.mem_cons_of_mem _ (List.mem_append_right _ h)) hown hK hP 0 rfl rfl 4 (by decide) (hts (.fieldLink RX1 29 "RankFinder" "count" "I") (List.mem_of_getElem? (i := 1) rfl)) (fun _ h9 => h9) rfl dX1_rule_1 ?_
  refine lv_bipush (v := nI 8) hx hb dX1_rule_4 (by decide) ?_
  refine lv_icmp_ge (tgt := 44) hx hb dX1_rule_6 (by decide) (fun c1 => ?_) (fun c1 => ?_)
  · refine lv_iconst (v := (-1)) hx hb dX1_rule_44 (by decide) ?_
    exact W.iret (v := (-1)) hx hb hr (fun t ht hW => ⟨⟨(-1), (ct, T), rfl, Or.inr ⟨rfl, fun q => nI_ge q.1 (by omega) c1, rfl⟩, by rw [ht]; exact hP, va_K.moved hW.alike hK, hD⟩, hS.F ht⟩) hS.2.2 dX1_rule_45
  · have hc8 : ct < 8 := by
      apply Classical.byContradiction
      intro q
      exact c1 (nI_le (by omega) (by omega))
    refine lv_iload_n hx hb dX1_rule_9 rfl (lv_at hl 1 rfl) ?_
    refine lv_iload_n hx hb dX1_rule_10 rfl (lv_at hl 2 rfl) ?_
    refine lv_iload_n hx hb dX1_rule_11 rfl (lv_at hl 3 rfl) ?_
    refine lv_bipush (v := nI 9) hx hb dX1_rule_12 (by decide) ?_
    have hFc : ∀ q, va_A ([] : va_W) H.size q → A q := fun q h => va_nilA hS hA q h
    refine va_calli (va_runS (As := [.int a0, .int a1, .int a2, .int (nI 9)]) (rest := []) ⟨hx, hb, hml, hown, hts⟩ (c_X1_areWithin l dC dI H.size a0 a1 a2 (nI 9)) (va_cwS 4 hts gX1_rule_X1_areWithin rfl rfl rfl (by decide +kernel) ⟨Nat.le_of_ble_eq_true rfl, Nat.le_of_ble_eq_true rfl⟩) ⟨fun a U g mk q => by obtain ⟨q0, q1, qP, qK, qD⟩ := q; exact ⟨q0, q1, qP, va_K.moved (u := U) (U := U.calling g mk a) (Vm.Alike.refl U.vm) qK, qD⟩, fun U hU hW => ⟨rfl, by rw [hU], va_nilP, va_K.moved hW.alike (hK.sub (tys' := []) [] rfl), va_nilD⟩⟩ rfl rfl hl.1 rfl (lv_room (Nat.le_of_ble_eq_true rfl)) dX1_rule_14 ⟨(Nat.zero_le _), (Nat.zero_le _)⟩) hS (fun q _ h => hFc q h) hFc (fun r_14 v9 t H1 locs ht hvm hw hB hz1 hk1 hS => ?_)
    have hP := va_keep hP hk1
    clear hB hk1 hz1 ht hvm hFc
    generalize H1 = H at hP hS ⊢
    rcases hw with ⟨rfl, h1⟩ | ⟨rfl, h1⟩
    · refine lv_if_eq (tgt := 44) hx hb dX1_rule_17 (by decide) (fun c => absurd c (by decide)) (fun _ => ?_)
      refine lv_iload hx hb dX1_rule_20 (lv_at hl 4 rfl) ?_
      refine lv_iload hx hb dX1_rule_22 (lv_at hl 5 rfl) ?_
      refine lv_iload hx hb dX1_rule_24 (lv_at hl 6 rfl) ?_
      refine lv_bipush (v := nI 9) hx hb dX1_rule_26 (by decide) ?_
      have hFc : ∀ q, va_A ([] : va_W) H.size q → A q := fun q h => va_nilA hS hA q h
      refine va_calli (va_runS (As := [.int b0, .int b1, .int b2, .int (nI 9)]) (rest := []) ⟨hx, hb, hml, hown, hts⟩ (c_X1_areWithin l dC dI H.size b0 b1 b2 (nI 9)) (va_cwS 4 hts gX1_rule_X1_areWithin rfl rfl rfl (by decide +kernel) ⟨Nat.le_of_ble_eq_true rfl, Nat.le_of_ble_eq_true rfl⟩) ⟨fun a U g mk q => by obtain ⟨q0, q1, qP, qK, qD⟩ := q; exact ⟨q0, q1, qP, va_K.moved (u := U) (U := U.calling g mk a) (Vm.Alike.refl U.vm) qK, qD⟩, fun U hU hW => ⟨rfl, by rw [hU], va_nilP, va_K.moved hW.alike (hK.sub (tys' := []) [] rfl), va_nilD⟩⟩ rfl rfl hl.1 rfl (lv_room (Nat.le_of_ble_eq_true rfl)) dX1_rule_28 ⟨(Nat.zero_le _), (Nat.zero_le _)⟩) hS (fun q _ h => hFc q h) hFc (fun r_28 v9 t H1 locs ht hvm hw hB hz1 hk1 hS => ?_)
      have hP := va_keep hP hk1
      clear hB hk1 hz1 ht hvm hFc
      generalize H1 = H at hP hS ⊢
      rcases hw with ⟨rfl, h2⟩ | ⟨rfl, h2⟩
      · refine lv_if_eq (tgt := 44) hx hb dX1_rule_31 (by decide) (fun c => absurd c (by decide)) (fun _ => ?_)
        refine lv_iload hx hb dX1_rule_34 (lv_at hl 7 rfl) ?_
        refine lv_bipush (v := nI 99) hx hb dX1_rule_36 (by decide) ?_
        have hFc : ∀ q, va_A ([] : va_W) H.size q → A q := fun q h => va_nilA hS hA q h
        refine va_calli (va_runS (As := [.int d, .int (nI 99)]) (rest := []) ⟨hx, hb, hml, hown, hts⟩ (c_X1_isWithin l dC dI H.size d (nI 99)) (va_cwS 2 hts gX1_rule_X1_isWithin rfl rfl rfl (by decide +kernel) ⟨Nat.le_of_ble_eq_true rfl, Nat.le_of_ble_eq_true rfl⟩) ⟨fun a U g mk q => by obtain ⟨q0, q1, qP, qK, qD⟩ := q; exact ⟨q0, q1, qP, va_K.moved (u := U) (U := U.calling g mk a) (Vm.Alike.refl U.vm) qK, qD⟩, fun U hU hW => ⟨rfl, by rw [hU], va_nilP, va_K.moved hW.alike (hK.sub (tys' := []) [] rfl), va_nilD⟩⟩ rfl rfl hl.1 rfl (lv_room (Nat.le_of_ble_eq_true rfl)) dX1_rule_38 ⟨(Nat.zero_le _), (Nat.zero_le _)⟩) hS (fun q _ h => hFc q h) hFc (fun r_38 v9 t H1 locs ht hvm hw hB hz1 hk1 hS => ?_)
        have hP := va_keep hP hk1
        clear hB hk1 hz1 ht hvm hFc
        generalize H1 = H at hP hS ⊢
        rcases hw with ⟨rfl, h3⟩ | ⟨rfl, h3⟩
        · refine lv_if_ne (tgt := 46) hx hb dX1_rule_41 (by decide) (fun _ => ?_) (fun c => absurd c (by decide))
          refine lv_aload_n hx hb dX1_rule_46 rfl (lv_at hl 0 rfl) ?_
          refine va_get (D := (dC, dI)) (ci := 1) (v := .ref qt) (C := RX1) (T := TX1) (N := 7) hx hb hts (fun _ h => List.mem_cons_of_mem _ (List.mem_append_right _ h)) hown hK hP 0 rfl rfl 0 (by decide) (hts (.fieldLink RX1 11 "RankFinder" "told" "[[I") (List.mem_of_getElem? (i := 2) rfl)) (fun _ h9 => h9) rfl dX1_rule_47 ?_
          refine lv_aload_n hx hb dX1_rule_50 rfl (lv_at hl 0 rfl) ?_
          refine va_get (D := (dC, dI)) (ci := 1) (v := .int (nI ct)) (C := RX1) (T := TX1) (N := 7) hx hb hts (fun _ h => List.mem_cons_of_mem _ (List.mem_append_right _ h)) hown hK hP 0 rfl rfl 4 (by decide) (hts (.fieldLink RX1 29 "RankFinder" "count" "I") (List.mem_of_getElem? (i := 1) rfl)) (fun _ h9 => h9) rfl dX1_rule_51 ?_
          refine na_aald (y := rt ct) hx hb hK hP 1 0 rfl rfl hc8 (by decide) (if_pos hc8) dX1_rule_54 ?_
          refine lv_astore (lv' := [(8, .ref (rt ct)), (0, .ref p0), (1, .int a0), (2, .int a1), (3, .int a2), (4, .int b0), (5, .int b1), (6, .int b2), (7, .int d)]) hx hb dX1_rule_55 hl (by decide) rfl (fun ls hl => ?_)
          refine lv_aload hx hb dX1_rule_57 (lv_at hl 0 rfl) ?_
          refine lv_iconst (v := nI 0) hx hb dX1_rule_59 (by decide) ?_
          refine lv_iload_n hx hb dX1_rule_60 rfl (lv_at hl 2 rfl) ?_
          refine lv_iload_n hx hb dX1_rule_61 rfl (lv_at hl 3 rfl) ?_
          refine lv_iload_n hx hb dX1_rule_62 rfl (lv_at hl 4 rfl) ?_
          have hk9 : (rfX p0 qt qg h0 rt cB cI vn ct ft fb gl T ++ Y)[3 + ct]? = some (rt ct, .inl (cI, 7, .inl (T ct))) := rf_row hc8
          have hFc := va_oneA hD hk9 hS hA
          refine va_callv (va_runS (As := [.ref (rt ct), .int (nI 0), .int a0, .int a1, .int a2]) (rest := []) ⟨hx, hb, hml, hown, hts⟩ (c_X1_fill l dC dI H.size cI (rt ct) 7 0 (T ct) a0 a1 a2 (by omega) (by omega)) (va_cwS 5 hts gX1_rule_X1_fill rfl rfl rfl (by decide +kernel) ⟨Nat.le_of_ble_eq_true rfl, Nat.le_of_ble_eq_true rfl⟩) ⟨fun a U g mk q => by obtain ⟨q0, q1, qP, qK, qD⟩ := q; exact ⟨q0, q1, qP, va_K.moved (u := U) (U := U.calling g mk a) (Vm.Alike.refl U.vm) qK, qD⟩, fun U hU hW => ⟨rfl, by rw [hU], by rw [hU]; exact va_oneP hP hk9, va_K.moved hW.alike (hK.sub [1] rfl), va_oneD trivial⟩⟩ rfl rfl hl.1 rfl (lv_room (Nat.le_of_ble_eq_true rfl)) dX1_rule_63 ⟨(Nat.zero_le _), (Nat.zero_le _)⟩) hS (fun q _ h => hFc q h) hFc (fun v9 t H1 locs ht hvm hw hB hz1 hk1 hS => ?_)
          obtain ⟨hP1, hK1, hD1⟩ := hB
          rw [ht] at hP1
          obtain ⟨hP, hD⟩ := jn_at hP hD hk9 hk1 hP1
          rw [rf_set hc8] at hP hD
          clear hP1 hD1 hK1 hFc hk1 hz1 ht hvm hk9
          generalize H1 = H at hP hS ⊢
          have hP : va_P (dC, dI) vwCl (rfX p0 qt qg h0 rt cB cI vn ct ft fb gl (fup T ct (upd (upd (upd (T ct) 0 a0) (0 + 1) a1) (0 + 2) a2)) ++ Y) H := hP
          have hD : va_D A (rfX p0 qt qg h0 rt cB cI vn ct ft fb gl (fup T ct (upd (upd (upd (T ct) 0 a0) (0 + 1) a1) (0 + 2) a2)) ++ Y) := hD
          refine lv_aload hx hb dX1_rule_66 (lv_at hl 0 rfl) ?_
          refine lv_iconst (v := nI 3) hx hb dX1_rule_68 (by decide) ?_
          refine lv_iload hx hb dX1_rule_69 (lv_at hl 5 rfl) ?_
          refine lv_iload hx hb dX1_rule_71 (lv_at hl 6 rfl) ?_
          refine lv_iload hx hb dX1_rule_73 (lv_at hl 7 rfl) ?_
          have hk9 : (rfX p0 qt qg h0 rt cB cI vn ct ft fb gl (fup T ct (upd (upd (upd (T ct) 0 a0) (0 + 1) a1) (0 + 2) a2)) ++ Y)[3 + ct]? = some (rt ct, .inl (cI, 7, .inl ((fup T ct (upd (upd (upd (T ct) 0 a0) (0 + 1) a1) (0 + 2) a2)) ct))) := rf_row hc8
          have hFc := va_oneA hD hk9 hS hA
          refine va_callv (va_runS (As := [.ref (rt ct), .int (nI 3), .int b0, .int b1, .int b2]) (rest := []) ⟨hx, hb, hml, hown, hts⟩ (c_X1_fill l dC dI H.size cI (rt ct) 7 3 ((fup T ct (upd (upd (upd (T ct) 0 a0) (0 + 1) a1) (0 + 2) a2)) ct) b0 b1 b2 (by omega) (by omega)) (va_cwS 5 hts gX1_rule_X1_fill rfl rfl rfl (by decide +kernel) ⟨Nat.le_of_ble_eq_true rfl, Nat.le_of_ble_eq_true rfl⟩) ⟨fun a U g mk q => by obtain ⟨q0, q1, qP, qK, qD⟩ := q; exact ⟨q0, q1, qP, va_K.moved (u := U) (U := U.calling g mk a) (Vm.Alike.refl U.vm) qK, qD⟩, fun U hU hW => ⟨rfl, by rw [hU], by rw [hU]; exact va_oneP hP hk9, va_K.moved hW.alike (hK.sub [1] rfl), va_oneD trivial⟩⟩ rfl rfl hl.1 rfl (lv_room (Nat.le_of_ble_eq_true rfl)) dX1_rule_75 ⟨(Nat.zero_le _), (Nat.zero_le _)⟩) hS (fun q _ h => hFc q h) hFc (fun v9 t H1 locs ht hvm hw hB hz1 hk1 hS => ?_)
          obtain ⟨hP1, hK1, hD1⟩ := hB
          rw [ht] at hP1
          obtain ⟨hP, hD⟩ := jn_at hP hD hk9 hk1 hP1
          rw [rf_set hc8] at hP hD
          clear hP1 hD1 hK1 hFc hk1 hz1 ht hvm hk9
          generalize H1 = H at hP hS ⊢
          have hP : va_P (dC, dI) vwCl (rfX p0 qt qg h0 rt cB cI vn ct ft fb gl (fup (fup T ct (upd (upd (upd (T ct) 0 a0) (0 + 1) a1) (0 + 2) a2)) ct (upd (upd (upd ((fup T ct (upd (upd (upd (T ct) 0 a0) (0 + 1) a1) (0 + 2) a2)) ct) 3 b0) (3 + 1) b1) (3 + 2) b2)) ++ Y) H := hP
          have hD : va_D A (rfX p0 qt qg h0 rt cB cI vn ct ft fb gl (fup (fup T ct (upd (upd (upd (T ct) 0 a0) (0 + 1) a1) (0 + 2) a2)) ct (upd (upd (upd ((fup T ct (upd (upd (upd (T ct) 0 a0) (0 + 1) a1) (0 + 2) a2)) ct) 3 b0) (3 + 1) b1) (3 + 2) b2)) ++ Y) := hD
          refine lv_aload hx hb dX1_rule_78 (lv_at hl 0 rfl) ?_
          refine lv_bipush (v := nI 6) hx hb dX1_rule_80 (by decide) ?_
          refine lv_iload hx hb dX1_rule_82 (lv_at hl 8 rfl) ?_
          refine na_iast hx hb hK hP hD hS (3 + ct) 1 (rf_row hc8) rfl (show 6 < 7 by omega) (by decide) dX1_rule_84 (fun H locs hP hD hS => ?_)
          rw [rf_set hc8] at hP hD
          have hP : va_P (dC, dI) vwCl (rfX p0 qt qg h0 rt cB cI vn ct ft fb gl (fup (fup (fup T ct (upd (upd (upd (T ct) 0 a0) (0 + 1) a1) (0 + 2) a2)) ct (upd (upd (upd ((fup T ct (upd (upd (upd (T ct) 0 a0) (0 + 1) a1) (0 + 2) a2)) ct) 3 b0) (3 + 1) b1) (3 + 2) b2)) ct (upd ((fup (fup T ct (upd (upd (upd (T ct) 0 a0) (0 + 1) a1) (0 + 2) a2)) ct (upd (upd (upd ((fup T ct (upd (upd (upd (T ct) 0 a0) (0 + 1) a1) (0 + 2) a2)) ct) 3 b0) (3 + 1) b1) (3 + 2) b2)) ct) 6 d)) ++ Y) H := hP
          have hD : va_D A (rfX p0 qt qg h0 rt cB cI vn ct ft fb gl (fup (fup (fup T ct (upd (upd (upd (T ct) 0 a0) (0 + 1) a1) (0 + 2) a2)) ct (upd (upd (upd ((fup T ct (upd (upd (upd (T ct) 0 a0) (0 + 1) a1) (0 + 2) a2)) ct) 3 b0) (3 + 1) b1) (3 + 2) b2)) ct (upd ((fup (fup T ct (upd (upd (upd (T ct) 0 a0) (0 + 1) a1) (0 + 2) a2)) ct (upd (upd (upd ((fup T ct (upd (upd (upd (T ct) 0 a0) (0 + 1) a1) (0 + 2) a2)) ct) 3 b0) (3 + 1) b1) (3 + 2) b2)) ct) 6 d)) ++ Y) := hD
          refine lv_aload_n hx hb dX1_rule_85 rfl (lv_at hl 1 rfl) ?_
          refine lv_dup hx hb dX1_rule_86 rfl ?_
          refine va_get (D := (dC, dI)) (ci := 1) (v := .int (nI ct)) (C := RX1) (T := TX1) (N := 7) hx hb hts (fun _ h => List.mem_cons_of_mem _ (List.mem_append_right _ h)) hown hK hP 0 rfl rfl 4 (by decide) (hts (.fieldLink RX1 29 "RankFinder" "count" "I") (List.mem_of_getElem? (i := 1) rfl)) (fun _ h9 => h9) rfl dX1_rule_87 ?_
          refine lv_iconst (v := nI 1) hx hb dX1_rule_90 (by decide) ?_
          refine lv_iadd hx hb dX1_rule_91 ?_
          refine lv_topi (fun z_1 ez_1 => ?_)
          obtain rfl : z_1 = nI (ct + 1) := ez_1.trans (nI_add ct 1)
          refine va_put (D := (dC, dI)) (ci := 1) (v := .int (nI (ct + 1))) (ty := .int) (C := RX1) (T := TX1) (N := 7) hx hb hts (fun _ h => List.mem_cons_of_mem _ (List.mem_append_right _ h)) tyX1 tyX1_ok nmX1 hown hK hP hD hS 0 rfl rfl 4 (by decide) (hts (.fieldLink RX1 29 "RankFinder" "count" "I") (List.mem_of_getElem? (i := 1) rfl)) (fun _ h9 => h9) rfl (by decide +kernel) rfl rfl (Nat.le_of_ble_eq_true rfl) dX1_rule_92 (fun H locs hP hD hS => ?_)
          have hP : va_P (dC, dI) vwCl (rfX p0 qt qg h0 rt cB cI vn (ct + 1) ft fb gl (fup (fup (fup T ct (upd (upd (upd (T ct) 0 a0) (0 + 1) a1) (0 + 2) a2)) ct (upd (upd (upd ((fup T ct (upd (upd (upd (T ct) 0 a0) (0 + 1) a1) (0 + 2) a2)) ct) 3 b0) (3 + 1) b1) (3 + 2) b2)) ct (upd ((fup (fup T ct (upd (upd (upd (T ct) 0 a0) (0 + 1) a1) (0 + 2) a2)) ct (upd (upd (upd ((fup T ct (upd (upd (upd (T ct) 0 a0) (0 + 1) a1) (0 + 2) a2)) ct) 3 b0) (3 + 1) b1) (3 + 2) b2)) ct) 6 d)) ++ Y) H := hP
          have hD : va_D A (rfX p0 qt qg h0 rt cB cI vn (ct + 1) ft fb gl (fup (fup (fup T ct (upd (upd (upd (T ct) 0 a0) (0 + 1) a1) (0 + 2) a2)) ct (upd (upd (upd ((fup T ct (upd (upd (upd (T ct) 0 a0) (0 + 1) a1) (0 + 2) a2)) ct) 3 b0) (3 + 1) b1) (3 + 2) b2)) ct (upd ((fup (fup T ct (upd (upd (upd (T ct) 0 a0) (0 + 1) a1) (0 + 2) a2)) ct (upd (upd (upd ((fup T ct (upd (upd (upd (T ct) 0 a0) (0 + 1) a1) (0 + 2) a2)) ct) 3 b0) (3 + 1) b1) (3 + 2) b2)) ct) 6 d)) ++ Y) := hD
          refine lv_aload_n hx hb dX1_rule_95 rfl (lv_at hl 1 rfl) ?_
          refine va_get (D := (dC, dI)) (ci := 1) (v := .int (nI (ct + 1))) (C := RX1) (T := TX1) (N := 7) hx hb hts (fun _ h => List.mem_cons_of_mem _ (List.mem_append_right _ h)) hown hK hP 0 rfl rfl 4 (by decide) (hts (.fieldLink RX1 29 "RankFinder" "count" "I") (List.mem_of_getElem? (i := 1) rfl)) (fun _ h9 => h9) rfl dX1_rule_96 ?_
          refine lv_iconst (v := nI 1) hx hb dX1_rule_99 (by decide) ?_
          refine lv_isub hx hb dX1_rule_100 ?_
          refine lv_topi (fun z_2 ez_2 => ?_)
          obtain rfl : z_2 = nI ct := ez_2.trans (pk_sub (a := ct + 1) (b := 1) (by omega))
          have e9 : fup (fup (fup T ct (upd (upd (upd (T ct) 0 a0) (0 + 1) a1) (0 + 2) a2)) ct (upd (upd (upd ((fup T ct (upd (upd (upd (T ct) 0 a0) (0 + 1) a1) (0 + 2) a2)) ct) 3 b0) (3 + 1) b1) (3 + 2) b2)) ct (upd ((fup (fup T ct (upd (upd (upd (T ct) 0 a0) (0 + 1) a1) (0 + 2) a2)) ct (upd (upd (upd ((fup T ct (upd (upd (upd (T ct) 0 a0) (0 + 1) a1) (0 + 2) a2)) ct) 3 b0) (3 + 1) b1) (3 + 2) b2)) ct) 6 d) = fup T ct (rowF (T ct) a0 a1 a2 b0 b1 b2 d) := by simp only [fup_s, fup_2]; rfl
          rw [e9] at hP hD
          exact W.iret (v := (nI ct)) hx hb hr (fun t ht hW => ⟨⟨(nI ct), (ct + 1, fup T ct (rowF (T ct) a0 a1 a2 b0 b1 b2 d)), rfl, Or.inl ⟨hc8, ⟨h1, h2, h3⟩, rfl, rfl⟩, by rw [ht]; exact hP, va_K.moved hW.alike hK, hD⟩, hS.F ht⟩) hS.2.2 dX1_rule_101
        · refine lv_if_ne (tgt := 46) hx hb dX1_rule_41 (by decide) (fun c => absurd rfl c) (fun _ => ?_)
          refine lv_iconst (v := (-1)) hx hb dX1_rule_44 (by decide) ?_
          exact W.iret (v := (-1)) hx hb hr (fun t ht hW => ⟨⟨(-1), (ct, T), rfl, Or.inr ⟨rfl, fun q => h3 q.2.2.2, rfl⟩, by rw [ht]; exact hP, va_K.moved hW.alike hK, hD⟩, hS.F ht⟩) hS.2.2 dX1_rule_45
      · refine lv_if_eq (tgt := 44) hx hb dX1_rule_31 (by decide) (fun _ => ?_) (fun c => absurd rfl c)
        refine lv_iconst (v := (-1)) hx hb dX1_rule_44 (by decide) ?_
        exact W.iret (v := (-1)) hx hb hr (fun t ht hW => ⟨⟨(-1), (ct, T), rfl, Or.inr ⟨rfl, fun q => h2 q.2.2.1, rfl⟩, by rw [ht]; exact hP, va_K.moved hW.alike hK, hD⟩, hS.F ht⟩) hS.2.2 dX1_rule_45
    · refine lv_if_eq (tgt := 44) hx hb dX1_rule_17 (by decide) (fun _ => ?_) (fun c => absurd rfl c)
      refine lv_iconst (v := (-1)) hx hb dX1_rule_44 (by decide) ?_
      exact W.iret (v := (-1)) hx hb hr (fun t ht hW => ⟨⟨(-1), (ct, T), rfl, Or.inr ⟨rfl, fun q => h1 q.2.1, rfl⟩, by rw [ht]; exact hP, va_K.moved hW.alike hK, hD⟩, hS.F ht⟩) hS.2.2 dX1_rule_45
set_option maxHeartbeats 1000000 in
set_option maxRecDepth 100000 in
/-- drop(k) -/
theorem c_X1_drop (l : Launch) (dC : Nat → ClassId) (dI : Nat → Nat → Nat) (sz : Nat) (p0 qt qg h0 : Nat) (rt : Nat → Nat) (cB cI : ClassId) (tz : List (ClassId × FieldType)) (Y : va_W) (vn ct : Nat) (ft fb : Int64) (gl : Nat → Int32) (T : Nat → Nat → Int32) (k : Int32) (hc : ct ≤ 8) : Met l yX1_drop wsX1_drop ({ frames := 1, cells := 0, slots := 0, locals := 60 }) (va_Pc [.ref p0, .int k] (fun U => U.heap.size = sz ∧ va_P (dC, dI) vwCl (rfX p0 qt qg h0 rt cB cI vn ct ft fb gl T ++ Y) U.heap ∧ va_K (dC, dI) vwCl ((cB, .array .int) :: (cI, .int) :: tz) U ∧ va_D (fun _ => True) (rfX p0 qt qg h0 rt cB cI vn ct ft fb gl T ++ Y))) (va_Qi (fun (x : Int32) (v : Nat × (Nat → Nat → Int32)) => (∃ j, j < ct ∧ k = nI j ∧ x = 1 ∧ v = (ct - 1, drF T j ct)) ∨ (x = 0 ∧ (∀ j, j < ct → k ≠ nI j) ∧ v = (ct, T))) (fun v t => va_P (dC, dI) vwCl (rfX p0 qt qg h0 rt cB cI vn v.1 ft fb gl v.2 ++ Y) t.heap ∧ va_K (dC, dI) vwCl ((cB, .array .int) :: (cI, .int) :: tz) t ∧ va_D (va_A (rfX p0 qt qg h0 rt cB cI vn ct ft fb gl T ++ Y) sz) (rfX p0 qt qg h0 rt cB cI vn v.1 ft fb gl v.2 ++ Y)) (va_A (rfX p0 qt qg h0 rt cB cI vn ct ft fb gl T ++ Y) sz)) 0 0 (va_A (rfX p0 qt qg h0 rt cB cI vn ct ft fb gl T ++ Y) sz) := by
  refine Met.ofW (cc := cX1_drop) (maxL := 3) (ret := (some .boolean)) (by decide) rfl ?_
  intro p e s m args below meth c s₁ B hml hv
  obtain ⟨rfl, hsz, hP, hK, hD0⟩ := hv
  have hx := B.exec
  have hb := B.bytes
  have hr := B.returns
  have hts := atoms_spec (ws := wsX1_drop) B.pre
  have hown : s.vm.findClass RX1 = some m.cls := findClass_of_methodNamed B.named
  subst hsz
  have hD := hD0.self (sz := s.heap.size)
  clear hD0
  generalize hAe : va_A (rfX p0 qt qg h0 rt cB cI vn ct ft fb gl T ++ Y) s.heap.size = A at hD ⊢
  have hA : ∀ q : Nat, s.heap.size ≤ q → A q := fun q h => by rw [← hAe]; exact Or.inr h
  have hl := lv_entry ([.ref p0, .int k]) (n := 3) (Nat.le_of_ble_eq_true rfl)
  rw [lg_entry_eq]
  generalize (lg_sl ([.ref p0, .int k]) ++ List.replicate (3 - (lg_sl ([.ref p0, .int k])).length) Slot.unset).toArray = ls at hl ⊢
  have hl : lv_has ls 3 [(0, .ref p0), (1, .int k)] := hl
  have hP : va_P (dC, dI) vwCl (rfX p0 qt qg h0 rt cB cI vn ct ft fb gl T ++ Y) s.heap := hP
  obtain ⟨H, hH⟩ : ∃ H, H = s.heap := ⟨_, rfl⟩
  have hS : va_S A s.heap H [] := by rw [hH]; exact va_S.rf
  rw [← hH] at hP ⊢
  refine lv_aload_n hx hb dX1_drop_0 rfl (lv_at hl 0 rfl) ?_
  refine lv_iload_n hx hb dX1_drop_1 rfl (lv_at hl 1 rfl) ?_
  have hFc : ∀ q, va_A (rfX p0 qt qg h0 rt cB cI vn ct ft fb gl T ++ Y) H.size q → A q := va_fall hD hS hA
  refine va_calli (va_runV (As := [.int k]) (rest := []) ⟨hx, hb, hml, hown, hts⟩ (c_X1_isRule l dC dI H.size p0 qt qg h0 rt cB cI tz Y vn ct ft fb gl T k hc) (cwV 1 hts gX1_drop_X1_isRule rfl rfl rfl (by decide +kernel) ⟨Nat.le_of_ble_eq_true rfl, Nat.le_of_ble_eq_true rfl⟩) ⟨fun a U g mk q => by obtain ⟨q0, q1, qP, qK, qD⟩ := q; exact ⟨q0, q1, qP, va_K.moved (u := U) (U := U.calling g mk a) (Vm.Alike.refl U.vm) qK, qD⟩, va_recv hK hP (ci := 1) (q0 := 0) rfl rfl, fun U hU hW => ⟨rfl, by rw [hU], by rw [hU]; exact hP, va_K.moved hW.alike hK, hD.weaken (fun _ _ _ _ => trivial)⟩⟩ rfl rfl hl.1 rfl (lv_room (Nat.le_of_ble_eq_true rfl)) dX1_drop_2 ⟨(Nat.zero_le _), (Nat.zero_le _)⟩) hS (fun q _ h => hFc q h) hFc (fun r_2 v9 t H1 locs ht hvm hw hB hz1 hk1 hS => ?_)
  obtain ⟨hP1, hK1, hD1⟩ := hB
  rw [ht] at hP1
  clear hP hD hK
  have hK := va_K.moved hvm.symm hK1
  have hP := hP1
  have hD := hD1.weaken (B := A) (fun _ q _ h => hFc q.1 h)
  clear hP1 hD1 hK1 hFc hk1 hz1 ht hvm
  generalize H1 = H at hP hS ⊢
  rcases hw with ⟨rfl, j, hj, rfl⟩ | ⟨rfl, hz⟩
  · refine lv_if_ne (tgt := 10) hx hb dX1_drop_5 (by decide) (fun _ => ?_) (fun c => absurd c (by decide))
    refine lv_iload_n hx hb dX1_drop_10 rfl (lv_at hl 1 rfl) ?_
    refine lv_iconst (v := nI 1) hx hb dX1_drop_11 (by decide) ?_
    refine lv_iadd hx hb dX1_drop_12 ?_
    refine lv_topi (fun z_1 ez_1 => ?_)
    obtain rfl : z_1 = nI (j + 1) := ez_1.trans (nI_add j 1)
    refine lv_istore_n (lv' := [(2, .int (nI (j + 1))), (0, .ref p0), (1, .int (nI j))]) hx hb dX1_drop_13 rfl hl (by decide) rfl (fun ls hl => ?_)
    have loop : ∀ (d i : Nat) (H : Heap) (locs : List Loc) (ls : Array Slot), i + d = ct → j < i → va_P (dC, dI) vwCl (rfX p0 qt qg h0 rt cB cI vn ct ft fb gl (drF T j i) ++ Y) H → va_K (dC, dI) vwCl ((cB, .array .int) :: (cI, .int) :: tz) s → va_D A (rfX p0 qt qg h0 rt cB cI vn ct ft fb gl (drF T j i) ++ Y) → va_S A s.heap H locs → lv_has ls 3 [(2, .int (nI i)), (0, .ref p0), (1, .int (nI j))] → W p l e (headSpec wsX1_drop ({ frames := 1, cells := 0, slots := 0, locals := 60 })).room s m #[.ref p0, .int (nI j)] below meth c H locs 0 0 (MQ below (va_Qi (fun (x : Int32) (v : Nat × (Nat → Nat → Int32)) => (∃ j9, j9 < ct ∧ nI j = nI j9 ∧ x = 1 ∧ v = (ct - 1, drF T j9 ct)) ∨ (x = 0 ∧ (∀ j9, j9 < ct → nI j ≠ nI j9) ∧ v = (ct, T))) (fun v t => va_P (dC, dI) vwCl (rfX p0 qt qg h0 rt cB cI vn v.1 ft fb gl v.2 ++ Y) t.heap ∧ va_K (dC, dI) vwCl ((cB, .array .int) :: (cI, .int) :: tz) t ∧ va_D A (rfX p0 qt qg h0 rt cB cI vn v.1 ft fb gl v.2 ++ Y)) A) #[.ref p0, .int (nI j)] s 0 0 A) (F0 m 14 ls []) := by
      clear hP hK hD hS hl
      intro d
      induction d with
      | zero =>
        intro i H locs ls hi hji hP hK hD hS hl
        refine lv_iload_n hx hb dX1_drop_14 rfl (lv_at hl 0 rfl) ?_
        refine lv_aload_n hx hb dX1_drop_15 rfl (lv_at hl 1 rfl) ?_
        refine va_get (D := (dC, dI)) (ci := 1) (v := .int (nI ct)) (C := RX1) (T := TX1) (N := 7) hx hb hts (fun _ h => List.mem_cons_of_mem _ (List.mem_append_right _ h)) hown hK hP 0 rfl rfl 4 (by decide) (hts (.fieldLink RX1 29 "RankFinder" "count" "I") (List.mem_of_getElem? (i := 1) rfl)) (fun _ h9 => h9) rfl dX1_drop_16 ?_
        refine lv_icmp_ge (tgt := 49) hx hb dX1_drop_19 (by decide) (fun c1 => ?_) (fun c1 => ?_)
        · obtain rfl : i = ct := by omega
          refine lv_aload_n hx hb dX1_drop_49 rfl (lv_at hl 1 rfl) ?_
          refine lv_dup hx hb dX1_drop_50 rfl ?_
          refine va_get (D := (dC, dI)) (ci := 1) (v := .int (nI i)) (C := RX1) (T := TX1) (N := 7) hx hb hts (fun _ h => List.mem_cons_of_mem _ (List.mem_append_right _ h)) hown hK hP 0 rfl rfl 4 (by decide) (hts (.fieldLink RX1 29 "RankFinder" "count" "I") (List.mem_of_getElem? (i := 1) rfl)) (fun _ h9 => h9) rfl dX1_drop_51 ?_
          refine lv_iconst (v := nI 1) hx hb dX1_drop_54 (by decide) ?_
          refine lv_isub hx hb dX1_drop_55 ?_
          refine lv_topi (fun z_1 ez_1 => ?_)
          obtain rfl : z_1 = nI (i - 1) := ez_1.trans (pk_sub (by omega))
          refine va_put (D := (dC, dI)) (ci := 1) (v := .int (nI (i - 1))) (ty := .int) (C := RX1) (T := TX1) (N := 7) hx hb hts (fun _ h => List.mem_cons_of_mem _ (List.mem_append_right _ h)) tyX1 tyX1_ok nmX1 hown hK hP hD hS 0 rfl rfl 4 (by decide) (hts (.fieldLink RX1 29 "RankFinder" "count" "I") (List.mem_of_getElem? (i := 1) rfl)) (fun _ h9 => h9) rfl (by decide +kernel) rfl rfl (Nat.le_of_ble_eq_true rfl) dX1_drop_56 (fun H locs hP hD hS => ?_)
          have hP : va_P (dC, dI) vwCl (rfX p0 qt qg h0 rt cB cI vn (i - 1) ft fb gl (drF T j i) ++ Y) H := hP
          have hD : va_D A (rfX p0 qt qg h0 rt cB cI vn (i - 1) ft fb gl (drF T j i) ++ Y) := hD
          refine lv_iconst (v := nI 1) hx hb dX1_drop_59 (by decide) ?_
          exact W.zret (v := (nI 1)) hx hb hr (by rfl) (fun t ht hW => ⟨⟨(nI 1), (i - 1, drF T j i), rfl, Or.inl ⟨j, by omega, rfl, rfl, rfl⟩, by rw [ht]; exact hP, va_K.moved hW.alike hK, hD⟩, hS.F ht⟩) hS.2.2 dX1_drop_60
        · exact absurd (nI_le (by omega) (by omega)) c1
      | succ d ih =>
        intro i H locs ls hi hji hP hK hD hS hl
        refine lv_iload_n hx hb dX1_drop_14 rfl (lv_at hl 0 rfl) ?_
        refine lv_aload_n hx hb dX1_drop_15 rfl (lv_at hl 1 rfl) ?_
        refine va_get (D := (dC, dI)) (ci := 1) (v := .int (nI ct)) (C := RX1) (T := TX1) (N := 7) hx hb hts (fun _ h => List.mem_cons_of_mem _ (List.mem_append_right _ h)) hown hK hP 0 rfl rfl 4 (by decide) (hts (.fieldLink RX1 29 "RankFinder" "count" "I") (List.mem_of_getElem? (i := 1) rfl)) (fun _ h9 => h9) rfl dX1_drop_16 ?_
        refine lv_icmp_ge (tgt := 49) hx hb dX1_drop_19 (by decide) (fun c1 => ?_) (fun c1 => ?_)
        · exact absurd c1 (nI_ge (by omega) (by omega))
        · refine lv_aload_n hx hb dX1_drop_22 rfl (lv_at hl 1 rfl) ?_
          refine va_get (D := (dC, dI)) (ci := 1) (v := .ref qt) (C := RX1) (T := TX1) (N := 7) hx hb hts (fun _ h => List.mem_cons_of_mem _ (List.mem_append_right _ h)) hown hK hP 0 rfl rfl 0 (by decide) (hts (.fieldLink RX1 11 "RankFinder" "told" "[[I") (List.mem_of_getElem? (i := 2) rfl)) (fun _ h9 => h9) rfl dX1_drop_23 ?_
          refine lv_iload_n hx hb dX1_drop_26 rfl (lv_at hl 0 rfl) ?_
          refine na_aald (y := rt i) hx hb hK hP 1 0 rfl rfl (show i < 8 by omega) (by decide) (if_pos (show i < 8 by omega)) dX1_drop_27 ?_
          refine lv_iconst (v := nI 0) hx hb dX1_drop_28 (by decide) ?_
          refine lv_aload_n hx hb dX1_drop_29 rfl (lv_at hl 1 rfl) ?_
          refine va_get (D := (dC, dI)) (ci := 1) (v := .ref qt) (C := RX1) (T := TX1) (N := 7) hx hb hts (fun _ h => List.mem_cons_of_mem _ (List.mem_append_right _ h)) hown hK hP 0 rfl rfl 0 (by decide) (hts (.fieldLink RX1 11 "RankFinder" "told" "[[I") (List.mem_of_getElem? (i := 2) rfl)) (fun _ h9 => h9) rfl dX1_drop_30 ?_
          refine lv_iload_n hx hb dX1_drop_33 rfl (lv_at hl 0 rfl) ?_
          refine lv_iconst (v := nI 1) hx hb dX1_drop_34 (by decide) ?_
          refine lv_isub hx hb dX1_drop_35 ?_
          refine lv_topi (fun z_1 ez_1 => ?_)
          obtain rfl : z_1 = nI (i - 1) := ez_1.trans (pk_sub (by omega))
          refine na_aald (y := rt (i - 1)) hx hb hK hP 1 0 rfl rfl (show i - 1 < 8 by omega) (by decide) (if_pos (show i - 1 < 8 by omega)) dX1_drop_36 ?_
          refine lv_iconst (v := nI 0) hx hb dX1_drop_37 (by decide) ?_
          refine lv_bipush (v := nI 7) hx hb dX1_drop_38 (by decide) ?_
          refine va_copyi hx hb (hml.trans hl.1.symm) hown (hts (.methodLink RX1 55 arraycopyName) (List.mem_of_getElem? (i := 3) rfl)) (hts (.native arraycopyName) (List.mem_of_getElem? (i := 4) rfl)) (hts (.static arraycopyName) (List.mem_of_getElem? (i := 5) rfl)) (hts (.initialized "java/lang/System") (List.mem_of_getElem? (i := 6) rfl)) hK hP hD hS (3 + i) (3 + (i - 1)) 1 1 (rf_row (by omega)) (rf_row (by omega)) rfl rfl rfl (by decide) (by decide) (by decide) (by decide) (by decide) (fun _ _ => rfl) (Nat.le_of_ble_eq_true rfl) (Nat.le_of_ble_eq_true rfl) dX1_drop_40 (fun H locs hP hD hS => ?_)
          rw [show (nI 0).toNatClampNeg = 0 from rfl, show (nI 7).toNatClampNeg = 7 from rfl, rf_set (by omega), drF_s hji] at hP hD
          have hP : va_P (dC, dI) vwCl (rfX p0 qt qg h0 rt cB cI vn ct ft fb gl (drF T j (i + 1)) ++ Y) H := hP
          have hD : va_D A (rfX p0 qt qg h0 rt cB cI vn ct ft fb gl (drF T j (i + 1)) ++ Y) := hD
          refine lv_iinc (v := nI (i + 1)) (lv' := [(2, .int (nI (i + 1))), (0, .ref p0), (1, .int (nI j))]) hx hb dX1_drop_43 hl (k := 0) rfl (nI_1 _) (by decide) rfl (fun ls hl => ?_)
          refine lv_goto (tgt := 14) hx hb dX1_drop_46 (by decide) ?_
          exact ih (i + 1) H _ ls (by omega) (by omega) hP hK hD hS (lv_sub hl [0, 1, 2] rfl)
    exact loop (ct - (j + 1)) (j + 1) H _ ls (by omega) (by omega) (by rw [drF_0]; exact hP) hK (by rw [drF_0]; exact hD) hS (lv_sub hl [0, 1, 2] rfl)
  · refine lv_if_ne (tgt := 10) hx hb dX1_drop_5 (by decide) (fun c => absurd rfl c) (fun _ => ?_)
    refine lv_iconst (v := nI 0) hx hb dX1_drop_8 (by decide) ?_
    exact W.zret (v := (nI 0)) hx hb hr (by rfl) (fun t ht hW => ⟨⟨(nI 0), (ct, T), rfl, Or.inr ⟨rfl, hz, rfl⟩, by rw [ht]; exact hP, va_K.moved hW.alike hK, hD⟩, hS.F ht⟩) hS.2.2 dX1_drop_9
set_option maxHeartbeats 1000000 in
set_option maxRecDepth 100000 in
/-- partOf(k, j, ..) -/
theorem c_X1_partOf (l : Launch) (dC : Nat → ClassId) (dI : Nat → Nat → Nat) (sz : Nat) (p0 qt qg h0 : Nat) (rt : Nat → Nat) (cB cI : ClassId) (tz : List (ClassId × FieldType)) (Y : va_W) (vn ct : Nat) (ft fb : Int64) (gl : Nat → Int32) (T : Nat → Nat → Int32) (k j : Nat) (x1 x2 x3 : Int64) (hk : k < 8) (hj : j < 5) (hv1 : 1 ≤ vn) (hv3 : vn ≤ 3) : Met l yX1_partOf wsX1_partOf ({ frames := 0, cells := 0, slots := 0, locals := 0 }) (va_Pc [.ref p0, .int (nI k), .int (nI j), .long x1, .long x2, .long x3] (fun U => U.heap.size = sz ∧ va_P (dC, dI) vwCl (rfX p0 qt qg h0 rt cB cI vn ct ft fb gl T ++ Y) U.heap ∧ va_K (dC, dI) vwCl ((cB, .array .int) :: (cI, .int) :: tz) U ∧ va_D (fun _ => True) (rfX p0 qt qg h0 rt cB cI vn ct ft fb gl T ++ Y))) (va_Ql (fun (x : Int64) (v : Unit) => x = prF (T k) vn j x1 x2 x3) (fun v t => va_P (dC, dI) vwCl (rfX p0 qt qg h0 rt cB cI vn ct ft fb gl T ++ Y) t.heap ∧ va_K (dC, dI) vwCl ((cB, .array .int) :: (cI, .int) :: tz) t ∧ va_D (va_A (rfX p0 qt qg h0 rt cB cI vn ct ft fb gl T ++ Y) sz) (rfX p0 qt qg h0 rt cB cI vn ct ft fb gl T ++ Y)) (va_A (rfX p0 qt qg h0 rt cB cI vn ct ft fb gl T ++ Y) sz)) 0 0 (va_A (rfX p0 qt qg h0 rt cB cI vn ct ft fb gl T ++ Y) sz) := by
  refine Met.ofW (cc := cX1_partOf) (maxL := 12) (ret := (some .long)) (by decide) rfl ?_
  intro p e s m args below meth c s₁ B hml hv
  obtain ⟨rfl, hsz, hP, hK, hD0⟩ := hv
  have hx := B.exec
  have hb := B.bytes
  have hr := B.returns
  have hts := atoms_spec (ws := wsX1_partOf) B.pre
  have hown : s.vm.findClass RX1 = some m.cls := findClass_of_methodNamed B.named
  subst hsz
  have hD := hD0.self (sz := s.heap.size)
  clear hD0
  generalize hAe : va_A (rfX p0 qt qg h0 rt cB cI vn ct ft fb gl T ++ Y) s.heap.size = A at hD ⊢
  have hA : ∀ q : Nat, s.heap.size ≤ q → A q := fun q h => by rw [← hAe]; exact Or.inr h
  have hl := lv_entry ([.ref p0, .int (nI k), .int (nI j), .long x1, .long x2, .long x3]) (n := 12) (Nat.le_of_ble_eq_true rfl)
  rw [lg_entry_eq]
  generalize (lg_sl ([.ref p0, .int (nI k), .int (nI j), .long x1, .long x2, .long x3]) ++ List.replicate (12 - (lg_sl ([.ref p0, .int (nI k), .int (nI j), .long x1, .long x2, .long x3])).length) Slot.unset).toArray = ls at hl ⊢
  have hl : lv_has ls 12 [(0, .ref p0), (1, .int (nI k)), (2, .int (nI j)), (3, .long x1), (5, .long x2), (7, .long x3)] := hl
  have hP : va_P (dC, dI) vwCl (rfX p0 qt qg h0 rt cB cI vn ct ft fb gl T ++ Y) s.heap := hP
  obtain ⟨H, hH⟩ : ∃ H, H = s.heap := ⟨_, rfl⟩
  have hS : va_S A s.heap H [] := by rw [hH]; exact va_S.rf
  rw [← hH] at hP ⊢
  refine lv_aload_n hx hb dX1_partOf_0 rfl (lv_at hl 0 rfl) ?_
  refine va_get (D := (dC, dI)) (ci := 1) (v := .ref qt) (C := RX1) (T := TX1) (N := 7) hx hb hts (fun _ h => List.mem_cons_of_mem _ (List.mem_append_right _ h)) hown hK hP 0 rfl rfl 0 (by decide) (hts (.fieldLink RX1 11 "RankFinder" "told" "[[I") (List.mem_of_getElem? (i := 1) rfl)) (fun _ h9 => h9) rfl dX1_partOf_1 ?_
  refine lv_iload_n hx hb dX1_partOf_4 rfl (lv_at hl 1 rfl) ?_
  refine na_aald (y := rt k) hx hb hK hP 1 0 rfl rfl hk (by decide) (if_pos hk) dX1_partOf_5 ?_
  refine lv_astore (lv' := [(9, .ref (rt k)), (0, .ref p0), (1, .int (nI k)), (2, .int (nI j)), (3, .long x1), (5, .long x2), (7, .long x3)]) hx hb dX1_partOf_6 hl (by decide) rfl (fun ls hl => ?_)
  refine lv_aload hx hb dX1_partOf_8 (lv_at hl 0 rfl) ?_
  refine lv_iload_n hx hb dX1_partOf_10 rfl (lv_at hl 3 rfl) ?_
  refine na_iald hx hb hK hP (3 + k) 1 (rf_row hk) rfl (show j < 7 by omega) (by decide) dX1_partOf_11 ?_
  refine lv_i2l hx hb dX1_partOf_12 rfl ?_
  refine lv_lload_n hx hb dX1_partOf_13 rfl (lv_at hl 4 rfl) ?_
  refine lv_lmul hx hb dX1_partOf_14 ?_
  refine lv_lstore (lv' := [(10, .long ((Int32.toInt64 (T k j)) * x1)), (9, .ref (rt k)), (0, .ref p0), (1, .int (nI k)), (2, .int (nI j)), (3, .long x1), (5, .long x2), (7, .long x3)]) hx hb dX1_partOf_15 hl (by decide) rfl (fun ls hl => ?_)
  refine lv_aload_n hx hb dX1_partOf_17 rfl (lv_at hl 2 rfl) ?_
  refine va_get (D := (dC, dI)) (ci := 1) (v := .int (nI vn)) (C := RX1) (T := TX1) (N := 7) hx hb hts (fun _ h => List.mem_cons_of_mem _ (List.mem_append_right _ h)) hown hK hP 0 rfl rfl 3 (by decide) (hts (.fieldLink RX1 25 "RankFinder" "variables" "I") (List.mem_of_getElem? (i := 2) rfl)) (fun _ h9 => h9) rfl dX1_partOf_18 ?_
  refine lv_iconst (v := nI 1) hx hb dX1_partOf_21 (by decide) ?_
  refine lv_icmp_le (tgt := 40) hx hb dX1_partOf_22 (by decide) (fun c1 => ?_) (fun c1 => ?_)
  · refine lv_aload_n hx hb dX1_partOf_40 rfl (lv_at hl 2 rfl) ?_
    refine va_get (D := (dC, dI)) (ci := 1) (v := .int (nI vn)) (C := RX1) (T := TX1) (N := 7) hx hb hts (fun _ h => List.mem_cons_of_mem _ (List.mem_append_right _ h)) hown hK hP 0 rfl rfl 3 (by decide) (hts (.fieldLink RX1 25 "RankFinder" "variables" "I") (List.mem_of_getElem? (i := 2) rfl)) (fun _ h9 => h9) rfl dX1_partOf_41 ?_
    refine lv_iconst (v := nI 2) hx hb dX1_partOf_44 (by decide) ?_
    refine lv_icmp_le (tgt := 63) hx hb dX1_partOf_45 (by decide) (fun c2 => ?_) (fun c2 => ?_)
    · refine lv_lload hx hb dX1_partOf_63 (lv_at hl 0 rfl) ?_
      exact W.lret (v := ((Int32.toInt64 (T k j)) * x1)) hx hb hr (fun t ht hW => ⟨⟨((Int32.toInt64 (T k j)) * x1), (), rfl, by unfold prF; rw [if_neg (fun q => nI_ge q (by omega) c2), if_neg (fun q => nI_ge q (by omega) c1)], by rw [ht]; exact hP, va_K.moved hW.alike hK, hD⟩, hS.F ht⟩) hS.2.2 dX1_partOf_65
    · refine lv_lload hx hb dX1_partOf_48 (lv_at hl 0 rfl) ?_
      refine lv_aload hx hb dX1_partOf_50 (lv_at hl 1 rfl) ?_
      refine lv_iload_n hx hb dX1_partOf_52 rfl (lv_at hl 4 rfl) ?_
      refine lv_iconst (v := nI 2) hx hb dX1_partOf_53 (by decide) ?_
      refine lv_iadd hx hb dX1_partOf_54 ?_
      refine lv_topi (fun z_1 ez_1 => ?_)
      obtain rfl : z_1 = nI (j + 2) := ez_1.trans (nI_add j 2)
      refine na_iald hx hb hK hP (3 + k) 1 (rf_row hk) rfl (show j + 2 < 7 by omega) (by decide) dX1_partOf_55 ?_
      refine lv_i2l hx hb dX1_partOf_56 rfl ?_
      refine lv_lload hx hb dX1_partOf_57 (lv_at hl 7 rfl) ?_
      refine lv_lmul hx hb dX1_partOf_59 ?_
      refine lv_ladd hx hb dX1_partOf_60 ?_
      refine lv_lstore (lv' := [(10, .long (((Int32.toInt64 (T k j)) * x1) + ((Int32.toInt64 (T k (j + 2))) * x3))), (9, .ref (rt k)), (0, .ref p0), (1, .int (nI k)), (2, .int (nI j)), (3, .long x1), (5, .long x2), (7, .long x3)]) hx hb dX1_partOf_61 hl (by decide) rfl (fun ls hl => ?_)
      refine lv_lload hx hb dX1_partOf_63 (lv_at hl 0 rfl) ?_
      exact W.lret (v := (((Int32.toInt64 (T k j)) * x1) + ((Int32.toInt64 (T k (j + 2))) * x3))) hx hb hr (fun t ht hW => ⟨⟨(((Int32.toInt64 (T k j)) * x1) + ((Int32.toInt64 (T k (j + 2))) * x3)), (), rfl, by unfold prF; rw [if_pos (Nat.not_le.mp (fun q => c2 (nI_le q (by omega)))), if_neg (fun q => nI_ge q (by omega) c1)], by rw [ht]; exact hP, va_K.moved hW.alike hK, hD⟩, hS.F ht⟩) hS.2.2 dX1_partOf_65
  · refine lv_lload hx hb dX1_partOf_25 (lv_at hl 0 rfl) ?_
    refine lv_aload hx hb dX1_partOf_27 (lv_at hl 1 rfl) ?_
    refine lv_iload_n hx hb dX1_partOf_29 rfl (lv_at hl 4 rfl) ?_
    refine lv_iconst (v := nI 1) hx hb dX1_partOf_30 (by decide) ?_
    refine lv_iadd hx hb dX1_partOf_31 ?_
    refine lv_topi (fun z_2 ez_2 => ?_)
    obtain rfl : z_2 = nI (j + 1) := ez_2.trans (nI_add j 1)
    refine na_iald hx hb hK hP (3 + k) 1 (rf_row hk) rfl (show j + 1 < 7 by omega) (by decide) dX1_partOf_32 ?_
    refine lv_i2l hx hb dX1_partOf_33 rfl ?_
    refine lv_lload hx hb dX1_partOf_34 (lv_at hl 6 rfl) ?_
    refine lv_lmul hx hb dX1_partOf_36 ?_
    refine lv_ladd hx hb dX1_partOf_37 ?_
    refine lv_lstore (lv' := [(10, .long (((Int32.toInt64 (T k j)) * x1) + ((Int32.toInt64 (T k (j + 1))) * x2))), (9, .ref (rt k)), (0, .ref p0), (1, .int (nI k)), (2, .int (nI j)), (3, .long x1), (5, .long x2), (7, .long x3)]) hx hb dX1_partOf_38 hl (by decide) rfl (fun ls hl => ?_)
    refine lv_aload_n hx hb dX1_partOf_40 rfl (lv_at hl 2 rfl) ?_
    refine va_get (D := (dC, dI)) (ci := 1) (v := .int (nI vn)) (C := RX1) (T := TX1) (N := 7) hx hb hts (fun _ h => List.mem_cons_of_mem _ (List.mem_append_right _ h)) hown hK hP 0 rfl rfl 3 (by decide) (hts (.fieldLink RX1 25 "RankFinder" "variables" "I") (List.mem_of_getElem? (i := 2) rfl)) (fun _ h9 => h9) rfl dX1_partOf_41 ?_
    refine lv_iconst (v := nI 2) hx hb dX1_partOf_44 (by decide) ?_
    refine lv_icmp_le (tgt := 63) hx hb dX1_partOf_45 (by decide) (fun c2 => ?_) (fun c2 => ?_)
    · refine lv_lload hx hb dX1_partOf_63 (lv_at hl 0 rfl) ?_
      exact W.lret (v := (((Int32.toInt64 (T k j)) * x1) + ((Int32.toInt64 (T k (j + 1))) * x2))) hx hb hr (fun t ht hW => ⟨⟨(((Int32.toInt64 (T k j)) * x1) + ((Int32.toInt64 (T k (j + 1))) * x2)), (), rfl, by unfold prF; rw [if_neg (fun q => nI_ge q (by omega) c2), if_pos (Nat.not_le.mp (fun q => c1 (nI_le q (by omega))))], by rw [ht]; exact hP, va_K.moved hW.alike hK, hD⟩, hS.F ht⟩) hS.2.2 dX1_partOf_65
    · refine lv_lload hx hb dX1_partOf_48 (lv_at hl 0 rfl) ?_
      refine lv_aload hx hb dX1_partOf_50 (lv_at hl 1 rfl) ?_
      refine lv_iload_n hx hb dX1_partOf_52 rfl (lv_at hl 4 rfl) ?_
      refine lv_iconst (v := nI 2) hx hb dX1_partOf_53 (by decide) ?_
      refine lv_iadd hx hb dX1_partOf_54 ?_
      refine lv_topi (fun z_3 ez_3 => ?_)
      obtain rfl : z_3 = nI (j + 2) := ez_3.trans (nI_add j 2)
      refine na_iald hx hb hK hP (3 + k) 1 (rf_row hk) rfl (show j + 2 < 7 by omega) (by decide) dX1_partOf_55 ?_
      refine lv_i2l hx hb dX1_partOf_56 rfl ?_
      refine lv_lload hx hb dX1_partOf_57 (lv_at hl 7 rfl) ?_
      refine lv_lmul hx hb dX1_partOf_59 ?_
      refine lv_ladd hx hb dX1_partOf_60 ?_
      refine lv_lstore (lv' := [(10, .long ((((Int32.toInt64 (T k j)) * x1) + ((Int32.toInt64 (T k (j + 1))) * x2)) + ((Int32.toInt64 (T k (j + 2))) * x3))), (9, .ref (rt k)), (0, .ref p0), (1, .int (nI k)), (2, .int (nI j)), (3, .long x1), (5, .long x2), (7, .long x3)]) hx hb dX1_partOf_61 hl (by decide) rfl (fun ls hl => ?_)
      refine lv_lload hx hb dX1_partOf_63 (lv_at hl 0 rfl) ?_
      exact W.lret (v := ((((Int32.toInt64 (T k j)) * x1) + ((Int32.toInt64 (T k (j + 1))) * x2)) + ((Int32.toInt64 (T k (j + 2))) * x3))) hx hb hr (fun t ht hW => ⟨⟨((((Int32.toInt64 (T k j)) * x1) + ((Int32.toInt64 (T k (j + 1))) * x2)) + ((Int32.toInt64 (T k (j + 2))) * x3)), (), rfl, by unfold prF; rw [if_pos (Nat.not_le.mp (fun q => c2 (nI_le q (by omega)))), if_pos (Nat.not_le.mp (fun q => c1 (nI_le q (by omega))))], by rw [ht]; exact hP, va_K.moved hW.alike hK, hD⟩, hS.F ht⟩) hS.2.2 dX1_partOf_65
set_option maxHeartbeats 1000000 in
set_option maxRecDepth 100000 in
/-- keeps(..) -/
theorem c_X1_keeps (l : Launch) (dC : Nat → ClassId) (dI : Nat → Nat → Nat) (sz : Nat) (p0 qt qg h0 : Nat) (rt : Nat → Nat) (cB cI : ClassId) (tz : List (ClassId × FieldType)) (Y : va_W) (vn ct : Nat) (ft fb : Int64) (gl : Nat → Int32) (T : Nat → Nat → Int32) (x1 x2 x3 y1 y2 y3 : Int32) (hc : ct ≤ 8) (hv1 : 1 ≤ vn) (hv3 : vn ≤ 3) : Met l yX1_keeps wsX1_keeps ({ frames := 1, cells := 0, slots := 0, locals := 31 }) (va_Pc [.ref p0, .int x1, .int x2, .int x3, .int y1, .int y2, .int y3] (fun U => U.heap.size = sz ∧ va_P (dC, dI) vwCl (rfX p0 qt qg h0 rt cB cI vn ct ft fb gl T ++ Y) U.heap ∧ va_K (dC, dI) vwCl ((cB, .array .int) :: (cI, .int) :: tz) U ∧ va_D (fun _ => True) (rfX p0 qt qg h0 rt cB cI vn ct ft fb gl T ++ Y))) (va_Qi (fun (x : Int32) (v : Unit) => (x = 1 ∧ ∀ k, k < ct → kpF (T k) vn x1 x2 x3 y1 y2 y3) ∨ (x = 0 ∧ ¬ ∀ k, k < ct → kpF (T k) vn x1 x2 x3 y1 y2 y3)) (fun v t => va_P (dC, dI) vwCl (rfX p0 qt qg h0 rt cB cI vn ct ft fb gl T ++ Y) t.heap ∧ va_K (dC, dI) vwCl ((cB, .array .int) :: (cI, .int) :: tz) t ∧ va_D (va_A (rfX p0 qt qg h0 rt cB cI vn ct ft fb gl T ++ Y) sz) (rfX p0 qt qg h0 rt cB cI vn ct ft fb gl T ++ Y)) (va_A (rfX p0 qt qg h0 rt cB cI vn ct ft fb gl T ++ Y) sz)) 0 0 (va_A (rfX p0 qt qg h0 rt cB cI vn ct ft fb gl T ++ Y) sz) := by
  refine Met.ofW (cc := cX1_keeps) (maxL := 10) (ret := (some .boolean)) (by decide) rfl ?_
  intro p e s m args below meth c s₁ B hml hv
  obtain ⟨rfl, hsz, hP, hK, hD0⟩ := hv
  have hx := B.exec
  have hb := B.bytes
  have hr := B.returns
  have hts := atoms_spec (ws := wsX1_keeps) B.pre
  have hown : s.vm.findClass RX1 = some m.cls := findClass_of_methodNamed B.named
  subst hsz
  have hD := hD0.self (sz := s.heap.size)
  clear hD0
  generalize hAe : va_A (rfX p0 qt qg h0 rt cB cI vn ct ft fb gl T ++ Y) s.heap.size = A at hD ⊢
  have hA : ∀ q : Nat, s.heap.size ≤ q → A q := fun q h => by rw [← hAe]; exact Or.inr h
  have hl := lv_entry ([.ref p0, .int x1, .int x2, .int x3, .int y1, .int y2, .int y3]) (n := 10) (Nat.le_of_ble_eq_true rfl)
  rw [lg_entry_eq]
  generalize (lg_sl ([.ref p0, .int x1, .int x2, .int x3, .int y1, .int y2, .int y3]) ++ List.replicate (10 - (lg_sl ([.ref p0, .int x1, .int x2, .int x3, .int y1, .int y2, .int y3])).length) Slot.unset).toArray = ls at hl ⊢
  have hl : lv_has ls 10 [(0, .ref p0), (1, .int x1), (2, .int x2), (3, .int x3), (4, .int y1), (5, .int y2), (6, .int y3)] := hl
  have hP : va_P (dC, dI) vwCl (rfX p0 qt qg h0 rt cB cI vn ct ft fb gl T ++ Y) s.heap := hP
  obtain ⟨H, hH⟩ : ∃ H, H = s.heap := ⟨_, rfl⟩
  have hS : va_S A s.heap H [] := by rw [hH]; exact va_S.rf
  rw [← hH] at hP ⊢
  refine lv_iconst (v := nI 0) hx hb dX1_keeps_0 (by decide) ?_
  refine lv_istore (lv' := [(7, .int (nI 0)), (0, .ref p0), (1, .int x1), (2, .int x2), (3, .int x3), (4, .int y1), (5, .int y2), (6, .int y3)]) hx hb dX1_keeps_1 hl (by decide) rfl (fun ls hl => ?_)
  have loop : ∀ (d k : Nat) (H : Heap) (locs : List Loc) (ls : Array Slot), k + d = ct → (∀ i, i < k → kpF (T i) vn x1 x2 x3 y1 y2 y3) → va_P (dC, dI) vwCl (rfX p0 qt qg h0 rt cB cI vn ct ft fb gl T ++ Y) H → va_K (dC, dI) vwCl ((cB, .array .int) :: (cI, .int) :: tz) s → va_D A (rfX p0 qt qg h0 rt cB cI vn ct ft fb gl T ++ Y) → va_S A s.heap H locs → lv_has ls 10 [(7, .int (nI k)), (0, .ref p0), (1, .int x1), (2, .int x2), (3, .int x3), (4, .int y1), (5, .int y2), (6, .int y3)] → W p l e (headSpec wsX1_keeps ({ frames := 1, cells := 0, slots := 0, locals := 31 })).room s m #[.ref p0, .int x1, .int x2, .int x3, .int y1, .int y2, .int y3] below meth c H locs 0 0 (MQ below (va_Qi (fun (x : Int32) (v : Unit) => (x = 1 ∧ ∀ k, k < ct → kpF (T k) vn x1 x2 x3 y1 y2 y3) ∨ (x = 0 ∧ ¬ ∀ k, k < ct → kpF (T k) vn x1 x2 x3 y1 y2 y3)) (fun v t => va_P (dC, dI) vwCl (rfX p0 qt qg h0 rt cB cI vn ct ft fb gl T ++ Y) t.heap ∧ va_K (dC, dI) vwCl ((cB, .array .int) :: (cI, .int) :: tz) t ∧ va_D A (rfX p0 qt qg h0 rt cB cI vn ct ft fb gl T ++ Y)) A) #[.ref p0, .int x1, .int x2, .int x3, .int y1, .int y2, .int y3] s 0 0 A) (F0 m 3 ls []) := by
    clear hP hK hD hS hl
    intro d
    induction d with
    | zero =>
      intro k H locs ls hk hz hP hK hD hS hl
      refine lv_iload hx hb dX1_keeps_3 (lv_at hl 0 rfl) ?_
      refine lv_aload_n hx hb dX1_keeps_5 rfl (lv_at hl 1 rfl) ?_
      refine va_get (D := (dC, dI)) (ci := 1) (v := .int (nI ct)) (C := RX1) (T := TX1) (N := 7) hx hb hts (fun _ h => List.mem_cons_of_mem _ (List.mem_append_right _ h)) hown hK hP 0 rfl rfl 4 (by decide) (hts (.fieldLink RX1 29 "RankFinder" "count" "I") (List.mem_of_getElem? (i := 1) rfl)) (fun _ h9 => h9) rfl dX1_keeps_6 ?_
      refine lv_icmp_ge (tgt := 69) hx hb dX1_keeps_9 (by decide) (fun c1 => ?_) (fun c1 => ?_)
      · refine lv_iconst (v := nI 1) hx hb dX1_keeps_69 (by decide) ?_
        exact W.zret (v := (nI 1)) hx hb hr (by rfl) (fun t ht hW => ⟨⟨(nI 1), (), rfl, Or.inl ⟨rfl, fun i hi => hz i (by omega)⟩, by rw [ht]; exact hP, va_K.moved hW.alike hK, hD⟩, hS.F ht⟩) hS.2.2 dX1_keeps_70
      · exact absurd (nI_le (by omega) (by omega)) c1
    | succ d ih =>
      intro k H locs ls hk hz hP hK hD hS hl
      refine lv_iload hx hb dX1_keeps_3 (lv_at hl 0 rfl) ?_
      refine lv_aload_n hx hb dX1_keeps_5 rfl (lv_at hl 1 rfl) ?_
      refine va_get (D := (dC, dI)) (ci := 1) (v := .int (nI ct)) (C := RX1) (T := TX1) (N := 7) hx hb hts (fun _ h => List.mem_cons_of_mem _ (List.mem_append_right _ h)) hown hK hP 0 rfl rfl 4 (by decide) (hts (.fieldLink RX1 29 "RankFinder" "count" "I") (List.mem_of_getElem? (i := 1) rfl)) (fun _ h9 => h9) rfl dX1_keeps_6 ?_
      refine lv_icmp_ge (tgt := 69) hx hb dX1_keeps_9 (by decide) (fun c1 => ?_) (fun c1 => ?_)
      · exact absurd c1 (nI_ge (by omega) (by omega))
      · refine lv_aload_n hx hb dX1_keeps_12 rfl (lv_at hl 1 rfl) ?_
        refine lv_iload hx hb dX1_keeps_13 (lv_at hl 0 rfl) ?_
        refine lv_iconst (v := nI 0) hx hb dX1_keeps_15 (by decide) ?_
        refine lv_iload_n hx hb dX1_keeps_16 rfl (lv_at hl 2 rfl) ?_
        refine lv_i2l hx hb dX1_keeps_17 rfl ?_
        refine lv_iload_n hx hb dX1_keeps_18 rfl (lv_at hl 3 rfl) ?_
        refine lv_i2l hx hb dX1_keeps_19 rfl ?_
        refine lv_iload_n hx hb dX1_keeps_20 rfl (lv_at hl 4 rfl) ?_
        refine lv_i2l hx hb dX1_keeps_21 rfl ?_
        have hFc : ∀ q, va_A (rfX p0 qt qg h0 rt cB cI vn ct ft fb gl T ++ Y) H.size q → A q := va_fall hD hS hA
        refine va_calll (va_runV (As := [.int (nI k), .int (nI 0), .long (Int32.toInt64 x1), .long (Int32.toInt64 x2), .long (Int32.toInt64 x3)]) (rest := []) ⟨hx, hb, hml, hown, hts⟩ (c_X1_partOf l dC dI H.size p0 qt qg h0 rt cB cI tz Y vn ct ft fb gl T k 0 x1.toInt64 x2.toInt64 x3.toInt64 (by omega) (by omega) hv1 hv3) (cwV 5 hts gX1_keeps_X1_partOf rfl rfl rfl (by decide +kernel) ⟨Nat.le_of_ble_eq_true rfl, Nat.le_of_ble_eq_true rfl⟩) ⟨fun a U g mk q => by obtain ⟨q0, q1, qP, qK, qD⟩ := q; exact ⟨q0, q1, qP, va_K.moved (u := U) (U := U.calling g mk a) (Vm.Alike.refl U.vm) qK, qD⟩, va_recv hK hP (ci := 1) (q0 := 0) rfl rfl, fun U hU hW => ⟨rfl, by rw [hU], by rw [hU]; exact hP, va_K.moved hW.alike hK, hD.weaken (fun _ _ _ _ => trivial)⟩⟩ rfl rfl hl.1 rfl (lv_room (Nat.le_of_ble_eq_true rfl)) dX1_keeps_22 ⟨(Nat.zero_le _), (Nat.zero_le _)⟩) hS (fun q _ h => hFc q h) hFc (fun r_22 v9 t H1 locs ht hvm hw hB hz1 hk1 hS => ?_)
        obtain ⟨hP1, hK1, hD1⟩ := hB
        rw [ht] at hP1
        clear hP hD hK
        have hK := va_K.moved hvm.symm hK1
        have hP := hP1
        have hD := hD1.weaken (B := A) (fun _ q _ h => hFc q.1 h)
        clear hP1 hD1 hK1 hFc hk1 hz1 ht hvm
        generalize H1 = H at hP hS ⊢
        subst hw
        refine lv_aload_n hx hb dX1_keeps_25 rfl (lv_at hl 1 rfl) ?_
        refine lv_iload hx hb dX1_keeps_26 (lv_at hl 0 rfl) ?_
        refine lv_iconst (v := nI 3) hx hb dX1_keeps_28 (by decide) ?_
        refine lv_iload hx hb dX1_keeps_29 (lv_at hl 5 rfl) ?_
        refine lv_i2l hx hb dX1_keeps_31 rfl ?_
        refine lv_iload hx hb dX1_keeps_32 (lv_at hl 6 rfl) ?_
        refine lv_i2l hx hb dX1_keeps_34 rfl ?_
        refine lv_iload hx hb dX1_keeps_35 (lv_at hl 7 rfl) ?_
        refine lv_i2l hx hb dX1_keeps_37 rfl ?_
        have hFc : ∀ q, va_A (rfX p0 qt qg h0 rt cB cI vn ct ft fb gl T ++ Y) H.size q → A q := va_fall hD hS hA
        refine va_calll (va_runV (As := [.int (nI k), .int (nI 3), .long (Int32.toInt64 y1), .long (Int32.toInt64 y2), .long (Int32.toInt64 y3)]) (rest := [.long (prF (T k) vn 0 x1.toInt64 x2.toInt64 x3.toInt64)]) ⟨hx, hb, hml, hown, hts⟩ (c_X1_partOf l dC dI H.size p0 qt qg h0 rt cB cI tz Y vn ct ft fb gl T k 3 y1.toInt64 y2.toInt64 y3.toInt64 (by omega) (by omega) hv1 hv3) (cwV 5 hts gX1_keeps_X1_partOf rfl rfl rfl (by decide +kernel) ⟨Nat.le_of_ble_eq_true rfl, Nat.le_of_ble_eq_true rfl⟩) ⟨fun a U g mk q => by obtain ⟨q0, q1, qP, qK, qD⟩ := q; exact ⟨q0, q1, qP, va_K.moved (u := U) (U := U.calling g mk a) (Vm.Alike.refl U.vm) qK, qD⟩, va_recv hK hP (ci := 1) (q0 := 0) rfl rfl, fun U hU hW => ⟨rfl, by rw [hU], by rw [hU]; exact hP, va_K.moved hW.alike hK, hD.weaken (fun _ _ _ _ => trivial)⟩⟩ rfl rfl hl.1 rfl (lv_room (Nat.le_of_ble_eq_true rfl)) dX1_keeps_38 ⟨(Nat.zero_le _), (Nat.zero_le _)⟩) hS (fun q _ h => hFc q h) hFc (fun r_38 v9 t H1 locs ht hvm hw hB hz1 hk1 hS => ?_)
        obtain ⟨hP1, hK1, hD1⟩ := hB
        rw [ht] at hP1
        clear hP hD hK
        have hK := va_K.moved hvm.symm hK1
        have hP := hP1
        have hD := hD1.weaken (B := A) (fun _ q _ h => hFc q.1 h)
        clear hP1 hD1 hK1 hFc hk1 hz1 ht hvm
        generalize H1 = H at hP hS ⊢
        subst hw
        refine lv_ladd hx hb dX1_keeps_41 ?_
        refine lv_lstore (lv' := [(8, .long ((prF (T k) vn 0 x1.toInt64 x2.toInt64 x3.toInt64) + (prF (T k) vn 3 y1.toInt64 y2.toInt64 y3.toInt64))), (7, .int (nI k)), (0, .ref p0), (1, .int x1), (2, .int x2), (3, .int x3), (4, .int y1), (5, .int y2), (6, .int y3)]) hx hb dX1_keeps_42 hl (by decide) rfl (fun ls hl => ?_)
        refine lv_lload hx hb dX1_keeps_44 (lv_at hl 0 rfl) ?_
        refine lv_aload_n hx hb dX1_keeps_46 rfl (lv_at hl 2 rfl) ?_
        refine va_get (D := (dC, dI)) (ci := 1) (v := .ref qt) (C := RX1) (T := TX1) (N := 7) hx hb hts (fun _ h => List.mem_cons_of_mem _ (List.mem_append_right _ h)) hown hK hP 0 rfl rfl 0 (by decide) (hts (.fieldLink RX1 11 "RankFinder" "told" "[[I") (List.mem_of_getElem? (i := 2) rfl)) (fun _ h9 => h9) rfl dX1_keeps_47 ?_
        refine lv_iload hx hb dX1_keeps_50 (lv_at hl 1 rfl) ?_
        refine na_aald (y := rt k) hx hb hK hP 1 0 rfl rfl (show k < 8 by omega) (by decide) (if_pos (show k < 8 by omega)) dX1_keeps_52 ?_
        refine lv_bipush (v := nI 6) hx hb dX1_keeps_53 (by decide) ?_
        refine na_iald hx hb hK hP (3 + k) 1 (rf_row (show k < 8 by omega)) rfl (show 6 < 7 by omega) (by decide) dX1_keeps_55 ?_
        refine lv_i2l hx hb dX1_keeps_56 rfl ?_
        refine W.lcmp hx hb dX1_keeps_57 ?_
        refine lv_if_le (tgt := 63) hx hb dX1_keeps_58 (by decide) (fun c2 => ?_) (fun c2 => ?_)
        · rw [lg_cmp_le] at c2
          refine lv_iinc (v := nI (k + 1)) (lv' := [(7, .int (nI (k + 1))), (8, .long ((prF (T k) vn 0 x1.toInt64 x2.toInt64 x3.toInt64) + (prF (T k) vn 3 y1.toInt64 y2.toInt64 y3.toInt64))), (0, .ref p0), (1, .int x1), (2, .int x2), (3, .int x3), (4, .int y1), (5, .int y2), (6, .int y3)]) hx hb dX1_keeps_63 hl (k := 1) rfl (nI_1 _) (by decide) rfl (fun ls hl => ?_)
          refine lv_goto (tgt := 3) hx hb dX1_keeps_66 (by decide) ?_
          exact ih (k + 1) H _ ls (by omega) (fun i hi => by
            by_cases e9 : i = k
            · subst e9; exact c2
            · exact hz i (by omega)) hP hK hD hS (lv_sub hl [0, 2, 3, 4, 5, 6, 7, 8] rfl)
        · rw [lg_cmp_le] at c2
          refine lv_iconst (v := nI 0) hx hb dX1_keeps_61 (by decide) ?_
          exact W.zret (v := (nI 0)) hx hb hr (by rfl) (fun t ht hW => ⟨⟨(nI 0), (), rfl, Or.inr ⟨rfl, fun q => c2 (q k (by omega))⟩, by rw [ht]; exact hP, va_K.moved hW.alike hK, hD⟩, hS.F ht⟩) hS.2.2 dX1_keeps_62
  exact loop ct 0 H _ ls (by omega) (fun i hi => by omega) hP hK hD hS (lv_sub hl [0, 1, 2, 3, 4, 5, 6, 7] rfl)
