/-! ===== the constructors ===== -/
theorem vr_pl {N : Nat} {r : Nat → Nat} {f : Nat → va_E} {e : va_E} : va_pl ([] ++ (List.range N).map r) (vr_up f ((List.range N).map r) e) = (List.range N).map (fun i => (r i, e)) := by
  unfold va_pl
  rw [List.nil_append, List.map_map]
  apply List.map_congr_left
  intro i hi
  show (r i, _) = _
  rw [vr_up_in (List.mem_map.mpr ⟨i, hi, rfl⟩)]
theorem vr_zJ (c : ClassId) (K : Nat) : Jvm.Free.Multi.innerC c K (defaultValue .long) = vp_cell c (K, .inr (.inl (fun _ => 0))) := by
  rw [vp_cell_l]
  exact arrV_new _ _ _
theorem vr_zI (c : ClassId) (K : Nat) : Jvm.Free.Multi.innerC c K (defaultValue .int) = vp_cell c (K, .inl (fun _ => 0)) := by
  rw [vp_cell_i]
  exact arrV_new _ _ _
theorem na_0I (N : Nat) (cA : ClassId) : vp_cell cA (N, .inl (fun _ => 0)) = arrV cA N (fun _ => defaultValue .int) := rfl
theorem na_0J (N : Nat) (cA : ClassId) : vp_cell cA (N, .inr (.inl (fun _ => 0))) = arrV cA N (fun _ => defaultValue .long) := rfl
theorem nI_nn {a : Nat} (h : a < 2 ^ 31) : ¬ nI a < 0 := by
  rw [Int32.lt_iff_toInt_lt, nI_toInt h]
  show ¬ (a : Int) < 0
  omega
theorem vr_nJ : ("[" ++ (FieldType.array .long).toString) = "[[J" := by decide +kernel
theorem vr_nI : ("[" ++ (FieldType.array .int).toString) = "[[I" := by decide +kernel

set_option maxHeartbeats 1000000 in
set_option maxRecDepth 100000 in
/-- new Weighing() -/
theorem c_X0_init (l : Launch) (dC : Nat → ClassId) (dI : Nat → Nat → Nat) (sz : Nat) (h0 : Nat) : Met l yX0_init wsX0_init ({ frames := 1, cells := 12, slots := 189, locals := 21 }) (va_Pc [.ref h0] (fun U => U.heap.size = sz ∧ va_P (dC, dI) vwCl [(h0, .inr (0, [.null, .null, .int 0, .int 0, .long 0, .int 0, .long 0]))] U.heap ∧ va_K (dC, dI) vwCl [] U ∧ va_D (fun _ => True) [(h0, .inr (0, [.null, .null, .int 0, .int 0, .long 0, .int 0, .long 0]))] ∧ va_AOA .long U)) (va_Qv (fun _ : Nat × Nat × (Nat → Nat) × ClassId × ClassId × ClassId => True) (fun v t => va_P (dC, dI) vwCl (wgW h0 v.1 v.2.1 v.2.2.1 v.2.2.2.1 v.2.2.2.2.1 v.2.2.2.2.2 0 0 1 0 1 (fun _ => 0) (fun _ _ => 0)) t.heap ∧ va_K (dC, dI) vwCl (wgT v.2.2.2.1 v.2.2.2.2.1 v.2.2.2.2.2) t ∧ va_D (va_A [(h0, .inr (0, [.null, .null, .int 0, .int 0, .long 0, .int 0, .long 0]))] sz) (wgW h0 v.1 v.2.1 v.2.2.1 v.2.2.2.1 v.2.2.2.2.1 v.2.2.2.2.2 0 0 1 0 1 (fun _ => 0) (fun _ _ => 0))) (va_A [(h0, .inr (0, [.null, .null, .int 0, .int 0, .long 0, .int 0, .long 0]))] sz)) 12 189 (va_A [(h0, .inr (0, [.null, .null, .int 0, .int 0, .long 0, .int 0, .long 0]))] sz) := by
  refine Met.ofW (cc := cX0_init) (maxL := 1) (ret := none) (by decide) rfl ?_
  intro p e s m args below meth c s₁ B hml hv
  obtain ⟨rfl, hsz, hP, hK, hD0, hOlong⟩ := hv
  have hx := B.exec
  have hb := B.bytes
  have hr := B.returns
  have hts := atoms_spec (ws := wsX0_init) B.pre
  have hown : s.vm.findClass RX0 = some m.cls := findClass_of_methodNamed B.named
  have hin : meth.name = "<init>" := (name_of_methodNamed B.named B.method).1
  subst hsz
  have hD := hD0.self (sz := s.heap.size)
  clear hD0
  generalize hAe : va_A [(h0, .inr (0, [.null, .null, .int 0, .int 0, .long 0, .int 0, .long 0]))] s.heap.size = A at hD ⊢
  have hA : ∀ q : Nat, s.heap.size ≤ q → A q := fun q h => by rw [← hAe]; exact Or.inr h
  have hl := lv_entry ([.ref h0]) (n := 1) (Nat.le_of_ble_eq_true rfl)
  rw [lg_entry_eq]
  generalize (lg_sl ([.ref h0]) ++ List.replicate (1 - (lg_sl ([.ref h0])).length) Slot.unset).toArray = ls at hl ⊢
  have hl : lv_has ls 1 [(0, .ref h0)] := hl
  have hP : va_P (dC, dI) vwCl [(h0, .inr (0, [.null, .null, .int 0, .int 0, .long 0, .int 0, .long 0]))] s.heap := hP
  obtain ⟨H, hH⟩ : ∃ H, H = s.heap := ⟨_, rfl⟩
  have hS : va_S A s.heap H [] := by rw [hH]; exact va_S.rf
  rw [← hH] at hP ⊢
  refine lv_aload_n hx hb dX0_init_0 rfl (lv_at hl 0 rfl) ?_
  refine W.objInit hx hb hown (hts (.methodLink RX0 3 objectInit) (List.mem_of_getElem? (i := 1) rfl)) (hts (.instanceMethod objectInit) (List.mem_of_getElem? (i := 2) rfl)) (hts (.code objectInit ⟨#[0xb1]⟩ 1 none) (List.mem_of_getElem? (i := 3) rfl)) rfl (by rw [hml]; exact hl.1) rfl dX0_init_1 (Nat.le_of_ble_eq_true rfl) (Nat.le_of_ble_eq_true rfl) ?_
  refine W.eq (g2 := F0 m 4 ls []) rfl ?_
  refine lv_aload_n hx hb dX0_init_4 rfl (lv_at hl 0 rfl) ?_
  refine lv_bipush (v := nI 10) hx hb dX0_init_5 (by decide) ?_
  refine lv_bipush (v := nI 17) hx hb dX0_init_7 (by decide) ?_
  obtain ⟨cJ, hcy, hK⟩ := va_KJ hK (hts (.arrayClass .long) (List.mem_of_getElem? (i := 5) rfl))
  refine va_mna (X := [(h0, .inr (0, [.null, .null, .int 0, .int 0, .long 0, .int 0, .long 0]))]) (L := []) (f := fun _ => .inl (cJ, 17, .inr (.inl (fun _ => 0)))) (ty := .long) (cy := cJ) (own := RX0) (index := 11) (N' := 10) (K' := 17) (z := (17, .inr (.inl (fun _ => 0)))) hx hb hown (by rw [vr_nJ]; exact (hts (.classLink RX0 11 "[[J") (List.mem_of_getElem? (i := 4) rfl))) hOlong (hts (.arrayClass .long) (List.mem_of_getElem? (i := 5) rfl)) hcy hK hP hD hS hA (nI_nn (by omega)) (nI_nn (by omega)) (nI_clamp (by omega)) (nI_clamp (by omega)) (Nat.le_of_ble_eq_true rfl) (Nat.le_of_ble_eq_true rfl) (Nat.le_of_ble_eq_true rfl) rfl rfl (Nat.le_of_ble_eq_true rfl) (Nat.le_of_ble_eq_true rfl) (fun c => vr_zJ c 17) dX0_init_9 (fun qc r cA H hri hrL hK hP hD hS => ?_)
  rw [vr_pl] at hP hD
  clear hri hrL
  have hP : va_P (dC, dI) vwCl ([(h0, .inr (0, [.null, .null, .int 0, .int 0, .long 0, .int 0, .long 0])), (qc, .inl (cA, 10, .inr (.inr (.inr (.inr (fun i => if i < 10 then some (r i) else none))))))] ++ (List.range 10).map (fun i => (r i, .inl (cJ, 17, .inr (.inl (fun _ => 0)))))) H := hP
  have hD : va_D A ([(h0, .inr (0, [.null, .null, .int 0, .int 0, .long 0, .int 0, .long 0])), (qc, .inl (cA, 10, .inr (.inr (.inr (.inr (fun i => if i < 10 then some (r i) else none))))))] ++ (List.range 10).map (fun i => (r i, .inl (cJ, 17, .inr (.inl (fun _ => 0)))))) := hD
  refine va_putF (D := (dC, dI)) (ci := 0) (v := .ref qc) (ty := (.array (.array .long))) (C := RX0) (T := TX0) (N := 7) hx hb hts (fun _ h => List.mem_cons_of_mem _ (List.mem_append_right _ h)) tyX0 tyX0_ok nmX0 hown hK hP hD hS 0 rfl rfl 0 (by decide) (hts (.fieldLink RX0 13 "RankFinder$Weighing" "cell" "[[J") (List.mem_of_getElem? (i := 6) rfl)) (fun _ h9 => h9) rfl hin rfl (by decide +kernel) rfl rfl (Nat.le_of_ble_eq_true rfl) dX0_init_13 (fun H locs hP hD hS => ?_)
  have hP : va_P (dC, dI) vwCl ([(h0, .inr (0, [.ref qc, .null, .int 0, .int 0, .long 0, .int 0, .long 0])), (qc, .inl (cA, 10, .inr (.inr (.inr (.inr (fun i => if i < 10 then some (r i) else none))))))] ++ (List.range 10).map (fun i => (r i, .inl (cJ, 17, .inr (.inl (fun _ => 0)))))) H := hP
  have hD : va_D A ([(h0, .inr (0, [.ref qc, .null, .int 0, .int 0, .long 0, .int 0, .long 0])), (qc, .inl (cA, 10, .inr (.inr (.inr (.inr (fun i => if i < 10 then some (r i) else none))))))] ++ (List.range 10).map (fun i => (r i, .inl (cJ, 17, .inr (.inl (fun _ => 0)))))) := hD
  refine lv_aload_n hx hb dX0_init_16 rfl (lv_at hl 0 rfl) ?_
  refine lv_bipush (v := nI 9) hx hb dX0_init_17 (by decide) ?_
  refine va_newa (atype := .int) (ty := .int) (a0 := (9, .inl (fun _ => 0))) hx hb (hts (.arrayClass .int) (List.mem_of_getElem? (i := 7) rfl)) rfl hK hP hD hS hA (na_0I 9) (nI_nn (by omega)) (nI_clamp (by omega)) (Nat.le_of_ble_eq_true rfl) (Nat.le_of_ble_eq_true rfl) (Nat.le_of_ble_eq_true rfl) dX0_init_19 (fun qh cI H hK hP hD hS => ?_)
  have hP := va_P.swap hP
  have hD := va_D.swap hD
  have hP : va_P (dC, dI) vwCl ([(h0, .inr (0, [.ref qc, .null, .int 0, .int 0, .long 0, .int 0, .long 0])), (qc, .inl (cA, 10, .inr (.inr (.inr (.inr (fun i => if i < 10 then some (r i) else none)))))), (qh, .inl (cI, 9, .inl (fun _ => 0)))] ++ (List.range 10).map (fun i => (r i, .inl (cJ, 17, .inr (.inl (fun _ => 0)))))) H := hP
  have hD : va_D A ([(h0, .inr (0, [.ref qc, .null, .int 0, .int 0, .long 0, .int 0, .long 0])), (qc, .inl (cA, 10, .inr (.inr (.inr (.inr (fun i => if i < 10 then some (r i) else none)))))), (qh, .inl (cI, 9, .inl (fun _ => 0)))] ++ (List.range 10).map (fun i => (r i, .inl (cJ, 17, .inr (.inl (fun _ => 0)))))) := hD
  refine va_putF (D := (dC, dI)) (ci := 0) (v := .ref qh) (ty := (.array .int)) (C := RX0) (T := TX0) (N := 7) hx hb hts (fun _ h => List.mem_cons_of_mem _ (List.mem_append_right _ h)) tyX0 tyX0_ok nmX0 hown hK hP hD hS 0 rfl rfl 1 (by decide) (hts (.fieldLink RX0 16 "RankFinder$Weighing" "held" "[I") (List.mem_of_getElem? (i := 8) rfl)) (fun _ h9 => h9) rfl hin rfl (by decide +kernel) rfl rfl (Nat.le_of_ble_eq_true rfl) dX0_init_21 (fun H locs hP hD hS => ?_)
  have hP : va_P (dC, dI) vwCl ([(h0, .inr (0, [.ref qc, .ref qh, .int 0, .int 0, .long 0, .int 0, .long 0])), (qc, .inl (cA, 10, .inr (.inr (.inr (.inr (fun i => if i < 10 then some (r i) else none)))))), (qh, .inl (cI, 9, .inl (fun _ => 0)))] ++ (List.range 10).map (fun i => (r i, .inl (cJ, 17, .inr (.inl (fun _ => 0)))))) H := hP
  have hD : va_D A ([(h0, .inr (0, [.ref qc, .ref qh, .int 0, .int 0, .long 0, .int 0, .long 0])), (qc, .inl (cA, 10, .inr (.inr (.inr (.inr (fun i => if i < 10 then some (r i) else none)))))), (qh, .inl (cI, 9, .inl (fun _ => 0)))] ++ (List.range 10).map (fun i => (r i, .inl (cJ, 17, .inr (.inl (fun _ => 0)))))) := hD
  refine lv_aload_n hx hb dX0_init_24 rfl (lv_at hl 0 rfl) ?_
  refine lv_iconst (v := nI 0) hx hb dX0_init_25 (by decide) ?_
  refine va_put (D := (dC, dI)) (ci := 0) (v := .int (nI 0)) (ty := .int) (C := RX0) (T := TX0) (N := 7) hx hb hts (fun _ h => List.mem_cons_of_mem _ (List.mem_append_right _ h)) tyX0 tyX0_ok nmX0 hown hK hP hD hS 0 rfl rfl 2 (by decide) (hts (.fieldLink RX0 20 "RankFinder$Weighing" "equations" "I") (List.mem_of_getElem? (i := 9) rfl)) (fun _ h9 => h9) rfl (by decide +kernel) rfl rfl (Nat.le_of_ble_eq_true rfl) dX0_init_26 (fun H locs hP hD hS => ?_)
  have hP : va_P (dC, dI) vwCl ([(h0, .inr (0, [.ref qc, .ref qh, .int (nI 0), .int 0, .long 0, .int 0, .long 0])), (qc, .inl (cA, 10, .inr (.inr (.inr (.inr (fun i => if i < 10 then some (r i) else none)))))), (qh, .inl (cI, 9, .inl (fun _ => 0)))] ++ (List.range 10).map (fun i => (r i, .inl (cJ, 17, .inr (.inl (fun _ => 0)))))) H := hP
  have hD : va_D A ([(h0, .inr (0, [.ref qc, .ref qh, .int (nI 0), .int 0, .long 0, .int 0, .long 0])), (qc, .inl (cA, 10, .inr (.inr (.inr (.inr (fun i => if i < 10 then some (r i) else none)))))), (qh, .inl (cI, 9, .inl (fun _ => 0)))] ++ (List.range 10).map (fun i => (r i, .inl (cJ, 17, .inr (.inl (fun _ => 0)))))) := hD
  refine lv_aload_n hx hb dX0_init_29 rfl (lv_at hl 0 rfl) ?_
  refine lv_iconst (v := nI 0) hx hb dX0_init_30 (by decide) ?_
  refine va_put (D := (dC, dI)) (ci := 0) (v := .int (nI 0)) (ty := .int) (C := RX0) (T := TX0) (N := 7) hx hb hts (fun _ h => List.mem_cons_of_mem _ (List.mem_append_right _ h)) tyX0 tyX0_ok nmX0 hown hK hP hD hS 0 rfl rfl 3 (by decide) (hts (.fieldLink RX0 24 "RankFinder$Weighing" "weights" "I") (List.mem_of_getElem? (i := 10) rfl)) (fun _ h9 => h9) rfl (by decide +kernel) rfl rfl (Nat.le_of_ble_eq_true rfl) dX0_init_31 (fun H locs hP hD hS => ?_)
  have hP : va_P (dC, dI) vwCl ([(h0, .inr (0, [.ref qc, .ref qh, .int (nI 0), .int (nI 0), .long 0, .int 0, .long 0])), (qc, .inl (cA, 10, .inr (.inr (.inr (.inr (fun i => if i < 10 then some (r i) else none)))))), (qh, .inl (cI, 9, .inl (fun _ => 0)))] ++ (List.range 10).map (fun i => (r i, .inl (cJ, 17, .inr (.inl (fun _ => 0)))))) H := hP
  have hD : va_D A ([(h0, .inr (0, [.ref qc, .ref qh, .int (nI 0), .int (nI 0), .long 0, .int 0, .long 0])), (qc, .inl (cA, 10, .inr (.inr (.inr (.inr (fun i => if i < 10 then some (r i) else none)))))), (qh, .inl (cI, 9, .inl (fun _ => 0)))] ++ (List.range 10).map (fun i => (r i, .inl (cJ, 17, .inr (.inl (fun _ => 0)))))) := hD
  refine lv_aload_n hx hb dX0_init_34 rfl (lv_at hl 0 rfl) ?_
  refine lv_lconst (v := 1) hx hb dX0_init_35 (by decide) ?_
  refine va_put (D := (dC, dI)) (ci := 0) (v := .long 1) (ty := .long) (C := RX0) (T := TX0) (N := 7) hx hb hts (fun _ h => List.mem_cons_of_mem _ (List.mem_append_right _ h)) tyX0 tyX0_ok nmX0 hown hK hP hD hS 0 rfl rfl 4 (by decide) (hts (.fieldLink RX0 27 "RankFinder$Weighing" "unit" "J") (List.mem_of_getElem? (i := 11) rfl)) (fun _ h9 => h9) rfl (by decide +kernel) rfl rfl (Nat.le_of_ble_eq_true rfl) dX0_init_36 (fun H locs hP hD hS => ?_)
  have hP : va_P (dC, dI) vwCl ([(h0, .inr (0, [.ref qc, .ref qh, .int (nI 0), .int (nI 0), .long 1, .int 0, .long 0])), (qc, .inl (cA, 10, .inr (.inr (.inr (.inr (fun i => if i < 10 then some (r i) else none)))))), (qh, .inl (cI, 9, .inl (fun _ => 0)))] ++ (List.range 10).map (fun i => (r i, .inl (cJ, 17, .inr (.inl (fun _ => 0)))))) H := hP
  have hD : va_D A ([(h0, .inr (0, [.ref qc, .ref qh, .int (nI 0), .int (nI 0), .long 1, .int 0, .long 0])), (qc, .inl (cA, 10, .inr (.inr (.inr (.inr (fun i => if i < 10 then some (r i) else none)))))), (qh, .inl (cI, 9, .inl (fun _ => 0)))] ++ (List.range 10).map (fun i => (r i, .inl (cJ, 17, .inr (.inl (fun _ => 0)))))) := hD
  refine lv_aload_n hx hb dX0_init_39 rfl (lv_at hl 0 rfl) ?_
  refine lv_iconst (v := nI 0) hx hb dX0_init_40 (by decide) ?_
  refine va_put (D := (dC, dI)) (ci := 0) (v := .int (nI 0)) (ty := .int) (C := RX0) (T := TX0) (N := 7) hx hb hts (fun _ h => List.mem_cons_of_mem _ (List.mem_append_right _ h)) tyX0 tyX0_ok nmX0 hown hK hP hD hS 0 rfl rfl 5 (by decide) (hts (.fieldLink RX0 31 "RankFinder$Weighing" "unitTwos" "I") (List.mem_of_getElem? (i := 12) rfl)) (fun _ h9 => h9) rfl (by decide +kernel) rfl rfl (Nat.le_of_ble_eq_true rfl) dX0_init_41 (fun H locs hP hD hS => ?_)
  have hP : va_P (dC, dI) vwCl ([(h0, .inr (0, [.ref qc, .ref qh, .int (nI 0), .int (nI 0), .long 1, .int (nI 0), .long 0])), (qc, .inl (cA, 10, .inr (.inr (.inr (.inr (fun i => if i < 10 then some (r i) else none)))))), (qh, .inl (cI, 9, .inl (fun _ => 0)))] ++ (List.range 10).map (fun i => (r i, .inl (cJ, 17, .inr (.inl (fun _ => 0)))))) H := hP
  have hD : va_D A ([(h0, .inr (0, [.ref qc, .ref qh, .int (nI 0), .int (nI 0), .long 1, .int (nI 0), .long 0])), (qc, .inl (cA, 10, .inr (.inr (.inr (.inr (fun i => if i < 10 then some (r i) else none)))))), (qh, .inl (cI, 9, .inl (fun _ => 0)))] ++ (List.range 10).map (fun i => (r i, .inl (cJ, 17, .inr (.inl (fun _ => 0)))))) := hD
  refine lv_aload_n hx hb dX0_init_44 rfl (lv_at hl 0 rfl) ?_
  refine lv_lconst (v := 1) hx hb dX0_init_45 (by decide) ?_
  refine va_put (D := (dC, dI)) (ci := 0) (v := .long 1) (ty := .long) (C := RX0) (T := TX0) (N := 7) hx hb hts (fun _ h => List.mem_cons_of_mem _ (List.mem_append_right _ h)) tyX0 tyX0_ok nmX0 hown hK hP hD hS 0 rfl rfl 6 (by decide) (hts (.fieldLink RX0 34 "RankFinder$Weighing" "unitInverse" "J") (List.mem_of_getElem? (i := 13) rfl)) (fun _ h9 => h9) rfl (by decide +kernel) rfl rfl (Nat.le_of_ble_eq_true rfl) dX0_init_46 (fun H locs hP hD hS => ?_)
  have hP : va_P (dC, dI) vwCl ([(h0, .inr (0, [.ref qc, .ref qh, .int (nI 0), .int (nI 0), .long 1, .int (nI 0), .long 1])), (qc, .inl (cA, 10, .inr (.inr (.inr (.inr (fun i => if i < 10 then some (r i) else none)))))), (qh, .inl (cI, 9, .inl (fun _ => 0)))] ++ (List.range 10).map (fun i => (r i, .inl (cJ, 17, .inr (.inl (fun _ => 0)))))) H := hP
  have hD : va_D A ([(h0, .inr (0, [.ref qc, .ref qh, .int (nI 0), .int (nI 0), .long 1, .int (nI 0), .long 1])), (qc, .inl (cA, 10, .inr (.inr (.inr (.inr (fun i => if i < 10 then some (r i) else none)))))), (qh, .inl (cI, 9, .inl (fun _ => 0)))] ++ (List.range 10).map (fun i => (r i, .inl (cJ, 17, .inr (.inl (fun _ => 0)))))) := hD
  have hP : va_P (dC, dI) vwCl (wgW h0 qc qh r cA cI cJ 0 0 1 0 1 (fun _ => 0) (fun _ _ => 0)) H := hP
  have hD : va_D A (wgW h0 qc qh r cA cI cJ 0 0 1 0 1 (fun _ => 0) (fun _ _ => 0)) := hD
  have hK := hK.sub (tys' := wgT cA cI cJ) [1, 2, 0] rfl
  refine W.widen (k := 12) (n := 189) (Nat.le_of_ble_eq_true rfl) (Nat.le_of_ble_eq_true rfl) ?_
  exact W.vret hx hb hr (fun t ht hW => ⟨⟨(qc, qh, r, cA, cI, cJ), rfl, trivial, by rw [ht]; exact hP, va_K.moved hW.alike hK, hD⟩, hS.F ht⟩) hS.2.2 dX0_init_49
set_option maxHeartbeats 1000000 in
set_option maxRecDepth 100000 in
/-- new RankFinder() -/
theorem c_X1_init (l : Launch) (dC : Nat → ClassId) (dI : Nat → Nat → Nat) (sz : Nat) (p0 : Nat) : Met l yX1_init wsX1_init ({ frames := 2, cells := 23, slots := 266, locals := 41 }) (va_Pc [.ref p0] (fun U => U.heap.size = sz ∧ va_P (dC, dI) vwCl [(p0, .inr (1, [.null, .null, .null, .int 0, .int 0, .long 0, .long 0]))] U.heap ∧ va_K (dC, dI) vwCl [] U ∧ va_D (fun _ => True) [(p0, .inr (1, [.null, .null, .null, .int 0, .int 0, .long 0, .long 0]))] ∧ va_AOA .int U ∧ va_AOA .long U)) (va_Qv (fun _ : (Nat × Nat × Nat × (Nat → Nat) × ClassId × ClassId) × Nat × Nat × (Nat → Nat) × ClassId × ClassId × ClassId => True) (fun v t => va_P (dC, dI) vwCl (rfX p0 v.1.1 v.1.2.1 v.1.2.2.1 v.1.2.2.2.1 v.1.2.2.2.2.1 v.1.2.2.2.2.2 1 0 0 0 (fun _ => 0) (fun _ _ => 0) ++ wgW v.1.2.2.1 v.2.1 v.2.2.1 v.2.2.2.1 v.2.2.2.2.1 v.1.2.2.2.2.2 v.2.2.2.2.2.2 0 0 1 0 1 (fun _ => 0) (fun _ _ => 0)) t.heap ∧ va_K (dC, dI) vwCl ((v.1.2.2.2.2.1, .array .int) :: (v.1.2.2.2.2.2, .int) :: wgT v.2.2.2.2.1 v.1.2.2.2.2.2 v.2.2.2.2.2.2) t ∧ va_D (va_A [(p0, .inr (1, [.null, .null, .null, .int 0, .int 0, .long 0, .long 0]))] sz) (rfX p0 v.1.1 v.1.2.1 v.1.2.2.1 v.1.2.2.2.1 v.1.2.2.2.2.1 v.1.2.2.2.2.2 1 0 0 0 (fun _ => 0) (fun _ _ => 0) ++ wgW v.1.2.2.1 v.2.1 v.2.2.1 v.2.2.2.1 v.2.2.2.2.1 v.1.2.2.2.2.2 v.2.2.2.2.2.2 0 0 1 0 1 (fun _ => 0) (fun _ _ => 0))) (va_A [(p0, .inr (1, [.null, .null, .null, .int 0, .int 0, .long 0, .long 0]))] sz)) 23 266 (va_A [(p0, .inr (1, [.null, .null, .null, .int 0, .int 0, .long 0, .long 0]))] sz) := by
  refine Met.ofW (cc := cX1_init) (maxL := 1) (ret := none) (by decide) rfl ?_
  intro p e s m args below meth c s₁ B hml hv
  obtain ⟨rfl, hsz, hP, hK, hD0, hOint, hOlong⟩ := hv
  have hx := B.exec
  have hb := B.bytes
  have hr := B.returns
  have hts := atoms_spec (ws := wsX1_init) B.pre
  have hown : s.vm.findClass RX1 = some m.cls := findClass_of_methodNamed B.named
  have hin : meth.name = "<init>" := (name_of_methodNamed B.named B.method).1
  subst hsz
  have hD := hD0.self (sz := s.heap.size)
  clear hD0
  generalize hAe : va_A [(p0, .inr (1, [.null, .null, .null, .int 0, .int 0, .long 0, .long 0]))] s.heap.size = A at hD ⊢
  have hA : ∀ q : Nat, s.heap.size ≤ q → A q := fun q h => by rw [← hAe]; exact Or.inr h
  have hl := lv_entry ([.ref p0]) (n := 1) (Nat.le_of_ble_eq_true rfl)
  rw [lg_entry_eq]
  generalize (lg_sl ([.ref p0]) ++ List.replicate (1 - (lg_sl ([.ref p0])).length) Slot.unset).toArray = ls at hl ⊢
  have hl : lv_has ls 1 [(0, .ref p0)] := hl
  have hP : va_P (dC, dI) vwCl [(p0, .inr (1, [.null, .null, .null, .int 0, .int 0, .long 0, .long 0]))] s.heap := hP
  obtain ⟨H, hH⟩ : ∃ H, H = s.heap := ⟨_, rfl⟩
  have hS : va_S A s.heap H [] := by rw [hH]; exact va_S.rf
  rw [← hH] at hP ⊢
  refine lv_aload_n hx hb dX1_init_0 rfl (lv_at hl 0 rfl) ?_
  refine W.objInit hx hb hown (hts (.methodLink RX1 1 objectInit) (List.mem_of_getElem? (i := 1) rfl)) (hts (.instanceMethod objectInit) (List.mem_of_getElem? (i := 2) rfl)) (hts (.code objectInit ⟨#[0xb1]⟩ 1 none) (List.mem_of_getElem? (i := 3) rfl)) rfl (by rw [hml]; exact hl.1) rfl dX1_init_1 (Nat.le_of_ble_eq_true rfl) (Nat.le_of_ble_eq_true rfl) ?_
  refine W.eq (g2 := F0 m 4 ls []) rfl ?_
  refine lv_aload_n hx hb dX1_init_4 rfl (lv_at hl 0 rfl) ?_
  refine lv_bipush (v := nI 8) hx hb dX1_init_5 (by decide) ?_
  refine lv_bipush (v := nI 7) hx hb dX1_init_7 (by decide) ?_
  obtain ⟨cI, hcy, hK⟩ := va_KI hK (hts (.arrayClass .int) (List.mem_of_getElem? (i := 5) rfl))
  refine va_mna (X := [(p0, .inr (1, [.null, .null, .null, .int 0, .int 0, .long 0, .long 0]))]) (L := []) (f := fun _ => .inl (cI, 7, .inl (fun _ => 0))) (ty := .int) (cy := cI) (own := RX1) (index := 9) (N' := 8) (K' := 7) (z := (7, .inl (fun _ => 0))) hx hb hown (by rw [vr_nI]; exact (hts (.classLink RX1 9 "[[I") (List.mem_of_getElem? (i := 4) rfl))) hOint (hts (.arrayClass .int) (List.mem_of_getElem? (i := 5) rfl)) hcy hK hP hD hS hA (nI_nn (by omega)) (nI_nn (by omega)) (nI_clamp (by omega)) (nI_clamp (by omega)) (Nat.le_of_ble_eq_true rfl) (Nat.le_of_ble_eq_true rfl) (Nat.le_of_ble_eq_true rfl) rfl rfl (Nat.le_of_ble_eq_true rfl) (Nat.le_of_ble_eq_true rfl) (fun c => vr_zI c 7) dX1_init_9 (fun qt rt cB H hri hrL hK hP hD hS => ?_)
  rw [vr_pl] at hP hD
  clear hri hrL
  have hP : va_P (dC, dI) vwCl ([(p0, .inr (1, [.null, .null, .null, .int 0, .int 0, .long 0, .long 0])), (qt, .inl (cB, 8, .inr (.inr (.inr (.inr (fun i => if i < 8 then some (rt i) else none))))))] ++ (List.range 8).map (fun i => (rt i, .inl (cI, 7, .inl (fun _ => 0))))) H := hP
  have hD : va_D A ([(p0, .inr (1, [.null, .null, .null, .int 0, .int 0, .long 0, .long 0])), (qt, .inl (cB, 8, .inr (.inr (.inr (.inr (fun i => if i < 8 then some (rt i) else none))))))] ++ (List.range 8).map (fun i => (rt i, .inl (cI, 7, .inl (fun _ => 0))))) := hD
  refine va_putF (D := (dC, dI)) (ci := 1) (v := .ref qt) (ty := (.array (.array .int))) (C := RX1) (T := TX1) (N := 7) hx hb hts (fun _ h => List.mem_cons_of_mem _ (List.mem_append_left _ (List.mem_append_right _ h))) tyX1 tyX1_ok nmX1 hown hK hP hD hS 0 rfl rfl 0 (by decide) (hts (.fieldLink RX1 11 "RankFinder" "told" "[[I") (List.mem_of_getElem? (i := 6) rfl)) (fun _ h9 => h9) rfl hin rfl (by decide +kernel) rfl rfl (Nat.le_of_ble_eq_true rfl) dX1_init_13 (fun H locs hP hD hS => ?_)
  have hP : va_P (dC, dI) vwCl ([(p0, .inr (1, [.ref qt, .null, .null, .int 0, .int 0, .long 0, .long 0])), (qt, .inl (cB, 8, .inr (.inr (.inr (.inr (fun i => if i < 8 then some (rt i) else none))))))] ++ (List.range 8).map (fun i => (rt i, .inl (cI, 7, .inl (fun _ => 0))))) H := hP
  have hD : va_D A ([(p0, .inr (1, [.ref qt, .null, .null, .int 0, .int 0, .long 0, .long 0])), (qt, .inl (cB, 8, .inr (.inr (.inr (.inr (fun i => if i < 8 then some (rt i) else none))))))] ++ (List.range 8).map (fun i => (rt i, .inl (cI, 7, .inl (fun _ => 0))))) := hD
  refine lv_aload_n hx hb dX1_init_16 rfl (lv_at hl 0 rfl) ?_
  refine lv_bipush (v := nI 6) hx hb dX1_init_17 (by decide) ?_
  refine va_newa (atype := .int) (ty := .int) (a0 := (6, .inl (fun _ => 0))) hx hb (hts (.arrayClass .int) (List.mem_of_getElem? (i := 5) rfl)) rfl hK hP hD hS hA (na_0I 6) (nI_nn (by omega)) (nI_clamp (by omega)) (Nat.le_of_ble_eq_true rfl) (Nat.le_of_ble_eq_true rfl) (Nat.le_of_ble_eq_true rfl) dX1_init_19 (fun qg cI2 H hK hP hD hS => ?_)
  obtain rfl : cI = cI2 := va_KsI hK (i := 0) (j := 2) rfl rfl
  have hP := va_P.swap hP
  have hD := va_D.swap hD
  have hP : va_P (dC, dI) vwCl ([(p0, .inr (1, [.ref qt, .null, .null, .int 0, .int 0, .long 0, .long 0])), (qt, .inl (cB, 8, .inr (.inr (.inr (.inr (fun i => if i < 8 then some (rt i) else none)))))), (qg, .inl (cI, 6, .inl (fun _ => 0)))] ++ (List.range 8).map (fun i => (rt i, .inl (cI, 7, .inl (fun _ => 0))))) H := hP
  have hD : va_D A ([(p0, .inr (1, [.ref qt, .null, .null, .int 0, .int 0, .long 0, .long 0])), (qt, .inl (cB, 8, .inr (.inr (.inr (.inr (fun i => if i < 8 then some (rt i) else none)))))), (qg, .inl (cI, 6, .inl (fun _ => 0)))] ++ (List.range 8).map (fun i => (rt i, .inl (cI, 7, .inl (fun _ => 0))))) := hD
  refine va_putF (D := (dC, dI)) (ci := 1) (v := .ref qg) (ty := (.array .int)) (C := RX1) (T := TX1) (N := 7) hx hb hts (fun _ h => List.mem_cons_of_mem _ (List.mem_append_left _ (List.mem_append_right _ h))) tyX1 tyX1_ok nmX1 hown hK hP hD hS 0 rfl rfl 1 (by decide) (hts (.fieldLink RX1 14 "RankFinder" "goal" "[I") (List.mem_of_getElem? (i := 7) rfl)) (fun _ h9 => h9) rfl hin rfl (by decide +kernel) rfl rfl (Nat.le_of_ble_eq_true rfl) dX1_init_21 (fun H locs hP hD hS => ?_)
  have hP : va_P (dC, dI) vwCl ([(p0, .inr (1, [.ref qt, .ref qg, .null, .int 0, .int 0, .long 0, .long 0])), (qt, .inl (cB, 8, .inr (.inr (.inr (.inr (fun i => if i < 8 then some (rt i) else none)))))), (qg, .inl (cI, 6, .inl (fun _ => 0)))] ++ (List.range 8).map (fun i => (rt i, .inl (cI, 7, .inl (fun _ => 0))))) H := hP
  have hD : va_D A ([(p0, .inr (1, [.ref qt, .ref qg, .null, .int 0, .int 0, .long 0, .long 0])), (qt, .inl (cB, 8, .inr (.inr (.inr (.inr (fun i => if i < 8 then some (rt i) else none)))))), (qg, .inl (cI, 6, .inl (fun _ => 0)))] ++ (List.range 8).map (fun i => (rt i, .inl (cI, 7, .inl (fun _ => 0))))) := hD
  refine lv_aload_n hx hb dX1_init_24 rfl (lv_at hl 0 rfl) ?_
  refine va_new (ci := 0) (fs := [.null, .null, .int 0, .int 0, .long 0, .int 0, .long 0]) (C := RX0) (T := TX0) (N := 7) hx hb hts (fun _ h => List.mem_cons_of_mem _ (List.mem_append_right _ h)) tyX0 tyX0_ok hown (hts (.classLink RX1 18 RX0) (List.mem_of_getElem? (i := 8) rfl)) (hts (.instantiable RX0 7) (List.mem_of_getElem? (i := 9) rfl)) (hts (.initialized RX0) (List.mem_of_getElem? (i := 10) rfl)) hK hP hD hS hA rfl (fun j hj => by rcases (show j = 0 ∨ j = 1 ∨ j = 2 ∨ j = 3 ∨ j = 4 ∨ j = 5 ∨ j = 6 by omega) with rfl | rfl | rfl | rfl | rfl | rfl | rfl <;> rfl) (Nat.le_of_ble_eq_true rfl) (Nat.le_of_ble_eq_true rfl) dX1_init_25 (fun h0 H hP hD hS => ?_)
  refine lv_dup hx hb dX1_init_28 rfl ?_
  have hPc : va_P (dC, dI) vwCl [(h0, .inr (0, [.null, .null, .int 0, .int 0, .long 0, .int 0, .long 0]))] H := va_Pr hP
  have hDc : va_D (fun _ => True) [(h0, .inr (0, [.null, .null, .int 0, .int 0, .long 0, .int 0, .long 0]))] := va_Dr hD
  have hKc := hK.sub (tys' := []) [] rfl
  have hFc : ∀ q, va_A [(h0, .inr (0, [.null, .null, .int 0, .int 0, .long 0, .int 0, .long 0]))] H.size q → A q := va_Ar hD hS hA
  refine va_callv (va_runI (As := []) (rest := [.ref h0, .ref p0]) ⟨hx, hb, hml, hown, hts⟩ (c_X0_init l dC dI H.size h0) (cwI 0 hts gX1_init_X0_init rfl rfl rfl (hts (.initialized RX0) (List.mem_of_getElem? (i := 10) rfl)) (hts (.methodLink RX1 20 yX0_init) (List.mem_of_getElem? (i := 16) rfl)) (hts (.instanceMethod yX0_init) (List.mem_of_getElem? (i := 17) rfl)) rfl (by decide +kernel) ⟨Nat.le_of_ble_eq_true rfl, Nat.le_of_ble_eq_true rfl⟩) ⟨fun a U g mk q => by obtain ⟨q0, q1, qP, qK, qD⟩ := q; exact ⟨q0, q1, qP, va_K.moved (u := U) (U := U.calling g mk a) (Vm.Alike.refl U.vm) qK, qD.1, va_AOA.moved (u := U) (U := U.calling g mk a) (Vm.Alike.refl U.vm) qD.2⟩, fun U hU hW => ⟨rfl, by rw [hU], by rw [hU]; exact hPc, va_K.moved hW.alike hKc, hDc, va_AOA.moved hW.alike hOlong⟩⟩ rfl rfl hl.1 rfl (lv_room (Nat.le_of_ble_eq_true rfl)) dX1_init_29 ⟨Nat.le_of_ble_eq_true rfl, Nat.le_of_ble_eq_true rfl⟩) hS (fun q _ h => hFc q h) hFc (fun v9 t H1 locs ht hvm hw hB hz1 hk1 hS => ?_)
  obtain ⟨qc, qh, r, cA, cI3, cJ⟩ := v9
  obtain ⟨hP1, hK1, hD1⟩ := hB
  rw [ht] at hP1
  obtain ⟨hP, hD⟩ := jn_app hP hD hk1 hFc hP1 hD1
  have hK := hK.app (va_K.moved hvm.symm hK1)
  clear hPc hKc hP1 hD1 hK1 hFc hk1 hz1 ht hvm
  generalize H1 = H at hP hS ⊢
  obtain rfl : cI = cI3 := va_KsI hK (i := 0) (j := 4) rfl rfl
  have hP : va_P (dC, dI) vwCl (([(p0, .inr (1, [.ref qt, .ref qg, .null, .int 0, .int 0, .long 0, .long 0])), (qt, .inl (cB, 8, .inr (.inr (.inr (.inr (fun i => if i < 8 then some (rt i) else none)))))), (qg, .inl (cI, 6, .inl (fun _ => 0)))] ++ (List.range 8).map (fun i => (rt i, .inl (cI, 7, .inl (fun _ => 0))))) ++ wgW h0 qc qh r cA cI cJ 0 0 1 0 1 (fun _ => 0) (fun _ _ => 0)) H := hP
  have hD : va_D A (([(p0, .inr (1, [.ref qt, .ref qg, .null, .int 0, .int 0, .long 0, .long 0])), (qt, .inl (cB, 8, .inr (.inr (.inr (.inr (fun i => if i < 8 then some (rt i) else none)))))), (qg, .inl (cI, 6, .inl (fun _ => 0)))] ++ (List.range 8).map (fun i => (rt i, .inl (cI, 7, .inl (fun _ => 0))))) ++ wgW h0 qc qh r cA cI cJ 0 0 1 0 1 (fun _ => 0) (fun _ _ => 0)) := hD
  refine va_putF (D := (dC, dI)) (ci := 1) (v := .ref h0) (ty := (.object "RankFinder$Weighing")) (C := RX1) (T := TX1) (N := 7) hx hb hts (fun _ h => List.mem_cons_of_mem _ (List.mem_append_left _ (List.mem_append_right _ h))) tyX1 tyX1_ok nmX1 hown hK hP hD hS 0 rfl rfl 2 (by decide) (hts (.fieldLink RX1 21 "RankFinder" "weighing" "LRankFinder$Weighing;") (List.mem_of_getElem? (i := 11) rfl)) (fun _ h9 => h9) rfl hin rfl (by decide +kernel) rfl rfl (Nat.le_of_ble_eq_true rfl) dX1_init_32 (fun H locs hP hD hS => ?_)
  have hP : va_P (dC, dI) vwCl (([(p0, .inr (1, [.ref qt, .ref qg, .ref h0, .int 0, .int 0, .long 0, .long 0])), (qt, .inl (cB, 8, .inr (.inr (.inr (.inr (fun i => if i < 8 then some (rt i) else none)))))), (qg, .inl (cI, 6, .inl (fun _ => 0)))] ++ (List.range 8).map (fun i => (rt i, .inl (cI, 7, .inl (fun _ => 0))))) ++ wgW h0 qc qh r cA cI cJ 0 0 1 0 1 (fun _ => 0) (fun _ _ => 0)) H := hP
  have hD : va_D A (([(p0, .inr (1, [.ref qt, .ref qg, .ref h0, .int 0, .int 0, .long 0, .long 0])), (qt, .inl (cB, 8, .inr (.inr (.inr (.inr (fun i => if i < 8 then some (rt i) else none)))))), (qg, .inl (cI, 6, .inl (fun _ => 0)))] ++ (List.range 8).map (fun i => (rt i, .inl (cI, 7, .inl (fun _ => 0))))) ++ wgW h0 qc qh r cA cI cJ 0 0 1 0 1 (fun _ => 0) (fun _ _ => 0)) := hD
  refine lv_aload_n hx hb dX1_init_35 rfl (lv_at hl 0 rfl) ?_
  refine lv_iconst (v := nI 1) hx hb dX1_init_36 (by decide) ?_
  refine va_put (D := (dC, dI)) (ci := 1) (v := .int (nI 1)) (ty := .int) (C := RX1) (T := TX1) (N := 7) hx hb hts (fun _ h => List.mem_cons_of_mem _ (List.mem_append_left _ (List.mem_append_right _ h))) tyX1 tyX1_ok nmX1 hown hK hP hD hS 0 rfl rfl 3 (by decide) (hts (.fieldLink RX1 25 "RankFinder" "variables" "I") (List.mem_of_getElem? (i := 12) rfl)) (fun _ h9 => h9) rfl (by decide +kernel) rfl rfl (Nat.le_of_ble_eq_true rfl) dX1_init_37 (fun H locs hP hD hS => ?_)
  have hP : va_P (dC, dI) vwCl (([(p0, .inr (1, [.ref qt, .ref qg, .ref h0, .int (nI 1), .int 0, .long 0, .long 0])), (qt, .inl (cB, 8, .inr (.inr (.inr (.inr (fun i => if i < 8 then some (rt i) else none)))))), (qg, .inl (cI, 6, .inl (fun _ => 0)))] ++ (List.range 8).map (fun i => (rt i, .inl (cI, 7, .inl (fun _ => 0))))) ++ wgW h0 qc qh r cA cI cJ 0 0 1 0 1 (fun _ => 0) (fun _ _ => 0)) H := hP
  have hD : va_D A (([(p0, .inr (1, [.ref qt, .ref qg, .ref h0, .int (nI 1), .int 0, .long 0, .long 0])), (qt, .inl (cB, 8, .inr (.inr (.inr (.inr (fun i => if i < 8 then some (rt i) else none)))))), (qg, .inl (cI, 6, .inl (fun _ => 0)))] ++ (List.range 8).map (fun i => (rt i, .inl (cI, 7, .inl (fun _ => 0))))) ++ wgW h0 qc qh r cA cI cJ 0 0 1 0 1 (fun _ => 0) (fun _ _ => 0)) := hD
  refine lv_aload_n hx hb dX1_init_40 rfl (lv_at hl 0 rfl) ?_
  refine lv_iconst (v := nI 0) hx hb dX1_init_41 (by decide) ?_
  refine va_put (D := (dC, dI)) (ci := 1) (v := .int (nI 0)) (ty := .int) (C := RX1) (T := TX1) (N := 7) hx hb hts (fun _ h => List.mem_cons_of_mem _ (List.mem_append_left _ (List.mem_append_right _ h))) tyX1 tyX1_ok nmX1 hown hK hP hD hS 0 rfl rfl 4 (by decide) (hts (.fieldLink RX1 29 "RankFinder" "count" "I") (List.mem_of_getElem? (i := 13) rfl)) (fun _ h9 => h9) rfl (by decide +kernel) rfl rfl (Nat.le_of_ble_eq_true rfl) dX1_init_42 (fun H locs hP hD hS => ?_)
  have hP : va_P (dC, dI) vwCl (([(p0, .inr (1, [.ref qt, .ref qg, .ref h0, .int (nI 1), .int (nI 0), .long 0, .long 0])), (qt, .inl (cB, 8, .inr (.inr (.inr (.inr (fun i => if i < 8 then some (rt i) else none)))))), (qg, .inl (cI, 6, .inl (fun _ => 0)))] ++ (List.range 8).map (fun i => (rt i, .inl (cI, 7, .inl (fun _ => 0))))) ++ wgW h0 qc qh r cA cI cJ 0 0 1 0 1 (fun _ => 0) (fun _ _ => 0)) H := hP
  have hD : va_D A (([(p0, .inr (1, [.ref qt, .ref qg, .ref h0, .int (nI 1), .int (nI 0), .long 0, .long 0])), (qt, .inl (cB, 8, .inr (.inr (.inr (.inr (fun i => if i < 8 then some (rt i) else none)))))), (qg, .inl (cI, 6, .inl (fun _ => 0)))] ++ (List.range 8).map (fun i => (rt i, .inl (cI, 7, .inl (fun _ => 0))))) ++ wgW h0 qc qh r cA cI cJ 0 0 1 0 1 (fun _ => 0) (fun _ _ => 0)) := hD
  refine lv_aload_n hx hb dX1_init_45 rfl (lv_at hl 0 rfl) ?_
  refine lv_lconst (v := 0) hx hb dX1_init_46 (by decide) ?_
  refine va_put (D := (dC, dI)) (ci := 1) (v := .long 0) (ty := .long) (C := RX1) (T := TX1) (N := 7) hx hb hts (fun _ h => List.mem_cons_of_mem _ (List.mem_append_left _ (List.mem_append_right _ h))) tyX1 tyX1_ok nmX1 hown hK hP hD hS 0 rfl rfl 5 (by decide) (hts (.fieldLink RX1 32 "RankFinder" "foundTop" "J") (List.mem_of_getElem? (i := 14) rfl)) (fun _ h9 => h9) rfl (by decide +kernel) rfl rfl (Nat.le_of_ble_eq_true rfl) dX1_init_47 (fun H locs hP hD hS => ?_)
  have hP : va_P (dC, dI) vwCl (([(p0, .inr (1, [.ref qt, .ref qg, .ref h0, .int (nI 1), .int (nI 0), .long 0, .long 0])), (qt, .inl (cB, 8, .inr (.inr (.inr (.inr (fun i => if i < 8 then some (rt i) else none)))))), (qg, .inl (cI, 6, .inl (fun _ => 0)))] ++ (List.range 8).map (fun i => (rt i, .inl (cI, 7, .inl (fun _ => 0))))) ++ wgW h0 qc qh r cA cI cJ 0 0 1 0 1 (fun _ => 0) (fun _ _ => 0)) H := hP
  have hD : va_D A (([(p0, .inr (1, [.ref qt, .ref qg, .ref h0, .int (nI 1), .int (nI 0), .long 0, .long 0])), (qt, .inl (cB, 8, .inr (.inr (.inr (.inr (fun i => if i < 8 then some (rt i) else none)))))), (qg, .inl (cI, 6, .inl (fun _ => 0)))] ++ (List.range 8).map (fun i => (rt i, .inl (cI, 7, .inl (fun _ => 0))))) ++ wgW h0 qc qh r cA cI cJ 0 0 1 0 1 (fun _ => 0) (fun _ _ => 0)) := hD
  refine lv_aload_n hx hb dX1_init_50 rfl (lv_at hl 0 rfl) ?_
  refine lv_lconst (v := 0) hx hb dX1_init_51 (by decide) ?_
  refine va_put (D := (dC, dI)) (ci := 1) (v := .long 0) (ty := .long) (C := RX1) (T := TX1) (N := 7) hx hb hts (fun _ h => List.mem_cons_of_mem _ (List.mem_append_left _ (List.mem_append_right _ h))) tyX1 tyX1_ok nmX1 hown hK hP hD hS 0 rfl rfl 6 (by decide) (hts (.fieldLink RX1 36 "RankFinder" "foundBottom" "J") (List.mem_of_getElem? (i := 15) rfl)) (fun _ h9 => h9) rfl (by decide +kernel) rfl rfl (Nat.le_of_ble_eq_true rfl) dX1_init_52 (fun H locs hP hD hS => ?_)
  have hP : va_P (dC, dI) vwCl (([(p0, .inr (1, [.ref qt, .ref qg, .ref h0, .int (nI 1), .int (nI 0), .long 0, .long 0])), (qt, .inl (cB, 8, .inr (.inr (.inr (.inr (fun i => if i < 8 then some (rt i) else none)))))), (qg, .inl (cI, 6, .inl (fun _ => 0)))] ++ (List.range 8).map (fun i => (rt i, .inl (cI, 7, .inl (fun _ => 0))))) ++ wgW h0 qc qh r cA cI cJ 0 0 1 0 1 (fun _ => 0) (fun _ _ => 0)) H := hP
  have hD : va_D A (([(p0, .inr (1, [.ref qt, .ref qg, .ref h0, .int (nI 1), .int (nI 0), .long 0, .long 0])), (qt, .inl (cB, 8, .inr (.inr (.inr (.inr (fun i => if i < 8 then some (rt i) else none)))))), (qg, .inl (cI, 6, .inl (fun _ => 0)))] ++ (List.range 8).map (fun i => (rt i, .inl (cI, 7, .inl (fun _ => 0))))) ++ wgW h0 qc qh r cA cI cJ 0 0 1 0 1 (fun _ => 0) (fun _ _ => 0)) := hD
  have hP : va_P (dC, dI) vwCl (rfX p0 qt qg h0 rt cB cI 1 0 0 0 (fun _ => 0) (fun _ _ => 0) ++ wgW h0 qc qh r cA cI cJ 0 0 1 0 1 (fun _ => 0) (fun _ _ => 0)) H := hP
  have hD : va_D A (rfX p0 qt qg h0 rt cB cI 1 0 0 0 (fun _ => 0) (fun _ _ => 0) ++ wgW h0 qc qh r cA cI cJ 0 0 1 0 1 (fun _ => 0) (fun _ _ => 0)) := hD
  have hK := hK.sub (tys' := (cB, .array .int) :: (cI, .int) :: wgT cA cI cJ) [1, 0, 3, 0, 5] rfl
  refine W.widen (k := 23) (n := 266) (Nat.le_of_ble_eq_true rfl) (Nat.le_of_ble_eq_true rfl) ?_
  exact W.vret hx hb hr (fun t ht hW => ⟨⟨((qt, qg, h0, rt, cB, cI), qc, qh, r, cA, cI, cJ), rfl, trivial, by rw [ht]; exact hP, va_K.moved hW.alike hK, hD⟩, hS.F ht⟩) hS.2.2 dX1_init_55
set_option maxHeartbeats 1000000 in
set_option maxRecDepth 100000 in
/-- new RankFinderModel() -/
theorem c_X2_init (l : Launch) (dC : Nat → ClassId) (dI : Nat → Nat → Nat) (sz : Nat) (m0 : Nat) : Met l yX2_init wsX2_init ({ frames := 1, cells := 8, slots := 28884, locals := 21 }) (va_Pc [.ref m0] (fun U => U.heap.size = sz ∧ va_P (dC, dI) vwCl [(m0, .inr (2, [.int 0, .int 0, .null, .long 0, .long 0, .int 0, .null, .null, .null, .null, .int 0, .int 0, .null, .null, .long 0, .long 0, .long 0, .long 0, .null]))] U.heap ∧ va_K (dC, dI) vwCl [] U ∧ va_D (fun _ => True) [(m0, .inr (2, [.int 0, .int 0, .null, .long 0, .long 0, .int 0, .null, .null, .null, .null, .int 0, .int 0, .null, .null, .long 0, .long 0, .long 0, .long 0, .null]))])) (va_Qv (fun _ : Nat × Nat × Nat × Nat × Nat × Nat × Nat × Nat × ClassId × ClassId => True) (fun v t => va_P (dC, dI) vwCl (mdW m0 v.1 v.2.1 v.2.2.1 v.2.2.2.1 v.2.2.2.2.1 v.2.2.2.2.2.1 v.2.2.2.2.2.2.1 v.2.2.2.2.2.2.2.1 v.2.2.2.2.2.2.2.2.1 v.2.2.2.2.2.2.2.2.2 1 0 (fun _ => 0) 0 0 0 (fun _ => 0) (fun _ => 0) (fun _ => 0) (fun _ => 0) 0 0 (fun _ => 0) (fun _ => 0) 0 0 0 0 (fun _ => 0)) t.heap ∧ va_K (dC, dI) vwCl [(v.2.2.2.2.2.2.2.2.1, .int), (v.2.2.2.2.2.2.2.2.2, .long)] t ∧ va_D (va_A [(m0, .inr (2, [.int 0, .int 0, .null, .long 0, .long 0, .int 0, .null, .null, .null, .null, .int 0, .int 0, .null, .null, .long 0, .long 0, .long 0, .long 0, .null]))] sz) (mdW m0 v.1 v.2.1 v.2.2.1 v.2.2.2.1 v.2.2.2.2.1 v.2.2.2.2.2.1 v.2.2.2.2.2.2.1 v.2.2.2.2.2.2.2.1 v.2.2.2.2.2.2.2.2.1 v.2.2.2.2.2.2.2.2.2 1 0 (fun _ => 0) 0 0 0 (fun _ => 0) (fun _ => 0) (fun _ => 0) (fun _ => 0) 0 0 (fun _ => 0) (fun _ => 0) 0 0 0 0 (fun _ => 0))) (va_A [(m0, .inr (2, [.int 0, .int 0, .null, .long 0, .long 0, .int 0, .null, .null, .null, .null, .int 0, .int 0, .null, .null, .long 0, .long 0, .long 0, .long 0, .null]))] sz)) 8 28884 (va_A [(m0, .inr (2, [.int 0, .int 0, .null, .long 0, .long 0, .int 0, .null, .null, .null, .null, .int 0, .int 0, .null, .null, .long 0, .long 0, .long 0, .long 0, .null]))] sz) := by
  refine Met.ofW (cc := cX2_init) (maxL := 1) (ret := none) (by decide) rfl ?_
  intro p e s m args below meth c s₁ B hml hv
  obtain ⟨rfl, hsz, hP, hK, hD0⟩ := hv
  have hx := B.exec
  have hb := B.bytes
  have hr := B.returns
  have hts := atoms_spec (ws := wsX2_init) B.pre
  have hown : s.vm.findClass RX2 = some m.cls := findClass_of_methodNamed B.named
  have hin : meth.name = "<init>" := (name_of_methodNamed B.named B.method).1
  subst hsz
  have hD := hD0.self (sz := s.heap.size)
  clear hD0
  generalize hAe : va_A [(m0, .inr (2, [.int 0, .int 0, .null, .long 0, .long 0, .int 0, .null, .null, .null, .null, .int 0, .int 0, .null, .null, .long 0, .long 0, .long 0, .long 0, .null]))] s.heap.size = A at hD ⊢
  have hA : ∀ q : Nat, s.heap.size ≤ q → A q := fun q h => by rw [← hAe]; exact Or.inr h
  have hl := lv_entry ([.ref m0]) (n := 1) (Nat.le_of_ble_eq_true rfl)
  rw [lg_entry_eq]
  generalize (lg_sl ([.ref m0]) ++ List.replicate (1 - (lg_sl ([.ref m0])).length) Slot.unset).toArray = ls at hl ⊢
  have hl : lv_has ls 1 [(0, .ref m0)] := hl
  have hP : va_P (dC, dI) vwCl [(m0, .inr (2, [.int 0, .int 0, .null, .long 0, .long 0, .int 0, .null, .null, .null, .null, .int 0, .int 0, .null, .null, .long 0, .long 0, .long 0, .long 0, .null]))] s.heap := hP
  obtain ⟨H, hH⟩ : ∃ H, H = s.heap := ⟨_, rfl⟩
  have hS : va_S A s.heap H [] := by rw [hH]; exact va_S.rf
  rw [← hH] at hP ⊢
  refine lv_aload_n hx hb dX2_init_0 rfl (lv_at hl 0 rfl) ?_
  refine W.objInit hx hb hown (hts (.methodLink RX2 1 objectInit) (List.mem_of_getElem? (i := 1) rfl)) (hts (.instanceMethod objectInit) (List.mem_of_getElem? (i := 2) rfl)) (hts (.code objectInit ⟨#[0xb1]⟩ 1 none) (List.mem_of_getElem? (i := 3) rfl)) rfl (by rw [hml]; exact hl.1) rfl dX2_init_1 (Nat.le_of_ble_eq_true rfl) (Nat.le_of_ble_eq_true rfl) ?_
  refine W.eq (g2 := F0 m 4 ls []) rfl ?_
  refine lv_aload_n hx hb dX2_init_4 rfl (lv_at hl 0 rfl) ?_
  refine lv_iconst (v := nI 1) hx hb dX2_init_5 (by decide) ?_
  refine va_put (D := (dC, dI)) (ci := 2) (v := .int (nI 1)) (ty := .int) (C := RX2) (T := TX2) (N := 19) hx hb hts (fun _ h => List.mem_cons_of_mem _ (List.mem_append_right _ h)) tyX2 tyX2_ok nmX2 hown hK hP hD hS 0 rfl rfl 0 (by decide) (hts (.fieldLink RX2 7 "RankFinderModel" "n" "I") (List.mem_of_getElem? (i := 4) rfl)) (fun _ h9 => h9) rfl (by decide +kernel) rfl rfl (Nat.le_of_ble_eq_true rfl) dX2_init_6 (fun H locs hP hD hS => ?_)
  have hP : va_P (dC, dI) vwCl [(m0, .inr (2, [.int (nI 1), .int 0, .null, .long 0, .long 0, .int 0, .null, .null, .null, .null, .int 0, .int 0, .null, .null, .long 0, .long 0, .long 0, .long 0, .null]))] H := hP
  have hD : va_D A [(m0, .inr (2, [.int (nI 1), .int 0, .null, .long 0, .long 0, .int 0, .null, .null, .null, .null, .int 0, .int 0, .null, .null, .long 0, .long 0, .long 0, .long 0, .null]))] := hD
  refine lv_aload_n hx hb dX2_init_9 rfl (lv_at hl 0 rfl) ?_
  refine lv_bipush (v := nI 56) hx hb dX2_init_10 (by decide) ?_
  refine va_newa (atype := .int) (ty := .int) (a0 := (56, .inl (fun _ => 0))) hx hb (hts (.arrayClass .int) (List.mem_of_getElem? (i := 5) rfl)) rfl hK hP hD hS hA (na_0I 56) (nI_nn (by omega)) (nI_clamp (by omega)) (Nat.le_of_ble_eq_true rfl) (Nat.le_of_ble_eq_true rfl) (Nat.le_of_ble_eq_true rfl) dX2_init_12 (fun aN cI H hK hP hD hS => ?_)
  have hP : va_P (dC, dI) vwCl [(m0, .inr (2, [.int (nI 1), .int 0, .null, .long 0, .long 0, .int 0, .null, .null, .null, .null, .int 0, .int 0, .null, .null, .long 0, .long 0, .long 0, .long 0, .null])), (aN, .inl (cI, 56, .inl (fun _ => 0)))] H := hP
  have hD : va_D A [(m0, .inr (2, [.int (nI 1), .int 0, .null, .long 0, .long 0, .int 0, .null, .null, .null, .null, .int 0, .int 0, .null, .null, .long 0, .long 0, .long 0, .long 0, .null])), (aN, .inl (cI, 56, .inl (fun _ => 0)))] := hD
  refine va_putF (D := (dC, dI)) (ci := 2) (v := .ref aN) (ty := (.array .int)) (C := RX2) (T := TX2) (N := 19) hx hb hts (fun _ h => List.mem_cons_of_mem _ (List.mem_append_right _ h)) tyX2 tyX2_ok nmX2 hown hK hP hD hS 0 rfl rfl 2 (by decide) (hts (.fieldLink RX2 13 "RankFinderModel" "numbers" "[I") (List.mem_of_getElem? (i := 6) rfl)) (fun _ h9 => h9) rfl hin rfl (by decide +kernel) rfl rfl (Nat.le_of_ble_eq_true rfl) dX2_init_14 (fun H locs hP hD hS => ?_)
  have hP : va_P (dC, dI) vwCl [(m0, .inr (2, [.int (nI 1), .int 0, .ref aN, .long 0, .long 0, .int 0, .null, .null, .null, .null, .int 0, .int 0, .null, .null, .long 0, .long 0, .long 0, .long 0, .null])), (aN, .inl (cI, 56, .inl (fun _ => 0)))] H := hP
  have hD : va_D A [(m0, .inr (2, [.int (nI 1), .int 0, .ref aN, .long 0, .long 0, .int 0, .null, .null, .null, .null, .int 0, .int 0, .null, .null, .long 0, .long 0, .long 0, .long 0, .null])), (aN, .inl (cI, 56, .inl (fun _ => 0)))] := hD
  refine lv_aload_n hx hb dX2_init_17 rfl (lv_at hl 0 rfl) ?_
  refine lv_sipush (v := nI 13200) hx hb dX2_init_18 (by decide) ?_
  refine va_newa (atype := .long) (ty := .long) (a0 := (13200, .inr (.inl (fun _ => 0)))) hx hb (hts (.arrayClass .long) (List.mem_of_getElem? (i := 7) rfl)) rfl hK hP hD hS hA (na_0J 13200) (nI_nn (by omega)) (nI_clamp (by omega)) (Nat.le_of_ble_eq_true rfl) (Nat.le_of_ble_eq_true rfl) (Nat.le_of_ble_eq_true rfl) dX2_init_21 (fun aR cJ H hK hP hD hS => ?_)
  have hP : va_P (dC, dI) vwCl [(m0, .inr (2, [.int (nI 1), .int 0, .ref aN, .long 0, .long 0, .int 0, .null, .null, .null, .null, .int 0, .int 0, .null, .null, .long 0, .long 0, .long 0, .long 0, .null])), (aN, .inl (cI, 56, .inl (fun _ => 0))), (aR, .inl (cJ, 13200, .inr (.inl (fun _ => 0))))] H := hP
  have hD : va_D A [(m0, .inr (2, [.int (nI 1), .int 0, .ref aN, .long 0, .long 0, .int 0, .null, .null, .null, .null, .int 0, .int 0, .null, .null, .long 0, .long 0, .long 0, .long 0, .null])), (aN, .inl (cI, 56, .inl (fun _ => 0))), (aR, .inl (cJ, 13200, .inr (.inl (fun _ => 0))))] := hD
  refine va_putF (D := (dC, dI)) (ci := 2) (v := .ref aR) (ty := (.array .long)) (C := RX2) (T := TX2) (N := 19) hx hb hts (fun _ h => List.mem_cons_of_mem _ (List.mem_append_right _ h)) tyX2 tyX2_ok nmX2 hown hK hP hD hS 0 rfl rfl 6 (by decide) (hts (.fieldLink RX2 17 "RankFinderModel" "rows" "[J") (List.mem_of_getElem? (i := 8) rfl)) (fun _ h9 => h9) rfl hin rfl (by decide +kernel) rfl rfl (Nat.le_of_ble_eq_true rfl) dX2_init_23 (fun H locs hP hD hS => ?_)
  have hP : va_P (dC, dI) vwCl [(m0, .inr (2, [.int (nI 1), .int 0, .ref aN, .long 0, .long 0, .int 0, .ref aR, .null, .null, .null, .int 0, .int 0, .null, .null, .long 0, .long 0, .long 0, .long 0, .null])), (aN, .inl (cI, 56, .inl (fun _ => 0))), (aR, .inl (cJ, 13200, .inr (.inl (fun _ => 0))))] H := hP
  have hD : va_D A [(m0, .inr (2, [.int (nI 1), .int 0, .ref aN, .long 0, .long 0, .int 0, .ref aR, .null, .null, .null, .int 0, .int 0, .null, .null, .long 0, .long 0, .long 0, .long 0, .null])), (aN, .inl (cI, 56, .inl (fun _ => 0))), (aR, .inl (cJ, 13200, .inr (.inl (fun _ => 0))))] := hD
  refine lv_aload_n hx hb dX2_init_26 rfl (lv_at hl 0 rfl) ?_
  refine lv_sipush (v := nI 13200) hx hb dX2_init_27 (by decide) ?_
  refine va_newa (atype := .long) (ty := .long) (a0 := (13200, .inr (.inl (fun _ => 0)))) hx hb (hts (.arrayClass .long) (List.mem_of_getElem? (i := 7) rfl)) rfl hK hP hD hS hA (na_0J 13200) (nI_nn (by omega)) (nI_clamp (by omega)) (Nat.le_of_ble_eq_true rfl) (Nat.le_of_ble_eq_true rfl) (Nat.le_of_ble_eq_true rfl) dX2_init_30 (fun aX c2_ H hK hP hD hS => ?_)
  obtain rfl : cJ = c2_ := va_KsJ hK (i := 1) (j := 2) rfl rfl
  have hP : va_P (dC, dI) vwCl [(m0, .inr (2, [.int (nI 1), .int 0, .ref aN, .long 0, .long 0, .int 0, .ref aR, .null, .null, .null, .int 0, .int 0, .null, .null, .long 0, .long 0, .long 0, .long 0, .null])), (aN, .inl (cI, 56, .inl (fun _ => 0))), (aR, .inl (cJ, 13200, .inr (.inl (fun _ => 0)))), (aX, .inl (cJ, 13200, .inr (.inl (fun _ => 0))))] H := hP
  have hD : va_D A [(m0, .inr (2, [.int (nI 1), .int 0, .ref aN, .long 0, .long 0, .int 0, .ref aR, .null, .null, .null, .int 0, .int 0, .null, .null, .long 0, .long 0, .long 0, .long 0, .null])), (aN, .inl (cI, 56, .inl (fun _ => 0))), (aR, .inl (cJ, 13200, .inr (.inl (fun _ => 0)))), (aX, .inl (cJ, 13200, .inr (.inl (fun _ => 0))))] := hD
  refine va_putF (D := (dC, dI)) (ci := 2) (v := .ref aX) (ty := (.array .long)) (C := RX2) (T := TX2) (N := 19) hx hb hts (fun _ h => List.mem_cons_of_mem _ (List.mem_append_right _ h)) tyX2 tyX2_ok nmX2 hown hK hP hD hS 0 rfl rfl 7 (by decide) (hts (.fieldLink RX2 21 "RankFinderModel" "next" "[J") (List.mem_of_getElem? (i := 9) rfl)) (fun _ h9 => h9) rfl hin rfl (by decide +kernel) rfl rfl (Nat.le_of_ble_eq_true rfl) dX2_init_32 (fun H locs hP hD hS => ?_)
  have hP : va_P (dC, dI) vwCl [(m0, .inr (2, [.int (nI 1), .int 0, .ref aN, .long 0, .long 0, .int 0, .ref aR, .ref aX, .null, .null, .int 0, .int 0, .null, .null, .long 0, .long 0, .long 0, .long 0, .null])), (aN, .inl (cI, 56, .inl (fun _ => 0))), (aR, .inl (cJ, 13200, .inr (.inl (fun _ => 0)))), (aX, .inl (cJ, 13200, .inr (.inl (fun _ => 0))))] H := hP
  have hD : va_D A [(m0, .inr (2, [.int (nI 1), .int 0, .ref aN, .long 0, .long 0, .int 0, .ref aR, .ref aX, .null, .null, .int 0, .int 0, .null, .null, .long 0, .long 0, .long 0, .long 0, .null])), (aN, .inl (cI, 56, .inl (fun _ => 0))), (aR, .inl (cJ, 13200, .inr (.inl (fun _ => 0)))), (aX, .inl (cJ, 13200, .inr (.inl (fun _ => 0))))] := hD
  refine lv_aload_n hx hb dX2_init_35 rfl (lv_at hl 0 rfl) ?_
  refine lv_sipush (v := nI 1200) hx hb dX2_init_36 (by decide) ?_
  refine va_newa (atype := .int) (ty := .int) (a0 := (1200, .inl (fun _ => 0))) hx hb (hts (.arrayClass .int) (List.mem_of_getElem? (i := 5) rfl)) rfl hK hP hD hS hA (na_0I 1200) (nI_nn (by omega)) (nI_clamp (by omega)) (Nat.le_of_ble_eq_true rfl) (Nat.le_of_ble_eq_true rfl) (Nat.le_of_ble_eq_true rfl) dX2_init_39 (fun aO c3_ H hK hP hD hS => ?_)
  obtain rfl : cI = c3_ := va_KsI hK (i := 0) (j := 3) rfl rfl
  have hP : va_P (dC, dI) vwCl [(m0, .inr (2, [.int (nI 1), .int 0, .ref aN, .long 0, .long 0, .int 0, .ref aR, .ref aX, .null, .null, .int 0, .int 0, .null, .null, .long 0, .long 0, .long 0, .long 0, .null])), (aN, .inl (cI, 56, .inl (fun _ => 0))), (aR, .inl (cJ, 13200, .inr (.inl (fun _ => 0)))), (aX, .inl (cJ, 13200, .inr (.inl (fun _ => 0)))), (aO, .inl (cI, 1200, .inl (fun _ => 0)))] H := hP
  have hD : va_D A [(m0, .inr (2, [.int (nI 1), .int 0, .ref aN, .long 0, .long 0, .int 0, .ref aR, .ref aX, .null, .null, .int 0, .int 0, .null, .null, .long 0, .long 0, .long 0, .long 0, .null])), (aN, .inl (cI, 56, .inl (fun _ => 0))), (aR, .inl (cJ, 13200, .inr (.inl (fun _ => 0)))), (aX, .inl (cJ, 13200, .inr (.inl (fun _ => 0)))), (aO, .inl (cI, 1200, .inl (fun _ => 0)))] := hD
  refine va_putF (D := (dC, dI)) (ci := 2) (v := .ref aO) (ty := (.array .int)) (C := RX2) (T := TX2) (N := 19) hx hb hts (fun _ h => List.mem_cons_of_mem _ (List.mem_append_right _ h)) tyX2 tyX2_ok nmX2 hown hK hP hD hS 0 rfl rfl 8 (by decide) (hts (.fieldLink RX2 24 "RankFinderModel" "origins" "[I") (List.mem_of_getElem? (i := 10) rfl)) (fun _ h9 => h9) rfl hin rfl (by decide +kernel) rfl rfl (Nat.le_of_ble_eq_true rfl) dX2_init_41 (fun H locs hP hD hS => ?_)
  have hP : va_P (dC, dI) vwCl [(m0, .inr (2, [.int (nI 1), .int 0, .ref aN, .long 0, .long 0, .int 0, .ref aR, .ref aX, .ref aO, .null, .int 0, .int 0, .null, .null, .long 0, .long 0, .long 0, .long 0, .null])), (aN, .inl (cI, 56, .inl (fun _ => 0))), (aR, .inl (cJ, 13200, .inr (.inl (fun _ => 0)))), (aX, .inl (cJ, 13200, .inr (.inl (fun _ => 0)))), (aO, .inl (cI, 1200, .inl (fun _ => 0)))] H := hP
  have hD : va_D A [(m0, .inr (2, [.int (nI 1), .int 0, .ref aN, .long 0, .long 0, .int 0, .ref aR, .ref aX, .ref aO, .null, .int 0, .int 0, .null, .null, .long 0, .long 0, .long 0, .long 0, .null])), (aN, .inl (cI, 56, .inl (fun _ => 0))), (aR, .inl (cJ, 13200, .inr (.inl (fun _ => 0)))), (aX, .inl (cJ, 13200, .inr (.inl (fun _ => 0)))), (aO, .inl (cI, 1200, .inl (fun _ => 0)))] := hD
  refine lv_aload_n hx hb dX2_init_44 rfl (lv_at hl 0 rfl) ?_
  refine lv_sipush (v := nI 1200) hx hb dX2_init_45 (by decide) ?_
  refine va_newa (atype := .int) (ty := .int) (a0 := (1200, .inl (fun _ => 0))) hx hb (hts (.arrayClass .int) (List.mem_of_getElem? (i := 5) rfl)) rfl hK hP hD hS hA (na_0I 1200) (nI_nn (by omega)) (nI_clamp (by omega)) (Nat.le_of_ble_eq_true rfl) (Nat.le_of_ble_eq_true rfl) (Nat.le_of_ble_eq_true rfl) dX2_init_48 (fun aP c4_ H hK hP hD hS => ?_)
  obtain rfl : cI = c4_ := va_KsI hK (i := 0) (j := 4) rfl rfl
  have hP : va_P (dC, dI) vwCl [(m0, .inr (2, [.int (nI 1), .int 0, .ref aN, .long 0, .long 0, .int 0, .ref aR, .ref aX, .ref aO, .null, .int 0, .int 0, .null, .null, .long 0, .long 0, .long 0, .long 0, .null])), (aN, .inl (cI, 56, .inl (fun _ => 0))), (aR, .inl (cJ, 13200, .inr (.inl (fun _ => 0)))), (aX, .inl (cJ, 13200, .inr (.inl (fun _ => 0)))), (aO, .inl (cI, 1200, .inl (fun _ => 0))), (aP, .inl (cI, 1200, .inl (fun _ => 0)))] H := hP
  have hD : va_D A [(m0, .inr (2, [.int (nI 1), .int 0, .ref aN, .long 0, .long 0, .int 0, .ref aR, .ref aX, .ref aO, .null, .int 0, .int 0, .null, .null, .long 0, .long 0, .long 0, .long 0, .null])), (aN, .inl (cI, 56, .inl (fun _ => 0))), (aR, .inl (cJ, 13200, .inr (.inl (fun _ => 0)))), (aX, .inl (cJ, 13200, .inr (.inl (fun _ => 0)))), (aO, .inl (cI, 1200, .inl (fun _ => 0))), (aP, .inl (cI, 1200, .inl (fun _ => 0)))] := hD
  refine va_putF (D := (dC, dI)) (ci := 2) (v := .ref aP) (ty := (.array .int)) (C := RX2) (T := TX2) (N := 19) hx hb hts (fun _ h => List.mem_cons_of_mem _ (List.mem_append_right _ h)) tyX2 tyX2_ok nmX2 hown hK hP hD hS 0 rfl rfl 9 (by decide) (hts (.fieldLink RX2 27 "RankFinderModel" "nextOrigins" "[I") (List.mem_of_getElem? (i := 11) rfl)) (fun _ h9 => h9) rfl hin rfl (by decide +kernel) rfl rfl (Nat.le_of_ble_eq_true rfl) dX2_init_50 (fun H locs hP hD hS => ?_)
  have hP : va_P (dC, dI) vwCl [(m0, .inr (2, [.int (nI 1), .int 0, .ref aN, .long 0, .long 0, .int 0, .ref aR, .ref aX, .ref aO, .ref aP, .int 0, .int 0, .null, .null, .long 0, .long 0, .long 0, .long 0, .null])), (aN, .inl (cI, 56, .inl (fun _ => 0))), (aR, .inl (cJ, 13200, .inr (.inl (fun _ => 0)))), (aX, .inl (cJ, 13200, .inr (.inl (fun _ => 0)))), (aO, .inl (cI, 1200, .inl (fun _ => 0))), (aP, .inl (cI, 1200, .inl (fun _ => 0)))] H := hP
  have hD : va_D A [(m0, .inr (2, [.int (nI 1), .int 0, .ref aN, .long 0, .long 0, .int 0, .ref aR, .ref aX, .ref aO, .ref aP, .int 0, .int 0, .null, .null, .long 0, .long 0, .long 0, .long 0, .null])), (aN, .inl (cI, 56, .inl (fun _ => 0))), (aR, .inl (cJ, 13200, .inr (.inl (fun _ => 0)))), (aX, .inl (cJ, 13200, .inr (.inl (fun _ => 0)))), (aO, .inl (cI, 1200, .inl (fun _ => 0))), (aP, .inl (cI, 1200, .inl (fun _ => 0)))] := hD
  refine lv_aload_n hx hb dX2_init_53 rfl (lv_at hl 0 rfl) ?_
  refine lv_bipush (v := nI 11) hx hb dX2_init_54 (by decide) ?_
  refine va_newa (atype := .long) (ty := .long) (a0 := (11, .inr (.inl (fun _ => 0)))) hx hb (hts (.arrayClass .long) (List.mem_of_getElem? (i := 7) rfl)) rfl hK hP hD hS hA (na_0J 11) (nI_nn (by omega)) (nI_clamp (by omega)) (Nat.le_of_ble_eq_true rfl) (Nat.le_of_ble_eq_true rfl) (Nat.le_of_ble_eq_true rfl) dX2_init_56 (fun aH c5_ H hK hP hD hS => ?_)
  obtain rfl : cJ = c5_ := va_KsJ hK (i := 1) (j := 5) rfl rfl
  have hP : va_P (dC, dI) vwCl [(m0, .inr (2, [.int (nI 1), .int 0, .ref aN, .long 0, .long 0, .int 0, .ref aR, .ref aX, .ref aO, .ref aP, .int 0, .int 0, .null, .null, .long 0, .long 0, .long 0, .long 0, .null])), (aN, .inl (cI, 56, .inl (fun _ => 0))), (aR, .inl (cJ, 13200, .inr (.inl (fun _ => 0)))), (aX, .inl (cJ, 13200, .inr (.inl (fun _ => 0)))), (aO, .inl (cI, 1200, .inl (fun _ => 0))), (aP, .inl (cI, 1200, .inl (fun _ => 0))), (aH, .inl (cJ, 11, .inr (.inl (fun _ => 0))))] H := hP
  have hD : va_D A [(m0, .inr (2, [.int (nI 1), .int 0, .ref aN, .long 0, .long 0, .int 0, .ref aR, .ref aX, .ref aO, .ref aP, .int 0, .int 0, .null, .null, .long 0, .long 0, .long 0, .long 0, .null])), (aN, .inl (cI, 56, .inl (fun _ => 0))), (aR, .inl (cJ, 13200, .inr (.inl (fun _ => 0)))), (aX, .inl (cJ, 13200, .inr (.inl (fun _ => 0)))), (aO, .inl (cI, 1200, .inl (fun _ => 0))), (aP, .inl (cI, 1200, .inl (fun _ => 0))), (aH, .inl (cJ, 11, .inr (.inl (fun _ => 0))))] := hD
  refine va_putF (D := (dC, dI)) (ci := 2) (v := .ref aH) (ty := (.array .long)) (C := RX2) (T := TX2) (N := 19) hx hb hts (fun _ h => List.mem_cons_of_mem _ (List.mem_append_right _ h)) tyX2 tyX2_ok nmX2 hown hK hP hD hS 0 rfl rfl 12 (by decide) (hts (.fieldLink RX2 30 "RankFinderModel" "highs" "[J") (List.mem_of_getElem? (i := 12) rfl)) (fun _ h9 => h9) rfl hin rfl (by decide +kernel) rfl rfl (Nat.le_of_ble_eq_true rfl) dX2_init_58 (fun H locs hP hD hS => ?_)
  have hP : va_P (dC, dI) vwCl [(m0, .inr (2, [.int (nI 1), .int 0, .ref aN, .long 0, .long 0, .int 0, .ref aR, .ref aX, .ref aO, .ref aP, .int 0, .int 0, .ref aH, .null, .long 0, .long 0, .long 0, .long 0, .null])), (aN, .inl (cI, 56, .inl (fun _ => 0))), (aR, .inl (cJ, 13200, .inr (.inl (fun _ => 0)))), (aX, .inl (cJ, 13200, .inr (.inl (fun _ => 0)))), (aO, .inl (cI, 1200, .inl (fun _ => 0))), (aP, .inl (cI, 1200, .inl (fun _ => 0))), (aH, .inl (cJ, 11, .inr (.inl (fun _ => 0))))] H := hP
  have hD : va_D A [(m0, .inr (2, [.int (nI 1), .int 0, .ref aN, .long 0, .long 0, .int 0, .ref aR, .ref aX, .ref aO, .ref aP, .int 0, .int 0, .ref aH, .null, .long 0, .long 0, .long 0, .long 0, .null])), (aN, .inl (cI, 56, .inl (fun _ => 0))), (aR, .inl (cJ, 13200, .inr (.inl (fun _ => 0)))), (aX, .inl (cJ, 13200, .inr (.inl (fun _ => 0)))), (aO, .inl (cI, 1200, .inl (fun _ => 0))), (aP, .inl (cI, 1200, .inl (fun _ => 0))), (aH, .inl (cJ, 11, .inr (.inl (fun _ => 0))))] := hD
  refine lv_aload_n hx hb dX2_init_61 rfl (lv_at hl 0 rfl) ?_
  refine lv_bipush (v := nI 11) hx hb dX2_init_62 (by decide) ?_
  refine va_newa (atype := .long) (ty := .long) (a0 := (11, .inr (.inl (fun _ => 0)))) hx hb (hts (.arrayClass .long) (List.mem_of_getElem? (i := 7) rfl)) rfl hK hP hD hS hA (na_0J 11) (nI_nn (by omega)) (nI_clamp (by omega)) (Nat.le_of_ble_eq_true rfl) (Nat.le_of_ble_eq_true rfl) (Nat.le_of_ble_eq_true rfl) dX2_init_64 (fun aL c6_ H hK hP hD hS => ?_)
  obtain rfl : cJ = c6_ := va_KsJ hK (i := 1) (j := 6) rfl rfl
  have hP : va_P (dC, dI) vwCl [(m0, .inr (2, [.int (nI 1), .int 0, .ref aN, .long 0, .long 0, .int 0, .ref aR, .ref aX, .ref aO, .ref aP, .int 0, .int 0, .ref aH, .null, .long 0, .long 0, .long 0, .long 0, .null])), (aN, .inl (cI, 56, .inl (fun _ => 0))), (aR, .inl (cJ, 13200, .inr (.inl (fun _ => 0)))), (aX, .inl (cJ, 13200, .inr (.inl (fun _ => 0)))), (aO, .inl (cI, 1200, .inl (fun _ => 0))), (aP, .inl (cI, 1200, .inl (fun _ => 0))), (aH, .inl (cJ, 11, .inr (.inl (fun _ => 0)))), (aL, .inl (cJ, 11, .inr (.inl (fun _ => 0))))] H := hP
  have hD : va_D A [(m0, .inr (2, [.int (nI 1), .int 0, .ref aN, .long 0, .long 0, .int 0, .ref aR, .ref aX, .ref aO, .ref aP, .int 0, .int 0, .ref aH, .null, .long 0, .long 0, .long 0, .long 0, .null])), (aN, .inl (cI, 56, .inl (fun _ => 0))), (aR, .inl (cJ, 13200, .inr (.inl (fun _ => 0)))), (aX, .inl (cJ, 13200, .inr (.inl (fun _ => 0)))), (aO, .inl (cI, 1200, .inl (fun _ => 0))), (aP, .inl (cI, 1200, .inl (fun _ => 0))), (aH, .inl (cJ, 11, .inr (.inl (fun _ => 0)))), (aL, .inl (cJ, 11, .inr (.inl (fun _ => 0))))] := hD
  refine va_putF (D := (dC, dI)) (ci := 2) (v := .ref aL) (ty := (.array .long)) (C := RX2) (T := TX2) (N := 19) hx hb hts (fun _ h => List.mem_cons_of_mem _ (List.mem_append_right _ h)) tyX2 tyX2_ok nmX2 hown hK hP hD hS 0 rfl rfl 13 (by decide) (hts (.fieldLink RX2 33 "RankFinderModel" "lows" "[J") (List.mem_of_getElem? (i := 13) rfl)) (fun _ h9 => h9) rfl hin rfl (by decide +kernel) rfl rfl (Nat.le_of_ble_eq_true rfl) dX2_init_66 (fun H locs hP hD hS => ?_)
  have hP : va_P (dC, dI) vwCl [(m0, .inr (2, [.int (nI 1), .int 0, .ref aN, .long 0, .long 0, .int 0, .ref aR, .ref aX, .ref aO, .ref aP, .int 0, .int 0, .ref aH, .ref aL, .long 0, .long 0, .long 0, .long 0, .null])), (aN, .inl (cI, 56, .inl (fun _ => 0))), (aR, .inl (cJ, 13200, .inr (.inl (fun _ => 0)))), (aX, .inl (cJ, 13200, .inr (.inl (fun _ => 0)))), (aO, .inl (cI, 1200, .inl (fun _ => 0))), (aP, .inl (cI, 1200, .inl (fun _ => 0))), (aH, .inl (cJ, 11, .inr (.inl (fun _ => 0)))), (aL, .inl (cJ, 11, .inr (.inl (fun _ => 0))))] H := hP
  have hD : va_D A [(m0, .inr (2, [.int (nI 1), .int 0, .ref aN, .long 0, .long 0, .int 0, .ref aR, .ref aX, .ref aO, .ref aP, .int 0, .int 0, .ref aH, .ref aL, .long 0, .long 0, .long 0, .long 0, .null])), (aN, .inl (cI, 56, .inl (fun _ => 0))), (aR, .inl (cJ, 13200, .inr (.inl (fun _ => 0)))), (aX, .inl (cJ, 13200, .inr (.inl (fun _ => 0)))), (aO, .inl (cI, 1200, .inl (fun _ => 0))), (aP, .inl (cI, 1200, .inl (fun _ => 0))), (aH, .inl (cJ, 11, .inr (.inl (fun _ => 0)))), (aL, .inl (cJ, 11, .inr (.inl (fun _ => 0))))] := hD
  refine lv_aload_n hx hb dX2_init_69 rfl (lv_at hl 0 rfl) ?_
  refine lv_bipush (v := nI 6) hx hb dX2_init_70 (by decide) ?_
  refine va_newa (atype := .int) (ty := .int) (a0 := (6, .inl (fun _ => 0))) hx hb (hts (.arrayClass .int) (List.mem_of_getElem? (i := 5) rfl)) rfl hK hP hD hS hA (na_0I 6) (nI_nn (by omega)) (nI_clamp (by omega)) (Nat.le_of_ble_eq_true rfl) (Nat.le_of_ble_eq_true rfl) (Nat.le_of_ble_eq_true rfl) dX2_init_72 (fun aW c7_ H hK hP hD hS => ?_)
  obtain rfl : cI = c7_ := va_KsI hK (i := 0) (j := 7) rfl rfl
  have hP : va_P (dC, dI) vwCl [(m0, .inr (2, [.int (nI 1), .int 0, .ref aN, .long 0, .long 0, .int 0, .ref aR, .ref aX, .ref aO, .ref aP, .int 0, .int 0, .ref aH, .ref aL, .long 0, .long 0, .long 0, .long 0, .null])), (aN, .inl (cI, 56, .inl (fun _ => 0))), (aR, .inl (cJ, 13200, .inr (.inl (fun _ => 0)))), (aX, .inl (cJ, 13200, .inr (.inl (fun _ => 0)))), (aO, .inl (cI, 1200, .inl (fun _ => 0))), (aP, .inl (cI, 1200, .inl (fun _ => 0))), (aH, .inl (cJ, 11, .inr (.inl (fun _ => 0)))), (aL, .inl (cJ, 11, .inr (.inl (fun _ => 0)))), (aW, .inl (cI, 6, .inl (fun _ => 0)))] H := hP
  have hD : va_D A [(m0, .inr (2, [.int (nI 1), .int 0, .ref aN, .long 0, .long 0, .int 0, .ref aR, .ref aX, .ref aO, .ref aP, .int 0, .int 0, .ref aH, .ref aL, .long 0, .long 0, .long 0, .long 0, .null])), (aN, .inl (cI, 56, .inl (fun _ => 0))), (aR, .inl (cJ, 13200, .inr (.inl (fun _ => 0)))), (aX, .inl (cJ, 13200, .inr (.inl (fun _ => 0)))), (aO, .inl (cI, 1200, .inl (fun _ => 0))), (aP, .inl (cI, 1200, .inl (fun _ => 0))), (aH, .inl (cJ, 11, .inr (.inl (fun _ => 0)))), (aL, .inl (cJ, 11, .inr (.inl (fun _ => 0)))), (aW, .inl (cI, 6, .inl (fun _ => 0)))] := hD
  refine va_putF (D := (dC, dI)) (ci := 2) (v := .ref aW) (ty := (.array .int)) (C := RX2) (T := TX2) (N := 19) hx hb hts (fun _ h => List.mem_cons_of_mem _ (List.mem_append_right _ h)) tyX2 tyX2_ok nmX2 hown hK hP hD hS 0 rfl rfl 18 (by decide) (hts (.fieldLink RX2 36 "RankFinderModel" "wanted" "[I") (List.mem_of_getElem? (i := 14) rfl)) (fun _ h9 => h9) rfl hin rfl (by decide +kernel) rfl rfl (Nat.le_of_ble_eq_true rfl) dX2_init_74 (fun H locs hP hD hS => ?_)
  have hP : va_P (dC, dI) vwCl [(m0, .inr (2, [.int (nI 1), .int 0, .ref aN, .long 0, .long 0, .int 0, .ref aR, .ref aX, .ref aO, .ref aP, .int 0, .int 0, .ref aH, .ref aL, .long 0, .long 0, .long 0, .long 0, .ref aW])), (aN, .inl (cI, 56, .inl (fun _ => 0))), (aR, .inl (cJ, 13200, .inr (.inl (fun _ => 0)))), (aX, .inl (cJ, 13200, .inr (.inl (fun _ => 0)))), (aO, .inl (cI, 1200, .inl (fun _ => 0))), (aP, .inl (cI, 1200, .inl (fun _ => 0))), (aH, .inl (cJ, 11, .inr (.inl (fun _ => 0)))), (aL, .inl (cJ, 11, .inr (.inl (fun _ => 0)))), (aW, .inl (cI, 6, .inl (fun _ => 0)))] H := hP
  have hD : va_D A [(m0, .inr (2, [.int (nI 1), .int 0, .ref aN, .long 0, .long 0, .int 0, .ref aR, .ref aX, .ref aO, .ref aP, .int 0, .int 0, .ref aH, .ref aL, .long 0, .long 0, .long 0, .long 0, .ref aW])), (aN, .inl (cI, 56, .inl (fun _ => 0))), (aR, .inl (cJ, 13200, .inr (.inl (fun _ => 0)))), (aX, .inl (cJ, 13200, .inr (.inl (fun _ => 0)))), (aO, .inl (cI, 1200, .inl (fun _ => 0))), (aP, .inl (cI, 1200, .inl (fun _ => 0))), (aH, .inl (cJ, 11, .inr (.inl (fun _ => 0)))), (aL, .inl (cJ, 11, .inr (.inl (fun _ => 0)))), (aW, .inl (cI, 6, .inl (fun _ => 0)))] := hD
  have hP : va_P (dC, dI) vwCl (mdW m0 aN aR aX aO aP aH aL aW cI cJ 1 0 (fun _ => 0) 0 0 0 (fun _ => 0) (fun _ => 0) (fun _ => 0) (fun _ => 0) 0 0 (fun _ => 0) (fun _ => 0) 0 0 0 0 (fun _ => 0)) H := hP
  have hD : va_D A (mdW m0 aN aR aX aO aP aH aL aW cI cJ 1 0 (fun _ => 0) 0 0 0 (fun _ => 0) (fun _ => 0) (fun _ => 0) (fun _ => 0) 0 0 (fun _ => 0) (fun _ => 0) 0 0 0 0 (fun _ => 0)) := hD
  have hK := hK.sub (tys' := [(cI, .int), (cJ, .long)]) [0, 1] rfl
  refine W.widen (k := 8) (n := 28884) (Nat.le_of_ble_eq_true rfl) (Nat.le_of_ble_eq_true rfl) ?_
  exact W.vret hx hb hr (fun t ht hW => ⟨⟨(aN, aR, aX, aO, aP, aH, aL, aW, cI, cJ), rfl, trivial, by rw [ht]; exact hP, va_K.moved hW.alike hK, hD⟩, hS.F ht⟩) hS.2.2 dX2_init_77
