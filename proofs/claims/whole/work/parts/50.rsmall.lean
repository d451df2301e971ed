/-! ===== RankFinder: its world; the methods that don't weigh ===== -/
abbrev rfX (p0 qt qg h0 : Nat) (rt : Nat → Nat) (cB cI : ClassId) (vn ct : Nat) (ft fb : Int64) (gl : Nat → Int32) (T : Nat → Nat → Int32) : va_W :=
  [(p0, .inr (1, [.ref qt, .ref qg, .ref h0, .int (nI vn), .int (nI ct), .long ft, .long fb])), (qt, .inl (cB, 8, .inr (.inr (.inr (.inr (fun i => if i < 8 then some (rt i) else none)))))), (qg, .inl (cI, 6, .inl gl))] ++ (List.range 8).map (fun i => (rt i, .inl (cI, 7, .inl (T i))))
theorem rf_row {p0 qt qg h0 : Nat} {rt : Nat → Nat} {cB cI : ClassId} {vn ct : Nat} {ft fb : Int64} {gl : Nat → Int32} {T : Nat → Nat → Int32} {Y : va_W} {i : Nat} (hi : i < 8) : (rfX p0 qt qg h0 rt cB cI vn ct ft fb gl T ++ Y)[3 + i]? = some (rt i, .inl (cI, 7, .inl (T i))) := by
  rw [List.getElem?_append_left (by simp; omega)]
  exact gG_get (g := fun i => (rt i, Sum.inl (cI, 7, Sum.inl (T i)))) hi rfl
theorem rf_set {p0 qt qg h0 : Nat} {rt : Nat → Nat} {cB cI : ClassId} {vn ct : Nat} {ft fb : Int64} {gl : Nat → Int32} {T : Nat → Nat → Int32} {Y : va_W} {i : Nat} (hi : i < 8) {f : Nat → Int32} : (rfX p0 qt qg h0 rt cB cI vn ct ft fb gl T ++ Y).set (3 + i) (rt i, .inl (cI, 7, .inl f)) = rfX p0 qt qg h0 rt cB cI vn ct ft fb gl (fup T i f) ++ Y := by
  rw [List.set_append_left _ _ (by simp; omega)]
  congr 1
  refine (gG_set (k := 3 + i) hi rfl _).trans ?_
  refine congrArg (fun g => _ ++ (List.range 8).map g) ?_
  funext k
  by_cases e : k = i
  · subst e; simp [fup]
  · simp [fup, e]
/-- a number within its limit -/
def inR (a y : Int32) : Prop := ¬ a < -y ∧ ¬ y < a
set_option maxHeartbeats 1000000 in
set_option maxRecDepth 100000 in
/-- isWithin(a, y) -/
theorem c_X1_isWithin (l : Launch) (dC : Nat → ClassId) (dI : Nat → Nat → Nat) (sz : Nat) (a y : Int32) : Met l yX1_isWithin wsX1_isWithin ({ frames := 0, cells := 0, slots := 0, locals := 0 }) (va_Pc [.int a, .int y] (fun U => U.heap.size = sz ∧ va_P (dC, dI) vwCl ([] : va_W) U.heap ∧ va_K (dC, dI) vwCl [] U ∧ va_D (fun _ => True) ([] : va_W))) (va_Qi (fun (x : Int32) (v : Unit) => (x = 1 ∧ inR a y) ∨ (x = 0 ∧ ¬ inR a y)) (fun v t => va_P (dC, dI) vwCl ([] : va_W) t.heap ∧ va_K (dC, dI) vwCl [] t ∧ va_D (va_A ([] : va_W) sz) ([] : va_W)) (va_A ([] : va_W) sz)) 0 0 (va_A ([] : va_W) sz) := by
  refine Met.ofW (cc := cX1_isWithin) (maxL := 2) (ret := (some .boolean)) (by decide) rfl ?_
  intro p e s m args below meth c s₁ B hml hv
  obtain ⟨rfl, hsz, hP, hK, hD0⟩ := hv
  have hx := B.exec
  have hb := B.bytes
  have hr := B.returns
  have hts := atoms_spec (ws := wsX1_isWithin) B.pre
  have hown : s.vm.findClass RX1 = some m.cls := findClass_of_methodNamed B.named
  subst hsz
  have hD := hD0.self (sz := s.heap.size)
  clear hD0
  generalize hAe : va_A ([] : va_W) s.heap.size = A at hD ⊢
  have hA : ∀ q : Nat, s.heap.size ≤ q → A q := fun q h => by rw [← hAe]; exact Or.inr h
  have hl := lv_entry ([.int a, .int y]) (n := 2) (Nat.le_of_ble_eq_true rfl)
  rw [lg_entry_eq]
  generalize (lg_sl ([.int a, .int y]) ++ List.replicate (2 - (lg_sl ([.int a, .int y])).length) Slot.unset).toArray = ls at hl ⊢
  have hl : lv_has ls 2 [(0, .int a), (1, .int y)] := hl
  have hP : va_P (dC, dI) vwCl ([] : va_W) s.heap := hP
  obtain ⟨H, hH⟩ : ∃ H, H = s.heap := ⟨_, rfl⟩
  have hS : va_S A s.heap H [] := by rw [hH]; exact va_S.rf
  rw [← hH] at hP ⊢
  refine lv_iload_n hx hb dX1_isWithin_0 rfl (lv_at hl 0 rfl) ?_
  refine lv_iload_n hx hb dX1_isWithin_1 rfl (lv_at hl 1 rfl) ?_
  refine lv_ineg hx hb dX1_isWithin_2 ?_
  refine lv_icmp_lt (tgt := 15) hx hb dX1_isWithin_3 (by decide) (fun c1 => ?_) (fun c1 => ?_)
  · refine lv_iconst (v := nI 0) hx hb dX1_isWithin_15 (by decide) ?_
    exact W.zret (v := (nI 0)) hx hb hr (by rfl) (fun t ht hW => ⟨⟨(nI 0), (), rfl, Or.inr ⟨rfl, fun q => q.1 c1⟩, by rw [ht]; exact hP, va_K.moved hW.alike hK, hD⟩, hS.F ht⟩) hS.2.2 dX1_isWithin_16
  · refine lv_iload_n hx hb dX1_isWithin_6 rfl (lv_at hl 0 rfl) ?_
    refine lv_iload_n hx hb dX1_isWithin_7 rfl (lv_at hl 1 rfl) ?_
    refine lv_icmp_gt (tgt := 15) hx hb dX1_isWithin_8 (by decide) (fun c2 => ?_) (fun c2 => ?_)
    · refine lv_iconst (v := nI 0) hx hb dX1_isWithin_15 (by decide) ?_
      exact W.zret (v := (nI 0)) hx hb hr (by rfl) (fun t ht hW => ⟨⟨(nI 0), (), rfl, Or.inr ⟨rfl, fun q => q.2 c2⟩, by rw [ht]; exact hP, va_K.moved hW.alike hK, hD⟩, hS.F ht⟩) hS.2.2 dX1_isWithin_16
    · refine lv_iconst (v := nI 1) hx hb dX1_isWithin_11 (by decide) ?_
      refine lv_goto (tgt := 16) hx hb dX1_isWithin_12 (by decide) ?_
      exact W.zret (v := (nI 1)) hx hb hr (by rfl) (fun t ht hW => ⟨⟨(nI 1), (), rfl, Or.inl ⟨rfl, c1, c2⟩, by rw [ht]; exact hP, va_K.moved hW.alike hK, hD⟩, hS.F ht⟩) hS.2.2 dX1_isWithin_16
set_option maxHeartbeats 1000000 in
set_option maxRecDepth 100000 in
/-- areWithin(a, b, d, y) -/
theorem c_X1_areWithin (l : Launch) (dC : Nat → ClassId) (dI : Nat → Nat → Nat) (sz : Nat) (a b d y : Int32) : Met l yX1_areWithin wsX1_areWithin ({ frames := 1, cells := 0, slots := 0, locals := 21 }) (va_Pc [.int a, .int b, .int d, .int y] (fun U => U.heap.size = sz ∧ va_P (dC, dI) vwCl ([] : va_W) U.heap ∧ va_K (dC, dI) vwCl [] U ∧ va_D (fun _ => True) ([] : va_W))) (va_Qi (fun (x : Int32) (v : Unit) => (x = 1 ∧ inR a y ∧ inR b y ∧ inR d y) ∨ (x = 0 ∧ ¬ (inR a y ∧ inR b y ∧ inR d y))) (fun v t => va_P (dC, dI) vwCl ([] : va_W) t.heap ∧ va_K (dC, dI) vwCl [] t ∧ va_D (va_A ([] : va_W) sz) ([] : va_W)) (va_A ([] : va_W) sz)) 0 0 (va_A ([] : va_W) sz) := by
  refine Met.ofW (cc := cX1_areWithin) (maxL := 4) (ret := (some .boolean)) (by decide) rfl ?_
  intro p e s m args below meth c s₁ B hml hv
  obtain ⟨rfl, hsz, hP, hK, hD0⟩ := hv
  have hx := B.exec
  have hb := B.bytes
  have hr := B.returns
  have hts := atoms_spec (ws := wsX1_areWithin) B.pre
  have hown : s.vm.findClass RX1 = some m.cls := findClass_of_methodNamed B.named
  subst hsz
  have hD := hD0.self (sz := s.heap.size)
  clear hD0
  generalize hAe : va_A ([] : va_W) s.heap.size = A at hD ⊢
  have hA : ∀ q : Nat, s.heap.size ≤ q → A q := fun q h => by rw [← hAe]; exact Or.inr h
  have hl := lv_entry ([.int a, .int b, .int d, .int y]) (n := 4) (Nat.le_of_ble_eq_true rfl)
  rw [lg_entry_eq]
  generalize (lg_sl ([.int a, .int b, .int d, .int y]) ++ List.replicate (4 - (lg_sl ([.int a, .int b, .int d, .int y])).length) Slot.unset).toArray = ls at hl ⊢
  have hl : lv_has ls 4 [(0, .int a), (1, .int b), (2, .int d), (3, .int y)] := hl
  have hP : va_P (dC, dI) vwCl ([] : va_W) s.heap := hP
  obtain ⟨H, hH⟩ : ∃ H, H = s.heap := ⟨_, rfl⟩
  have hS : va_S A s.heap H [] := by rw [hH]; exact va_S.rf
  rw [← hH] at hP ⊢
  refine lv_iload_n hx hb dX1_areWithin_0 rfl (lv_at hl 0 rfl) ?_
  refine lv_iload_n hx hb dX1_areWithin_1 rfl (lv_at hl 3 rfl) ?_
  have hFc : ∀ q, va_A ([] : va_W) H.size q → A q := fun q h => va_nilA hS hA q h
  refine va_calli (va_runS (As := [.int a, .int y]) (rest := []) ⟨hx, hb, hml, hown, hts⟩ (c_X1_isWithin l dC dI H.size a y) (va_cwS 2 hts gX1_areWithin_X1_isWithin rfl rfl rfl (by decide +kernel) ⟨Nat.le_of_ble_eq_true rfl, Nat.le_of_ble_eq_true rfl⟩) ⟨fun a U g mk q => by obtain ⟨q0, q1, qP, qK, qD⟩ := q; exact ⟨q0, q1, qP, va_K.moved (u := U) (U := U.calling g mk a) (Vm.Alike.refl U.vm) qK, qD⟩, fun U hU hW => ⟨rfl, by rw [hU], va_nilP, va_K.moved hW.alike (hK.sub (tys' := []) [] rfl), va_nilD⟩⟩ rfl rfl hl.1 rfl (lv_room (Nat.le_of_ble_eq_true rfl)) dX1_areWithin_2 ⟨(Nat.zero_le _), (Nat.zero_le _)⟩) hS (fun q _ h => hFc q h) hFc (fun r_2 v9 t H1 locs ht hvm hw hB hz1 hk1 hS => ?_)
  have hP := va_keep hP hk1
  clear hB hk1 hz1 ht hvm hFc
  generalize H1 = H at hP hS ⊢
  rcases hw with ⟨rfl, ha⟩ | ⟨rfl, ha⟩
  · refine lv_if_eq (tgt := 28) hx hb dX1_areWithin_5 (by decide) (fun c => absurd c (by decide)) (fun _ => ?_)
    refine lv_iload_n hx hb dX1_areWithin_8 rfl (lv_at hl 1 rfl) ?_
    refine lv_iload_n hx hb dX1_areWithin_9 rfl (lv_at hl 3 rfl) ?_
    have hFc : ∀ q, va_A ([] : va_W) H.size q → A q := fun q h => va_nilA hS hA q h
    refine va_calli (va_runS (As := [.int b, .int y]) (rest := []) ⟨hx, hb, hml, hown, hts⟩ (c_X1_isWithin l dC dI H.size b y) (va_cwS 2 hts gX1_areWithin_X1_isWithin rfl rfl rfl (by decide +kernel) ⟨Nat.le_of_ble_eq_true rfl, Nat.le_of_ble_eq_true rfl⟩) ⟨fun a U g mk q => by obtain ⟨q0, q1, qP, qK, qD⟩ := q; exact ⟨q0, q1, qP, va_K.moved (u := U) (U := U.calling g mk a) (Vm.Alike.refl U.vm) qK, qD⟩, fun U hU hW => ⟨rfl, by rw [hU], va_nilP, va_K.moved hW.alike (hK.sub (tys' := []) [] rfl), va_nilD⟩⟩ rfl rfl hl.1 rfl (lv_room (Nat.le_of_ble_eq_true rfl)) dX1_areWithin_10 ⟨(Nat.zero_le _), (Nat.zero_le _)⟩) hS (fun q _ h => hFc q h) hFc (fun r_10 v9 t H1 locs ht hvm hw hB hz1 hk1 hS => ?_)
    have hP := va_keep hP hk1
    clear hB hk1 hz1 ht hvm hFc
    generalize H1 = H at hP hS ⊢
    rcases hw with ⟨rfl, hq⟩ | ⟨rfl, hq⟩
    · refine lv_if_eq (tgt := 28) hx hb dX1_areWithin_13 (by decide) (fun c => absurd c (by decide)) (fun _ => ?_)
      refine lv_iload_n hx hb dX1_areWithin_16 rfl (lv_at hl 2 rfl) ?_
      refine lv_iload_n hx hb dX1_areWithin_17 rfl (lv_at hl 3 rfl) ?_
      have hFc : ∀ q, va_A ([] : va_W) H.size q → A q := fun q h => va_nilA hS hA q h
      refine va_calli (va_runS (As := [.int d, .int y]) (rest := []) ⟨hx, hb, hml, hown, hts⟩ (c_X1_isWithin l dC dI H.size d y) (va_cwS 2 hts gX1_areWithin_X1_isWithin rfl rfl rfl (by decide +kernel) ⟨Nat.le_of_ble_eq_true rfl, Nat.le_of_ble_eq_true rfl⟩) ⟨fun a U g mk q => by obtain ⟨q0, q1, qP, qK, qD⟩ := q; exact ⟨q0, q1, qP, va_K.moved (u := U) (U := U.calling g mk a) (Vm.Alike.refl U.vm) qK, qD⟩, fun U hU hW => ⟨rfl, by rw [hU], va_nilP, va_K.moved hW.alike (hK.sub (tys' := []) [] rfl), va_nilD⟩⟩ rfl rfl hl.1 rfl (lv_room (Nat.le_of_ble_eq_true rfl)) dX1_areWithin_18 ⟨(Nat.zero_le _), (Nat.zero_le _)⟩) hS (fun q _ h => hFc q h) hFc (fun r_18 v9 t H1 locs ht hvm hw hB hz1 hk1 hS => ?_)
      have hP := va_keep hP hk1
      clear hB hk1 hz1 ht hvm hFc
      generalize H1 = H at hP hS ⊢
      rcases hw with ⟨rfl, hd⟩ | ⟨rfl, hd⟩
      · refine lv_if_eq (tgt := 28) hx hb dX1_areWithin_21 (by decide) (fun c => absurd c (by decide)) (fun _ => ?_)
        refine lv_iconst (v := nI 1) hx hb dX1_areWithin_24 (by decide) ?_
        refine lv_goto (tgt := 29) hx hb dX1_areWithin_25 (by decide) ?_
        exact W.zret (v := (nI 1)) hx hb hr (by rfl) (fun t ht hW => ⟨⟨(nI 1), (), rfl, Or.inl ⟨rfl, ha, hq, hd⟩, by rw [ht]; exact hP, va_K.moved hW.alike hK, hD⟩, hS.F ht⟩) hS.2.2 dX1_areWithin_29
      · refine lv_if_eq (tgt := 28) hx hb dX1_areWithin_21 (by decide) (fun _ => ?_) (fun c => absurd rfl c)
        refine lv_iconst (v := nI 0) hx hb dX1_areWithin_28 (by decide) ?_
        exact W.zret (v := (nI 0)) hx hb hr (by rfl) (fun t ht hW => ⟨⟨(nI 0), (), rfl, Or.inr ⟨rfl, fun q => hd q.2.2⟩, by rw [ht]; exact hP, va_K.moved hW.alike hK, hD⟩, hS.F ht⟩) hS.2.2 dX1_areWithin_29
    · refine lv_if_eq (tgt := 28) hx hb dX1_areWithin_13 (by decide) (fun _ => ?_) (fun c => absurd rfl c)
      refine lv_iconst (v := nI 0) hx hb dX1_areWithin_28 (by decide) ?_
      exact W.zret (v := (nI 0)) hx hb hr (by rfl) (fun t ht hW => ⟨⟨(nI 0), (), rfl, Or.inr ⟨rfl, fun q => hq q.2.1⟩, by rw [ht]; exact hP, va_K.moved hW.alike hK, hD⟩, hS.F ht⟩) hS.2.2 dX1_areWithin_29
  · refine lv_if_eq (tgt := 28) hx hb dX1_areWithin_5 (by decide) (fun _ => ?_) (fun c => absurd rfl c)
    refine lv_iconst (v := nI 0) hx hb dX1_areWithin_28 (by decide) ?_
    exact W.zret (v := (nI 0)) hx hb hr (by rfl) (fun t ht hW => ⟨⟨(nI 0), (), rfl, Or.inr ⟨rfl, fun q => ha q.1⟩, by rw [ht]; exact hP, va_K.moved hW.alike hK, hD⟩, hS.F ht⟩) hS.2.2 dX1_areWithin_29
set_option maxHeartbeats 1000000 in
set_option maxRecDepth 100000 in
/-- fill(row, k, x1, x2, x3) -/
theorem c_X1_fill (l : Launch) (dC : Nat → ClassId) (dI : Nat → Nat → Nat) (sz : Nat) (cX : ClassId) (a n k : Nat) (f : Nat → Int32) (x1 x2 x3 : Int32) (hk : k + 2 < n) (hn : n < 1000) : Met l yX1_fill wsX1_fill ({ frames := 0, cells := 0, slots := 0, locals := 0 }) (va_Pc [.ref a, .int (nI k), .int x1, .int x2, .int x3] (fun U => U.heap.size = sz ∧ va_P (dC, dI) vwCl [(a, .inl (cX, n, .inl f))] U.heap ∧ va_K (dC, dI) vwCl [(cX, .int)] U ∧ va_D (fun _ => True) [(a, .inl (cX, n, .inl f))])) (va_Qv (fun v : Unit => True) (fun v t => va_P (dC, dI) vwCl [(a, .inl (cX, n, .inl (upd (upd (upd f k x1) (k + 1) x2) (k + 2) x3)))] t.heap ∧ va_K (dC, dI) vwCl [(cX, .int)] t ∧ va_D (va_A [(a, .inl (cX, n, .inl f))] sz) [(a, .inl (cX, n, .inl (upd (upd (upd f k x1) (k + 1) x2) (k + 2) x3)))]) (va_A [(a, .inl (cX, n, .inl f))] sz)) 0 0 (va_A [(a, .inl (cX, n, .inl f))] sz) := by
  refine Met.ofW (cc := cX1_fill) (maxL := 5) (ret := none) (by decide) rfl ?_
  intro p e s m args below meth c s₁ B hml hv
  obtain ⟨rfl, hsz, hP, hK, hD0⟩ := hv
  have hx := B.exec
  have hb := B.bytes
  have hr := B.returns
  have hts := atoms_spec (ws := wsX1_fill) B.pre
  have hown : s.vm.findClass RX1 = some m.cls := findClass_of_methodNamed B.named
  subst hsz
  have hD := hD0.self (sz := s.heap.size)
  clear hD0
  generalize hAe : va_A [(a, .inl (cX, n, .inl f))] s.heap.size = A at hD ⊢
  have hA : ∀ q : Nat, s.heap.size ≤ q → A q := fun q h => by rw [← hAe]; exact Or.inr h
  have hl := lv_entry ([.ref a, .int (nI k), .int x1, .int x2, .int x3]) (n := 5) (Nat.le_of_ble_eq_true rfl)
  rw [lg_entry_eq]
  generalize (lg_sl ([.ref a, .int (nI k), .int x1, .int x2, .int x3]) ++ List.replicate (5 - (lg_sl ([.ref a, .int (nI k), .int x1, .int x2, .int x3])).length) Slot.unset).toArray = ls at hl ⊢
  have hl : lv_has ls 5 [(0, .ref a), (1, .int (nI k)), (2, .int x1), (3, .int x2), (4, .int x3)] := hl
  have hP : va_P (dC, dI) vwCl [(a, .inl (cX, n, .inl f))] s.heap := hP
  obtain ⟨H, hH⟩ : ∃ H, H = s.heap := ⟨_, rfl⟩
  have hS : va_S A s.heap H [] := by rw [hH]; exact va_S.rf
  rw [← hH] at hP ⊢
  refine lv_aload_n hx hb dX1_fill_0 rfl (lv_at hl 0 rfl) ?_
  refine lv_iload_n hx hb dX1_fill_1 rfl (lv_at hl 1 rfl) ?_
  refine lv_iload_n hx hb dX1_fill_2 rfl (lv_at hl 2 rfl) ?_
  refine na_iast hx hb hK hP hD hS 0 0 rfl rfl (show k < n by omega) (by omega) dX1_fill_3 (fun H locs hP hD hS => ?_)
  have hP : va_P (dC, dI) vwCl [(a, .inl (cX, n, .inl (upd f k x1)))] H := hP
  have hD : va_D A [(a, .inl (cX, n, .inl (upd f k x1)))] := hD
  refine lv_aload_n hx hb dX1_fill_4 rfl (lv_at hl 0 rfl) ?_
  refine lv_iload_n hx hb dX1_fill_5 rfl (lv_at hl 1 rfl) ?_
  refine lv_iconst (v := nI 1) hx hb dX1_fill_6 (by decide) ?_
  refine lv_iadd hx hb dX1_fill_7 ?_
  refine lv_topi (fun z_1 ez_1 => ?_)
  obtain rfl : z_1 = nI (k + 1) := ez_1.trans (nI_add k 1)
  refine lv_iload_n hx hb dX1_fill_8 rfl (lv_at hl 3 rfl) ?_
  refine na_iast hx hb hK hP hD hS 0 0 rfl rfl (show k + 1 < n by omega) (by omega) dX1_fill_9 (fun H locs hP hD hS => ?_)
  have hP : va_P (dC, dI) vwCl [(a, .inl (cX, n, .inl (upd (upd f k x1) (k + 1) x2)))] H := hP
  have hD : va_D A [(a, .inl (cX, n, .inl (upd (upd f k x1) (k + 1) x2)))] := hD
  refine lv_aload_n hx hb dX1_fill_10 rfl (lv_at hl 0 rfl) ?_
  refine lv_iload_n hx hb dX1_fill_11 rfl (lv_at hl 1 rfl) ?_
  refine lv_iconst (v := nI 2) hx hb dX1_fill_12 (by decide) ?_
  refine lv_iadd hx hb dX1_fill_13 ?_
  refine lv_topi (fun z_2 ez_2 => ?_)
  obtain rfl : z_2 = nI (k + 2) := ez_2.trans (nI_add k 2)
  refine lv_iload hx hb dX1_fill_14 (lv_at hl 4 rfl) ?_
  refine na_iast hx hb hK hP hD hS 0 0 rfl rfl (show k + 2 < n by omega) (by omega) dX1_fill_16 (fun H locs hP hD hS => ?_)
  have hP : va_P (dC, dI) vwCl [(a, .inl (cX, n, .inl (upd (upd (upd f k x1) (k + 1) x2) (k + 2) x3)))] H := hP
  have hD : va_D A [(a, .inl (cX, n, .inl (upd (upd (upd f k x1) (k + 1) x2) (k + 2) x3)))] := hD
  exact W.vret hx hb hr (fun t ht hW => ⟨⟨(), rfl, trivial, by rw [ht]; exact hP, va_K.moved hW.alike hK, hD⟩, hS.F ht⟩) hS.2.2 dX1_fill_17
set_option maxHeartbeats 1000000 in
set_option maxRecDepth 100000 in
/-- isRule(k) -/
theorem c_X1_isRule (l : Launch) (dC : Nat → ClassId) (dI : Nat → Nat → Nat) (sz : Nat) (p0 qt qg h0 : Nat) (rt : Nat → Nat) (cB cI : ClassId) (tz : List (ClassId × FieldType)) (Y : va_W) (vn ct : Nat) (ft fb : Int64) (gl : Nat → Int32) (T : Nat → Nat → Int32) (k : Int32) (hc : ct ≤ 8) : Met l yX1_isRule wsX1_isRule ({ frames := 0, cells := 0, slots := 0, locals := 0 }) (va_Pc [.ref p0, .int k] (fun U => U.heap.size = sz ∧ va_P (dC, dI) vwCl (rfX p0 qt qg h0 rt cB cI vn ct ft fb gl T ++ Y) U.heap ∧ va_K (dC, dI) vwCl ((cB, .array .int) :: (cI, .int) :: tz) U ∧ va_D (fun _ => True) (rfX p0 qt qg h0 rt cB cI vn ct ft fb gl T ++ Y))) (va_Qi (fun (x : Int32) (v : Unit) => (x = 1 ∧ ∃ j, j < ct ∧ k = nI j) ∨ (x = 0 ∧ ∀ j, j < ct → k ≠ nI j)) (fun v t => va_P (dC, dI) vwCl (rfX p0 qt qg h0 rt cB cI vn ct ft fb gl T ++ Y) t.heap ∧ va_K (dC, dI) vwCl ((cB, .array .int) :: (cI, .int) :: tz) t ∧ va_D (va_A (rfX p0 qt qg h0 rt cB cI vn ct ft fb gl T ++ Y) sz) (rfX p0 qt qg h0 rt cB cI vn ct ft fb gl T ++ Y)) (va_A (rfX p0 qt qg h0 rt cB cI vn ct ft fb gl T ++ Y) sz)) 0 0 (va_A (rfX p0 qt qg h0 rt cB cI vn ct ft fb gl T ++ Y) sz) := by
  refine Met.ofW (cc := cX1_isRule) (maxL := 2) (ret := (some .boolean)) (by decide) rfl ?_
  intro p e s m args below meth c s₁ B hml hv
  obtain ⟨rfl, hsz, hP, hK, hD0⟩ := hv
  have hx := B.exec
  have hb := B.bytes
  have hr := B.returns
  have hts := atoms_spec (ws := wsX1_isRule) B.pre
  have hown : s.vm.findClass RX1 = some m.cls := findClass_of_methodNamed B.named
  subst hsz
  have hD := hD0.self (sz := s.heap.size)
  clear hD0
  generalize hAe : va_A (rfX p0 qt qg h0 rt cB cI vn ct ft fb gl T ++ Y) s.heap.size = A at hD ⊢
  have hA : ∀ q : Nat, s.heap.size ≤ q → A q := fun q h => by rw [← hAe]; exact Or.inr h
  have hl := lv_entry ([.ref p0, .int k]) (n := 2) (Nat.le_of_ble_eq_true rfl)
  rw [lg_entry_eq]
  generalize (lg_sl ([.ref p0, .int k]) ++ List.replicate (2 - (lg_sl ([.ref p0, .int k])).length) Slot.unset).toArray = ls at hl ⊢
  have hl : lv_has ls 2 [(0, .ref p0), (1, .int k)] := hl
  have hP : va_P (dC, dI) vwCl (rfX p0 qt qg h0 rt cB cI vn ct ft fb gl T ++ Y) s.heap := hP
  obtain ⟨H, hH⟩ : ∃ H, H = s.heap := ⟨_, rfl⟩
  have hS : va_S A s.heap H [] := by rw [hH]; exact va_S.rf
  rw [← hH] at hP ⊢
  refine lv_iload_n hx hb dX1_isRule_0 rfl (lv_at hl 1 rfl) ?_
  refine lv_if_lt (tgt := 16) hx hb dX1_isRule_1 (by decide) (fun c1 => ?_) (fun c1 => ?_)
  · refine lv_iconst (v := nI 0) hx hb dX1_isRule_16 (by decide) ?_
    exact W.zret (v := (nI 0)) hx hb hr (by rfl) (fun t ht hW => ⟨⟨(nI 0), (), rfl, Or.inr ⟨rfl, fun j hj q => by rw [q] at c1; exact nI_pos (by omega) c1⟩, by rw [ht]; exact hP, va_K.moved hW.alike hK, hD⟩, hS.F ht⟩) hS.2.2 dX1_isRule_17
  · refine lv_iload_n hx hb dX1_isRule_4 rfl (lv_at hl 1 rfl) ?_
    refine lv_aload_n hx hb dX1_isRule_5 rfl (lv_at hl 0 rfl) ?_
    refine va_get (D := (dC, dI)) (ci := 1) (v := .int (nI ct)) (C := RX1) (T := TX1) (N := 7) hx hb hts (fun _ h => List.mem_cons_of_mem _ (List.mem_append_right _ h)) hown hK hP 0 rfl rfl 4 (by decide) (hts (.fieldLink RX1 29 "RankFinder" "count" "I") (List.mem_of_getElem? (i := 1) rfl)) (fun _ h9 => h9) rfl dX1_isRule_6 ?_
    refine lv_icmp_ge (tgt := 16) hx hb dX1_isRule_9 (by decide) (fun c2 => ?_) (fun c2 => ?_)
    · refine lv_iconst (v := nI 0) hx hb dX1_isRule_16 (by decide) ?_
      exact W.zret (v := (nI 0)) hx hb hr (by rfl) (fun t ht hW => ⟨⟨(nI 0), (), rfl, Or.inr ⟨rfl, fun j hj q => by rw [q] at c2; exact nI_ge hj (by omega) c2⟩, by rw [ht]; exact hP, va_K.moved hW.alike hK, hD⟩, hS.F ht⟩) hS.2.2 dX1_isRule_17
    · refine lv_iconst (v := nI 1) hx hb dX1_isRule_12 (by decide) ?_
      refine lv_goto (tgt := 17) hx hb dX1_isRule_13 (by decide) ?_
      obtain ⟨j, hj, rfl, -⟩ := pk_mu c1 c2 (by omega)
      exact W.zret (v := (nI 1)) hx hb hr (by rfl) (fun t ht hW => ⟨⟨(nI 1), (), rfl, Or.inl ⟨rfl, j, hj, rfl⟩, by rw [ht]; exact hP, va_K.moved hW.alike hK, hD⟩, hS.F ht⟩) hS.2.2 dX1_isRule_17
set_option maxHeartbeats 1000000 in
set_option maxRecDepth 100000 in
/-- begin(k) -/
theorem c_X1_begin (l : Launch) (dC : Nat → ClassId) (dI : Nat → Nat → Nat) (sz : Nat) (p0 qt qg h0 : Nat) (rt : Nat → Nat) (cB cI : ClassId) (tz : List (ClassId × FieldType)) (Y : va_W) (vn ct : Nat) (ft fb : Int64) (gl : Nat → Int32) (T : Nat → Nat → Int32) (k : Int32) : Met l yX1_begin wsX1_begin ({ frames := 0, cells := 0, slots := 0, locals := 0 }) (va_Pc [.ref p0, .int k] (fun U => U.heap.size = sz ∧ va_P (dC, dI) vwCl (rfX p0 qt qg h0 rt cB cI vn ct ft fb gl T ++ Y) U.heap ∧ va_K (dC, dI) vwCl ((cB, .array .int) :: (cI, .int) :: tz) U ∧ va_D (fun _ => True) (rfX p0 qt qg h0 rt cB cI vn ct ft fb gl T ++ Y))) (va_Qi (fun (x : Int32) (v : Nat × Nat) => (∃ j, 1 ≤ j ∧ j ≤ 3 ∧ k = nI j ∧ x = 1 ∧ v = (j, 0)) ∨ (x = 0 ∧ (∀ j, 1 ≤ j → j ≤ 3 → k ≠ nI j) ∧ v = (vn, ct))) (fun v t => va_P (dC, dI) vwCl (rfX p0 qt qg h0 rt cB cI v.1 v.2 ft fb gl T ++ Y) t.heap ∧ va_K (dC, dI) vwCl ((cB, .array .int) :: (cI, .int) :: tz) t ∧ va_D (va_A (rfX p0 qt qg h0 rt cB cI vn ct ft fb gl T ++ Y) sz) (rfX p0 qt qg h0 rt cB cI v.1 v.2 ft fb gl T ++ Y)) (va_A (rfX p0 qt qg h0 rt cB cI vn ct ft fb gl T ++ Y) sz)) 0 0 (va_A (rfX p0 qt qg h0 rt cB cI vn ct ft fb gl T ++ Y) sz) := by
  refine Met.ofW (cc := cX1_begin) (maxL := 2) (ret := (some .boolean)) (by decide) rfl ?_
  intro p e s m args below meth c s₁ B hml hv
  obtain ⟨rfl, hsz, hP, hK, hD0⟩ := hv
  have hx := B.exec
  have hb := B.bytes
  have hr := B.returns
  have hts := atoms_spec (ws := wsX1_begin) B.pre
  have hown : s.vm.findClass RX1 = some m.cls := findClass_of_methodNamed B.named
  subst hsz
  have hD := hD0.self (sz := s.heap.size)
  clear hD0
  generalize hAe : va_A (rfX p0 qt qg h0 rt cB cI vn ct ft fb gl T ++ Y) s.heap.size = A at hD ⊢
  have hA : ∀ q : Nat, s.heap.size ≤ q → A q := fun q h => by rw [← hAe]; exact Or.inr h
  have hl := lv_entry ([.ref p0, .int k]) (n := 2) (Nat.le_of_ble_eq_true rfl)
  rw [lg_entry_eq]
  generalize (lg_sl ([.ref p0, .int k]) ++ List.replicate (2 - (lg_sl ([.ref p0, .int k])).length) Slot.unset).toArray = ls at hl ⊢
  have hl : lv_has ls 2 [(0, .ref p0), (1, .int k)] := hl
  have hP : va_P (dC, dI) vwCl (rfX p0 qt qg h0 rt cB cI vn ct ft fb gl T ++ Y) s.heap := hP
  obtain ⟨H, hH⟩ : ∃ H, H = s.heap := ⟨_, rfl⟩
  have hS : va_S A s.heap H [] := by rw [hH]; exact va_S.rf
  rw [← hH] at hP ⊢
  refine lv_iload_n hx hb dX1_begin_0 rfl (lv_at hl 1 rfl) ?_
  refine lv_iconst (v := nI 1) hx hb dX1_begin_1 (by decide) ?_
  refine lv_icmp_lt (tgt := 10) hx hb dX1_begin_2 (by decide) (fun c1 => ?_) (fun c1 => ?_)
  · refine lv_iconst (v := nI 0) hx hb dX1_begin_10 (by decide) ?_
    exact W.zret (v := (nI 0)) hx hb hr (by rfl) (fun t ht hW => ⟨⟨(nI 0), (vn, ct), rfl, Or.inr ⟨rfl, fun j h1 h2 q => by rw [q] at c1; exact nI_nlt h1 (by omega) c1, rfl⟩, by rw [ht]; exact hP, va_K.moved hW.alike hK, hD⟩, hS.F ht⟩) hS.2.2 dX1_begin_11
  · refine lv_iload_n hx hb dX1_begin_5 rfl (lv_at hl 1 rfl) ?_
    refine lv_iconst (v := nI 3) hx hb dX1_begin_6 (by decide) ?_
    refine lv_icmp_le (tgt := 12) hx hb dX1_begin_7 (by decide) (fun c2 => ?_) (fun c2 => ?_)
    · obtain ⟨j, hj, rfl⟩ := nI_of2 (M := nI 3) (n := 3) rfl (fun q => c1 (by rw [Int32.lt_iff_toInt_lt] at *; have e1 : (nI 1).toInt = 1 := rfl; have e0 : (0 : Int32).toInt = 0 := rfl; omega)) c2
      have hj1 : 1 ≤ j := by
        apply Classical.byContradiction
        intro q
        exact c1 (nI_lt (by omega) (by omega))
      refine lv_aload_n hx hb dX1_begin_12 rfl (lv_at hl 0 rfl) ?_
      refine lv_iload_n hx hb dX1_begin_13 rfl (lv_at hl 1 rfl) ?_
      refine va_put (D := (dC, dI)) (ci := 1) (v := .int (nI j)) (ty := .int) (C := RX1) (T := TX1) (N := 7) hx hb hts (fun _ h => List.mem_cons_of_mem _ (List.mem_append_right _ h)) tyX1 tyX1_ok nmX1 hown hK hP hD hS 0 rfl rfl 3 (by decide) (hts (.fieldLink RX1 25 "RankFinder" "variables" "I") (List.mem_of_getElem? (i := 1) rfl)) (fun _ h9 => h9) rfl (by decide +kernel) rfl rfl (Nat.le_of_ble_eq_true rfl) dX1_begin_14 (fun H locs hP hD hS => ?_)
      have hP : va_P (dC, dI) vwCl (rfX p0 qt qg h0 rt cB cI j ct ft fb gl T ++ Y) H := hP
      have hD : va_D A (rfX p0 qt qg h0 rt cB cI j ct ft fb gl T ++ Y) := hD
      refine lv_aload_n hx hb dX1_begin_17 rfl (lv_at hl 0 rfl) ?_
      refine lv_iconst (v := nI 0) hx hb dX1_begin_18 (by decide) ?_
      refine va_put (D := (dC, dI)) (ci := 1) (v := .int (nI 0)) (ty := .int) (C := RX1) (T := TX1) (N := 7) hx hb hts (fun _ h => List.mem_cons_of_mem _ (List.mem_append_right _ h)) tyX1 tyX1_ok nmX1 hown hK hP hD hS 0 rfl rfl 4 (by decide) (hts (.fieldLink RX1 29 "RankFinder" "count" "I") (List.mem_of_getElem? (i := 2) rfl)) (fun _ h9 => h9) rfl (by decide +kernel) rfl rfl (Nat.le_of_ble_eq_true rfl) dX1_begin_19 (fun H locs hP hD hS => ?_)
      have hP : va_P (dC, dI) vwCl (rfX p0 qt qg h0 rt cB cI j 0 ft fb gl T ++ Y) H := hP
      have hD : va_D A (rfX p0 qt qg h0 rt cB cI j 0 ft fb gl T ++ Y) := hD
      refine lv_iconst (v := nI 1) hx hb dX1_begin_22 (by decide) ?_
      exact W.zret (v := (nI 1)) hx hb hr (by rfl) (fun t ht hW => ⟨⟨(nI 1), (j, 0), rfl, Or.inl ⟨j, hj1, hj, rfl, rfl, rfl⟩, by rw [ht]; exact hP, va_K.moved hW.alike hK, hD⟩, hS.F ht⟩) hS.2.2 dX1_begin_23
    · refine lv_iconst (v := nI 0) hx hb dX1_begin_10 (by decide) ?_
      exact W.zret (v := (nI 0)) hx hb hr (by rfl) (fun t ht hW => ⟨⟨(nI 0), (vn, ct), rfl, Or.inr ⟨rfl, fun j h1 h2 q => by rw [q] at c2; exact c2 (nI_le h2 (by omega)), rfl⟩, by rw [ht]; exact hP, va_K.moved hW.alike hK, hD⟩, hS.F ht⟩) hS.2.2 dX1_begin_11
set_option maxHeartbeats 1000000 in
set_option maxRecDepth 100000 in
/-- rules() -/
theorem c_X1_rules (l : Launch) (dC : Nat → ClassId) (dI : Nat → Nat → Nat) (sz : Nat) (p0 qt qg h0 : Nat) (rt : Nat → Nat) (cB cI : ClassId) (tz : List (ClassId × FieldType)) (Y : va_W) (vn ct : Nat) (ft fb : Int64) (gl : Nat → Int32) (T : Nat → Nat → Int32) : Met l yX1_rules wsX1_rules ({ frames := 0, cells := 0, slots := 0, locals := 0 }) (va_Pc [.ref p0] (fun U => U.heap.size = sz ∧ va_P (dC, dI) vwCl (rfX p0 qt qg h0 rt cB cI vn ct ft fb gl T ++ Y) U.heap ∧ va_K (dC, dI) vwCl ((cB, .array .int) :: (cI, .int) :: tz) U ∧ va_D (fun _ => True) (rfX p0 qt qg h0 rt cB cI vn ct ft fb gl T ++ Y))) (va_Qi (fun (x : Int32) (v : Unit) => x = nI ct) (fun v t => va_P (dC, dI) vwCl (rfX p0 qt qg h0 rt cB cI vn ct ft fb gl T ++ Y) t.heap ∧ va_K (dC, dI) vwCl ((cB, .array .int) :: (cI, .int) :: tz) t ∧ va_D (va_A (rfX p0 qt qg h0 rt cB cI vn ct ft fb gl T ++ Y) sz) (rfX p0 qt qg h0 rt cB cI vn ct ft fb gl T ++ Y)) (va_A (rfX p0 qt qg h0 rt cB cI vn ct ft fb gl T ++ Y) sz)) 0 0 (va_A (rfX p0 qt qg h0 rt cB cI vn ct ft fb gl T ++ Y) sz) := by
  refine Met.ofW (cc := cX1_rules) (maxL := 1) (ret := (some .int)) (by decide) rfl ?_
  intro p e s m args below meth c s₁ B hml hv
  obtain ⟨rfl, hsz, hP, hK, hD0⟩ := hv
  have hx := B.exec
  have hb := B.bytes
  have hr := B.returns
  have hts := atoms_spec (ws := wsX1_rules) B.pre
  have hown : s.vm.findClass RX1 = some m.cls := findClass_of_methodNamed B.named
  subst hsz
  have hD := hD0.self (sz := s.heap.size)
  clear hD0
  generalize hAe : va_A (rfX p0 qt qg h0 rt cB cI vn ct ft fb gl T ++ Y) s.heap.size = A at hD ⊢
  have hA : ∀ q : Nat, s.heap.size ≤ q → A q := fun q h => by rw [← hAe]; exact Or.inr h
  have hl := lv_entry ([.ref p0]) (n := 1) (Nat.le_of_ble_eq_true rfl)
  rw [lg_entry_eq]
  generalize (lg_sl ([.ref p0]) ++ List.replicate (1 - (lg_sl ([.ref p0])).length) Slot.unset).toArray = ls at hl ⊢
  have hl : lv_has ls 1 [(0, .ref p0)] := hl
  have hP : va_P (dC, dI) vwCl (rfX p0 qt qg h0 rt cB cI vn ct ft fb gl T ++ Y) s.heap := hP
  obtain ⟨H, hH⟩ : ∃ H, H = s.heap := ⟨_, rfl⟩
  have hS : va_S A s.heap H [] := by rw [hH]; exact va_S.rf
  rw [← hH] at hP ⊢
  refine lv_aload_n hx hb dX1_rules_0 rfl (lv_at hl 0 rfl) ?_
  refine va_get (D := (dC, dI)) (ci := 1) (v := .int (nI ct)) (C := RX1) (T := TX1) (N := 7) hx hb hts (fun _ h => List.mem_cons_of_mem _ (List.mem_append_right _ h)) hown hK hP 0 rfl rfl 4 (by decide) (hts (.fieldLink RX1 29 "RankFinder" "count" "I") (List.mem_of_getElem? (i := 1) rfl)) (fun _ h9 => h9) rfl dX1_rules_1 ?_
  exact W.iret (v := (nI ct)) hx hb hr (fun t ht hW => ⟨⟨(nI ct), (), rfl, rfl, by rw [ht]; exact hP, va_K.moved hW.alike hK, hD⟩, hS.F ht⟩) hS.2.2 dX1_rules_4
set_option maxHeartbeats 1000000 in
set_option maxRecDepth 100000 in
/-- top() -/
theorem c_X1_top (l : Launch) (dC : Nat → ClassId) (dI : Nat → Nat → Nat) (sz : Nat) (p0 qt qg h0 : Nat) (rt : Nat → Nat) (cB cI : ClassId) (tz : List (ClassId × FieldType)) (Y : va_W) (vn ct : Nat) (ft fb : Int64) (gl : Nat → Int32) (T : Nat → Nat → Int32) : Met l yX1_top wsX1_top ({ frames := 0, cells := 0, slots := 0, locals := 0 }) (va_Pc [.ref p0] (fun U => U.heap.size = sz ∧ va_P (dC, dI) vwCl (rfX p0 qt qg h0 rt cB cI vn ct ft fb gl T ++ Y) U.heap ∧ va_K (dC, dI) vwCl ((cB, .array .int) :: (cI, .int) :: tz) U ∧ va_D (fun _ => True) (rfX p0 qt qg h0 rt cB cI vn ct ft fb gl T ++ Y))) (va_Ql (fun (x : Int64) (v : Unit) => x = ft) (fun v t => va_P (dC, dI) vwCl (rfX p0 qt qg h0 rt cB cI vn ct ft fb gl T ++ Y) t.heap ∧ va_K (dC, dI) vwCl ((cB, .array .int) :: (cI, .int) :: tz) t ∧ va_D (va_A (rfX p0 qt qg h0 rt cB cI vn ct ft fb gl T ++ Y) sz) (rfX p0 qt qg h0 rt cB cI vn ct ft fb gl T ++ Y)) (va_A (rfX p0 qt qg h0 rt cB cI vn ct ft fb gl T ++ Y) sz)) 0 0 (va_A (rfX p0 qt qg h0 rt cB cI vn ct ft fb gl T ++ Y) sz) := by
  refine Met.ofW (cc := cX1_top) (maxL := 1) (ret := (some .long)) (by decide) rfl ?_
  intro p e s m args below meth c s₁ B hml hv
  obtain ⟨rfl, hsz, hP, hK, hD0⟩ := hv
  have hx := B.exec
  have hb := B.bytes
  have hr := B.returns
  have hts := atoms_spec (ws := wsX1_top) B.pre
  have hown : s.vm.findClass RX1 = some m.cls := findClass_of_methodNamed B.named
  subst hsz
  have hD := hD0.self (sz := s.heap.size)
  clear hD0
  generalize hAe : va_A (rfX p0 qt qg h0 rt cB cI vn ct ft fb gl T ++ Y) s.heap.size = A at hD ⊢
  have hA : ∀ q : Nat, s.heap.size ≤ q → A q := fun q h => by rw [← hAe]; exact Or.inr h
  have hl := lv_entry ([.ref p0]) (n := 1) (Nat.le_of_ble_eq_true rfl)
  rw [lg_entry_eq]
  generalize (lg_sl ([.ref p0]) ++ List.replicate (1 - (lg_sl ([.ref p0])).length) Slot.unset).toArray = ls at hl ⊢
  have hl : lv_has ls 1 [(0, .ref p0)] := hl
  have hP : va_P (dC, dI) vwCl (rfX p0 qt qg h0 rt cB cI vn ct ft fb gl T ++ Y) s.heap := hP
  obtain ⟨H, hH⟩ : ∃ H, H = s.heap := ⟨_, rfl⟩
  have hS : va_S A s.heap H [] := by rw [hH]; exact va_S.rf
  rw [← hH] at hP ⊢
  refine lv_aload_n hx hb dX1_top_0 rfl (lv_at hl 0 rfl) ?_
  refine va_get (D := (dC, dI)) (ci := 1) (v := .long ft) (C := RX1) (T := TX1) (N := 7) hx hb hts (fun _ h => List.mem_cons_of_mem _ (List.mem_append_right _ h)) hown hK hP 0 rfl rfl 5 (by decide) (hts (.fieldLink RX1 32 "RankFinder" "foundTop" "J") (List.mem_of_getElem? (i := 1) rfl)) (fun _ h9 => h9) rfl dX1_top_1 ?_
  exact W.lret (v := ft) hx hb hr (fun t ht hW => ⟨⟨ft, (), rfl, rfl, by rw [ht]; exact hP, va_K.moved hW.alike hK, hD⟩, hS.F ht⟩) hS.2.2 dX1_top_4
set_option maxHeartbeats 1000000 in
set_option maxRecDepth 100000 in
/-- bottom() -/
theorem c_X1_bottom (l : Launch) (dC : Nat → ClassId) (dI : Nat → Nat → Nat) (sz : Nat) (p0 qt qg h0 : Nat) (rt : Nat → Nat) (cB cI : ClassId) (tz : List (ClassId × FieldType)) (Y : va_W) (vn ct : Nat) (ft fb : Int64) (gl : Nat → Int32) (T : Nat → Nat → Int32) : Met l yX1_bottom wsX1_bottom ({ frames := 0, cells := 0, slots := 0, locals := 0 }) (va_Pc [.ref p0] (fun U => U.heap.size = sz ∧ va_P (dC, dI) vwCl (rfX p0 qt qg h0 rt cB cI vn ct ft fb gl T ++ Y) U.heap ∧ va_K (dC, dI) vwCl ((cB, .array .int) :: (cI, .int) :: tz) U ∧ va_D (fun _ => True) (rfX p0 qt qg h0 rt cB cI vn ct ft fb gl T ++ Y))) (va_Ql (fun (x : Int64) (v : Unit) => x = fb) (fun v t => va_P (dC, dI) vwCl (rfX p0 qt qg h0 rt cB cI vn ct ft fb gl T ++ Y) t.heap ∧ va_K (dC, dI) vwCl ((cB, .array .int) :: (cI, .int) :: tz) t ∧ va_D (va_A (rfX p0 qt qg h0 rt cB cI vn ct ft fb gl T ++ Y) sz) (rfX p0 qt qg h0 rt cB cI vn ct ft fb gl T ++ Y)) (va_A (rfX p0 qt qg h0 rt cB cI vn ct ft fb gl T ++ Y) sz)) 0 0 (va_A (rfX p0 qt qg h0 rt cB cI vn ct ft fb gl T ++ Y) sz) := by
  refine Met.ofW (cc := cX1_bottom) (maxL := 1) (ret := (some .long)) (by decide) rfl ?_
  intro p e s m args below meth c s₁ B hml hv
  obtain ⟨rfl, hsz, hP, hK, hD0⟩ := hv
  have hx := B.exec
  have hb := B.bytes
  have hr := B.returns
  have hts := atoms_spec (ws := wsX1_bottom) B.pre
  have hown : s.vm.findClass RX1 = some m.cls := findClass_of_methodNamed B.named
  subst hsz
  have hD := hD0.self (sz := s.heap.size)
  clear hD0
  generalize hAe : va_A (rfX p0 qt qg h0 rt cB cI vn ct ft fb gl T ++ Y) s.heap.size = A at hD ⊢
  have hA : ∀ q : Nat, s.heap.size ≤ q → A q := fun q h => by rw [← hAe]; exact Or.inr h
  have hl := lv_entry ([.ref p0]) (n := 1) (Nat.le_of_ble_eq_true rfl)
  rw [lg_entry_eq]
  generalize (lg_sl ([.ref p0]) ++ List.replicate (1 - (lg_sl ([.ref p0])).length) Slot.unset).toArray = ls at hl ⊢
  have hl : lv_has ls 1 [(0, .ref p0)] := hl
  have hP : va_P (dC, dI) vwCl (rfX p0 qt qg h0 rt cB cI vn ct ft fb gl T ++ Y) s.heap := hP
  obtain ⟨H, hH⟩ : ∃ H, H = s.heap := ⟨_, rfl⟩
  have hS : va_S A s.heap H [] := by rw [hH]; exact va_S.rf
  rw [← hH] at hP ⊢
  refine lv_aload_n hx hb dX1_bottom_0 rfl (lv_at hl 0 rfl) ?_
  refine va_get (D := (dC, dI)) (ci := 1) (v := .long fb) (C := RX1) (T := TX1) (N := 7) hx hb hts (fun _ h => List.mem_cons_of_mem _ (List.mem_append_right _ h)) hown hK hP 0 rfl rfl 6 (by decide) (hts (.fieldLink RX1 36 "RankFinder" "foundBottom" "J") (List.mem_of_getElem? (i := 1) rfl)) (fun _ h9 => h9) rfl dX1_bottom_1 ?_
  exact W.lret (v := fb) hx hb hr (fun t ht hW => ⟨⟨fb, (), rfl, rfl, by rw [ht]; exact hP, va_K.moved hW.alike hK, hD⟩, hS.F ht⟩) hS.2.2 dX1_bottom_4
set_option maxHeartbeats 1000000 in
set_option maxRecDepth 100000 in
/-- number(k, i) -/
theorem c_X1_number (l : Launch) (dC : Nat → ClassId) (dI : Nat → Nat → Nat) (sz : Nat) (p0 qt qg h0 : Nat) (rt : Nat → Nat) (cB cI : ClassId) (tz : List (ClassId × FieldType)) (Y : va_W) (vn ct : Nat) (ft fb : Int64) (gl : Nat → Int32) (T : Nat → Nat → Int32) (k i : Int32) (hc : ct ≤ 8) : Met l yX1_number wsX1_number ({ frames := 1, cells := 0, slots := 0, locals := 21 }) (va_Pc [.ref p0, .int k, .int i] (fun U => U.heap.size = sz ∧ va_P (dC, dI) vwCl (rfX p0 qt qg h0 rt cB cI vn ct ft fb gl T ++ Y) U.heap ∧ va_K (dC, dI) vwCl ((cB, .array .int) :: (cI, .int) :: tz) U ∧ va_D (fun _ => True) (rfX p0 qt qg h0 rt cB cI vn ct ft fb gl T ++ Y))) (va_Qi (fun (x : Int32) (v : Unit) => (∃ a b, a < ct ∧ b < 7 ∧ k = nI a ∧ i = nI b ∧ x = T a b) ∨ (x = 0 ∧ ¬ ∃ a b, a < ct ∧ b < 7 ∧ k = nI a ∧ i = nI b)) (fun v t => va_P (dC, dI) vwCl (rfX p0 qt qg h0 rt cB cI vn ct ft fb gl T ++ Y) t.heap ∧ va_K (dC, dI) vwCl ((cB, .array .int) :: (cI, .int) :: tz) t ∧ va_D (va_A (rfX p0 qt qg h0 rt cB cI vn ct ft fb gl T ++ Y) sz) (rfX p0 qt qg h0 rt cB cI vn ct ft fb gl T ++ Y)) (va_A (rfX p0 qt qg h0 rt cB cI vn ct ft fb gl T ++ Y) sz)) 0 0 (va_A (rfX p0 qt qg h0 rt cB cI vn ct ft fb gl T ++ Y) sz) := by
  refine Met.ofW (cc := cX1_number) (maxL := 3) (ret := (some .int)) (by decide) rfl ?_
  intro p e s m args below meth c s₁ B hml hv
  obtain ⟨rfl, hsz, hP, hK, hD0⟩ := hv
  have hx := B.exec
  have hb := B.bytes
  have hr := B.returns
  have hts := atoms_spec (ws := wsX1_number) B.pre
  have hown : s.vm.findClass RX1 = some m.cls := findClass_of_methodNamed B.named
  subst hsz
  have hD := hD0.self (sz := s.heap.size)
  clear hD0
  generalize hAe : va_A (rfX p0 qt qg h0 rt cB cI vn ct ft fb gl T ++ Y) s.heap.size = A at hD ⊢
  have hA : ∀ q : Nat, s.heap.size ≤ q → A q := fun q h => by rw [← hAe]; exact Or.inr h
  have hl := lv_entry ([.ref p0, .int k, .int i]) (n := 3) (Nat.le_of_ble_eq_true rfl)
  rw [lg_entry_eq]
  generalize (lg_sl ([.ref p0, .int k, .int i]) ++ List.replicate (3 - (lg_sl ([.ref p0, .int k, .int i])).length) Slot.unset).toArray = ls at hl ⊢
  have hl : lv_has ls 3 [(0, .ref p0), (1, .int k), (2, .int i)] := hl
  have hP : va_P (dC, dI) vwCl (rfX p0 qt qg h0 rt cB cI vn ct ft fb gl T ++ Y) s.heap := hP
  obtain ⟨H, hH⟩ : ∃ H, H = s.heap := ⟨_, rfl⟩
  have hS : va_S A s.heap H [] := by rw [hH]; exact va_S.rf
  rw [← hH] at hP ⊢
  refine lv_aload_n hx hb dX1_number_0 rfl (lv_at hl 0 rfl) ?_
  refine lv_iload_n hx hb dX1_number_1 rfl (lv_at hl 1 rfl) ?_
  have hFc : ∀ q, va_A (rfX p0 qt qg h0 rt cB cI vn ct ft fb gl T ++ Y) H.size q → A q := va_fall hD hS hA
  refine va_calli (va_runV (As := [.int k]) (rest := []) ⟨hx, hb, hml, hown, hts⟩ (c_X1_isRule l dC dI H.size p0 qt qg h0 rt cB cI tz Y vn ct ft fb gl T k hc) (cwV 1 hts gX1_number_X1_isRule rfl rfl rfl (by decide +kernel) ⟨Nat.le_of_ble_eq_true rfl, Nat.le_of_ble_eq_true rfl⟩) ⟨fun a U g mk q => by obtain ⟨q0, q1, qP, qK, qD⟩ := q; exact ⟨q0, q1, qP, va_K.moved (u := U) (U := U.calling g mk a) (Vm.Alike.refl U.vm) qK, qD⟩, va_recv hK hP (ci := 1) (q0 := 0) rfl rfl, fun U hU hW => ⟨rfl, by rw [hU], by rw [hU]; exact hP, va_K.moved hW.alike hK, hD.weaken (fun _ _ _ _ => trivial)⟩⟩ rfl rfl hl.1 rfl (lv_room (Nat.le_of_ble_eq_true rfl)) dX1_number_2 ⟨(Nat.zero_le _), (Nat.zero_le _)⟩) hS (fun q _ h => hFc q h) hFc (fun r_2 v9 t H1 locs ht hvm hw hB hz1 hk1 hS => ?_)
  obtain ⟨hP1, hK1, hD1⟩ := hB
  rw [ht] at hP1
  clear hP hD hK
  have hK := va_K.moved hvm.symm hK1
  have hP := hP1
  have hD := hD1.weaken (B := A) (fun _ q _ h => hFc q.1 h)
  clear hP1 hD1 hK1 hFc hk1 hz1 ht hvm
  generalize H1 = H at hP hS ⊢
  rcases hw with ⟨rfl, a, ha, rfl⟩ | ⟨rfl, hz⟩
  · refine lv_if_eq (tgt := 18) hx hb dX1_number_5 (by decide) (fun c => absurd c (by decide)) (fun _ => ?_)
    refine lv_iload_n hx hb dX1_number_8 rfl (lv_at hl 2 rfl) ?_
    refine lv_if_lt (tgt := 18) hx hb dX1_number_9 (by decide) (fun c1 => ?_) (fun c1 => ?_)
    · refine lv_iconst (v := nI 0) hx hb dX1_number_18 (by decide) ?_
      exact W.iret (v := (nI 0)) hx hb hr (fun t ht hW => ⟨⟨(nI 0), (), rfl, Or.inr ⟨rfl, fun ⟨a2, b2, h1, h2, h3, h4⟩ => by rw [h4] at c1; exact nI_pos (by omega) c1⟩, by rw [ht]; exact hP, va_K.moved hW.alike hK, hD⟩, hS.F ht⟩) hS.2.2 dX1_number_19
    · refine lv_iload_n hx hb dX1_number_12 rfl (lv_at hl 2 rfl) ?_
      refine lv_bipush (v := nI 7) hx hb dX1_number_13 (by decide) ?_
      refine lv_icmp_lt (tgt := 20) hx hb dX1_number_15 (by decide) (fun c2 => ?_) (fun c2 => ?_)
      · obtain ⟨b, hb7, rfl, -⟩ := pk_mu c1 (L := 7) (Int32.not_le.mpr c2) (by omega)
        refine lv_aload_n hx hb dX1_number_20 rfl (lv_at hl 0 rfl) ?_
        refine va_get (D := (dC, dI)) (ci := 1) (v := .ref qt) (C := RX1) (T := TX1) (N := 7) hx hb hts (fun _ h => List.mem_cons_of_mem _ (List.mem_append_right _ h)) hown hK hP 0 rfl rfl 0 (by decide) (hts (.fieldLink RX1 11 "RankFinder" "told" "[[I") (List.mem_of_getElem? (i := 1) rfl)) (fun _ h9 => h9) rfl dX1_number_21 ?_
        refine lv_iload_n hx hb dX1_number_24 rfl (lv_at hl 1 rfl) ?_
        refine na_aald (y := rt a) hx hb hK hP 1 0 rfl rfl (show a < 8 by omega) (by decide) (if_pos (show a < 8 by omega)) dX1_number_25 ?_
        refine lv_iload_n hx hb dX1_number_26 rfl (lv_at hl 2 rfl) ?_
        refine na_iald hx hb hK hP (3 + a) 1 (rf_row (show a < 8 by omega)) rfl hb7 (by decide) dX1_number_27 ?_
        exact W.iret (v := (T a b)) hx hb hr (fun t ht hW => ⟨⟨(T a b), (), rfl, Or.inl ⟨a, b, ha, hb7, rfl, rfl, rfl⟩, by rw [ht]; exact hP, va_K.moved hW.alike hK, hD⟩, hS.F ht⟩) hS.2.2 dX1_number_28
      · refine lv_iconst (v := nI 0) hx hb dX1_number_18 (by decide) ?_
        exact W.iret (v := (nI 0)) hx hb hr (fun t ht hW => ⟨⟨(nI 0), (), rfl, Or.inr ⟨rfl, fun ⟨a2, b2, h1, h2, h3, h4⟩ => by rw [h4] at c2; exact c2 (nI_lt h2 (by omega))⟩, by rw [ht]; exact hP, va_K.moved hW.alike hK, hD⟩, hS.F ht⟩) hS.2.2 dX1_number_19
  · refine lv_if_eq (tgt := 18) hx hb dX1_number_5 (by decide) (fun _ => ?_) (fun c => absurd rfl c)
    refine lv_iconst (v := nI 0) hx hb dX1_number_18 (by decide) ?_
    exact W.iret (v := (nI 0)) hx hb hr (fun t ht hW => ⟨⟨(nI 0), (), rfl, Or.inr ⟨rfl, fun ⟨a2, b2, h1, h2, h3, h4⟩ => hz a2 h1 h3⟩, by rw [ht]; exact hP, va_K.moved hW.alike hK, hD⟩, hS.F ht⟩) hS.2.2 dX1_number_19
