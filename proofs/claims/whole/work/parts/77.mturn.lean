/-! ===== the reference: eliminateAll, hasTurn, ranked ===== -/
set_option maxHeartbeats 1000000 in
set_option maxRecDepth 100000 in
/-- eliminateAll() -/
theorem c_X2_eliminateAll (l : Launch) (dC : Nat → ClassId) (dI : Nat → Nat → Nat) (sz : Nat) (m0 aN aR aX aO aP aH aL aW : Nat) (cI cJ : ClassId) (vn ct : Nat) (nm : Nat → Int32) (tp bt : Int64) (an : Int32) (rw nx : Nat → Int64) (og no : Nat → Int32) (rc nc : Nat) (hgh lws : Nat → Int64) (dh dl fT fB : Int64) (wd : Nat → Int32) (n9 : Nat) (Mx : Nat → Nat → Int) (hM : okM n9 Mx) (hn9 : n9 ≤ 16) (hri : RI n9 Mx 0 rc rw og) : Met l yX2_eliminateAll wsX2_eliminateAll ({ frames := 4, cells := 0, slots := 0, locals := 131 }) (va_Pc [.ref m0] (fun U => U.heap.size = sz ∧ va_P (dC, dI) vwCl (mdW m0 aN aR aX aO aP aH aL aW cI cJ vn ct nm tp bt an rw nx og no rc nc hgh lws dh dl fT fB wd) U.heap ∧ va_K (dC, dI) vwCl [(cI, .int), (cJ, .long)] U ∧ va_D (fun _ => True) (mdW m0 aN aR aX aO aP aH aL aW cI cJ vn ct nm tp bt an rw nx og no rc nc hgh lws dh dl fT fB wd))) (va_Qv (fun v : Nat × (Nat → Int64) × (Nat → Int32) × (Nat → Int64) × (Nat → Int32) × (Nat → Int64) × (Nat → Int64) × Int64 × Int64 × Nat => RI n9 Mx 9 v.1 v.2.1 v.2.2.1) (fun v t => va_P (dC, dI) vwCl (mdW m0 aN aR aX aO aP aH aL aW cI cJ vn ct nm tp bt an v.2.1 v.2.2.2.1 v.2.2.1 v.2.2.2.2.1 v.1 v.2.2.2.2.2.2.2.2.2 v.2.2.2.2.2.1 v.2.2.2.2.2.2.1 v.2.2.2.2.2.2.2.1 v.2.2.2.2.2.2.2.2.1 fT fB wd) t.heap ∧ va_K (dC, dI) vwCl [(cI, .int), (cJ, .long)] t ∧ va_D (va_A (mdW m0 aN aR aX aO aP aH aL aW cI cJ vn ct nm tp bt an rw nx og no rc nc hgh lws dh dl fT fB wd) sz) (mdW m0 aN aR aX aO aP aH aL aW cI cJ vn ct nm tp bt an v.2.1 v.2.2.2.1 v.2.2.1 v.2.2.2.2.1 v.1 v.2.2.2.2.2.2.2.2.2 v.2.2.2.2.2.1 v.2.2.2.2.2.2.1 v.2.2.2.2.2.2.2.1 v.2.2.2.2.2.2.2.2.1 fT fB wd)) (va_A (mdW m0 aN aR aX aO aP aH aL aW cI cJ vn ct nm tp bt an rw nx og no rc nc hgh lws dh dl fT fB wd) sz)) 0 0 (va_A (mdW m0 aN aR aX aO aP aH aL aW cI cJ vn ct nm tp bt an rw nx og no rc nc hgh lws dh dl fT fB wd) sz) := by
  refine Met.ofW (cc := cX2_eliminateAll) (maxL := 2) (ret := none) (by decide) rfl ?_
  intro p e s m args below meth c s₁ B hml hv
  obtain ⟨rfl, hsz, hP, hK, hD0⟩ := hv
  have hx := B.exec
  have hb := B.bytes
  have hr := B.returns
  have hts := atoms_spec (ws := wsX2_eliminateAll) B.pre
  have hown : s.vm.findClass RX2 = some m.cls := findClass_of_methodNamed B.named
  subst hsz
  have hD := hD0.self (sz := s.heap.size)
  clear hD0
  generalize hAe : va_A (mdW m0 aN aR aX aO aP aH aL aW cI cJ vn ct nm tp bt an rw nx og no rc nc hgh lws dh dl fT fB wd) s.heap.size = A at hD ⊢
  have hA : ∀ q : Nat, s.heap.size ≤ q → A q := fun q h => by rw [← hAe]; exact Or.inr h
  have hl := lv_entry ([.ref m0]) (n := 2) (Nat.le_of_ble_eq_true rfl)
  rw [lg_entry_eq]
  generalize (lg_sl ([.ref m0]) ++ List.replicate (2 - (lg_sl ([.ref m0])).length) Slot.unset).toArray = ls at hl ⊢
  have hl : lv_has ls 2 [(0, .ref m0)] := hl
  have hP : va_P (dC, dI) vwCl (mdW m0 aN aR aX aO aP aH aL aW cI cJ vn ct nm tp bt an rw nx og no rc nc hgh lws dh dl fT fB wd) s.heap := hP
  obtain ⟨H, hH⟩ : ∃ H, H = s.heap := ⟨_, rfl⟩
  have hS : va_S A s.heap H [] := by rw [hH]; exact va_S.rf
  rw [← hH] at hP ⊢
  refine lv_iconst (v := nI 0) hx hb dX2_eliminateAll_0 (by decide) ?_
  refine lv_istore_n (lv' := [(1, .int (nI 0)), (0, .ref m0)]) hx hb dX2_eliminateAll_1 rfl hl (by decide) rfl (fun ls hl => ?_)
  have loop : ∀ (d u : Nat) (r1 : Nat) (f1 : Nat → Int64) (o1 : Nat → Int32) (x1 : Nat → Int64) (p1 : Nat → Int32) (h1 l1 : Nat → Int64) (a1 b1 : Int64) (c1 : Nat) (H : Heap) (locs : List Loc) (ls : Array Slot), u + d = 9 → RI n9 Mx u r1 f1 o1 → va_P (dC, dI) vwCl (mdW m0 aN aR aX aO aP aH aL aW cI cJ vn ct nm tp bt an f1 x1 o1 p1 r1 c1 h1 l1 a1 b1 fT fB wd) H → va_K (dC, dI) vwCl [(cI, .int), (cJ, .long)] s → va_D A (mdW m0 aN aR aX aO aP aH aL aW cI cJ vn ct nm tp bt an f1 x1 o1 p1 r1 c1 h1 l1 a1 b1 fT fB wd) → va_S A s.heap H locs → lv_has ls 2 [(1, .int (nI u)), (0, .ref m0)] → W p l e (headSpec wsX2_eliminateAll ({ frames := 4, cells := 0, slots := 0, locals := 131 })).room s m #[.ref m0] below meth c H locs 0 0 (MQ below (va_Qv (fun v : Nat × (Nat → Int64) × (Nat → Int32) × (Nat → Int64) × (Nat → Int32) × (Nat → Int64) × (Nat → Int64) × Int64 × Int64 × Nat => RI n9 Mx 9 v.1 v.2.1 v.2.2.1) (fun v t => va_P (dC, dI) vwCl (mdW m0 aN aR aX aO aP aH aL aW cI cJ vn ct nm tp bt an v.2.1 v.2.2.2.1 v.2.2.1 v.2.2.2.2.1 v.1 v.2.2.2.2.2.2.2.2.2 v.2.2.2.2.2.1 v.2.2.2.2.2.2.1 v.2.2.2.2.2.2.2.1 v.2.2.2.2.2.2.2.2.1 fT fB wd) t.heap ∧ va_K (dC, dI) vwCl [(cI, .int), (cJ, .long)] t ∧ va_D A (mdW m0 aN aR aX aO aP aH aL aW cI cJ vn ct nm tp bt an v.2.1 v.2.2.2.1 v.2.2.1 v.2.2.2.2.1 v.1 v.2.2.2.2.2.2.2.2.2 v.2.2.2.2.2.1 v.2.2.2.2.2.2.1 v.2.2.2.2.2.2.2.1 v.2.2.2.2.2.2.2.2.1 fT fB wd)) A) #[.ref m0] s 0 0 A) (F0 m 2 ls []) := by
    clear hP hK hD hS hl
    intro d
    induction d with
    | zero =>
      intro u r1 f1 o1 x1 p1 h1 l1 a1 b1 c1 H locs ls hu hri hP hK hD hS hl
      refine lv_iload_n hx hb dX2_eliminateAll_2 rfl (lv_at hl 0 rfl) ?_
      refine lv_bipush (v := nI 9) hx hb dX2_eliminateAll_3 (by decide) ?_
      refine lv_icmp_ge (tgt := 20) hx hb dX2_eliminateAll_5 (by decide) (fun c2 => ?_) (fun c2 => ?_)
      · obtain rfl : u = 9 := by omega
        exact W.vret hx hb hr (fun t ht hW => ⟨⟨(r1, f1, o1, x1, p1, h1, l1, a1, b1, c1), rfl, hri, by rw [ht]; exact hP, va_K.moved hW.alike hK, hD⟩, hS.F ht⟩) hS.2.2 dX2_eliminateAll_20
      · exact absurd (nI_le (by omega) (by omega)) c2
    | succ d ih =>
      intro u r1 f1 o1 x1 p1 h1 l1 a1 b1 c1 H locs ls hu hri hP hK hD hS hl
      refine lv_iload_n hx hb dX2_eliminateAll_2 rfl (lv_at hl 0 rfl) ?_
      refine lv_bipush (v := nI 9) hx hb dX2_eliminateAll_3 (by decide) ?_
      refine lv_icmp_ge (tgt := 20) hx hb dX2_eliminateAll_5 (by decide) (fun c2 => ?_) (fun c2 => ?_)
      · exact absurd c2 (nI_ge (by omega) (by omega))
      · refine lv_aload_n hx hb dX2_eliminateAll_8 rfl (lv_at hl 1 rfl) ?_
        refine lv_iload_n hx hb dX2_eliminateAll_9 rfl (lv_at hl 0 rfl) ?_
        refine lv_iload_n hx hb dX2_eliminateAll_10 rfl (lv_at hl 0 rfl) ?_
        have hFc : ∀ q, va_A (mdW m0 aN aR aX aO aP aH aL aW cI cJ vn ct nm tp bt an f1 x1 o1 p1 r1 c1 h1 l1 a1 b1 fT fB wd) H.size q → A q := va_fall hD hS hA
        refine va_callv (va_runV (As := [.int (nI u), .int (nI u)]) (rest := []) ⟨hx, hb, hml, hown, hts⟩ (c_X2_eliminate l dC dI H.size m0 aN aR aX aO aP aH aL aW cI cJ vn ct nm tp bt an f1 x1 o1 p1 r1 c1 h1 l1 a1 b1 fT fB wd n9 u Mx hM hn9 (by omega) hri) (cwV 2 hts gX2_eliminateAll_X2_eliminate rfl rfl rfl (by decide +kernel) ⟨Nat.le_of_ble_eq_true rfl, Nat.le_of_ble_eq_true rfl⟩) ⟨fun a U g mk q => by obtain ⟨q0, q1, qP, qK, qD⟩ := q; exact ⟨q0, q1, qP, va_K.moved (u := U) (U := U.calling g mk a) (Vm.Alike.refl U.vm) qK, qD⟩, va_recv hK hP (ci := 2) (q0 := 0) rfl rfl, fun U hU hW => ⟨rfl, by rw [hU], by rw [hU]; exact hP, va_K.moved hW.alike hK, hD.weaken (fun _ _ _ _ => trivial)⟩⟩ rfl rfl hl.1 rfl (lv_room (Nat.le_of_ble_eq_true rfl)) dX2_eliminateAll_11 ⟨(Nat.zero_le _), (Nat.zero_le _)⟩) hS (fun q _ h => hFc q h) hFc (fun v9 t H1 locs ht hvm hw hB hz1 hk1 hS => ?_)
        obtain ⟨hP1, hK1, hD1⟩ := hB
        rw [ht] at hP1
        clear hP hD hK
        have hK := va_K.moved hvm.symm hK1
        have hP := hP1
        have hD := hD1.weaken (B := A) (fun _ q _ h => hFc q.1 h)
        clear hP1 hD1 hK1 hFc hk1 hz1 ht hvm
        generalize H1 = H at hP hS ⊢
        obtain ⟨r2, f2, o2, x2, p2, h2, l2, a2, b2⟩ := v9
        have hP : va_P (dC, dI) vwCl (mdW m0 aN aR aX aO aP aH aL aW cI cJ vn ct nm tp bt an f2 x2 o2 p2 r2 r2 h2 l2 a2 b2 fT fB wd) H := hP
        have hD : va_D A (mdW m0 aN aR aX aO aP aH aL aW cI cJ vn ct nm tp bt an f2 x2 o2 p2 r2 r2 h2 l2 a2 b2 fT fB wd) := hD
        refine lv_iinc (v := nI (u + 1)) (lv' := [(1, .int (nI (u + 1))), (0, .ref m0)]) hx hb dX2_eliminateAll_14 hl (k := 0) rfl (nI_1 _) (by decide) rfl (fun ls hl => ?_)
        refine lv_goto (tgt := 2) hx hb dX2_eliminateAll_17 (by decide) ?_
        exact ih (u + 1) r2 f2 o2 x2 p2 h2 l2 a2 b2 r2 H _ ls (by omega) hw hP hK hD hS (lv_sub hl [0, 1] rfl)
  exact loop 9 0 rc rw og nx no hgh lws dh dl nc H _ ls (by omega) hri hP hK hD hS (lv_sub hl [0, 1] rfl)
set_option maxHeartbeats 1000000 in
set_option maxRecDepth 100000 in
/-- hasTurn() -/
theorem c_X2_hasTurn (l : Launch) (dC : Nat → ClassId) (dI : Nat → Nat → Nat) (sz : Nat) (m0 aN aR aX aO aP aH aL aW : Nat) (cI cJ : ClassId) (vn ct : Nat) (nm : Nat → Int32) (tp bt : Int64) (an : Int32) (rw nx : Nat → Int64) (og no : Nat → Int32) (rc nc : Nat) (hgh lws : Nat → Int64) (dh dl fT fB : Int64) (wd : Nat → Int32) (hv1 : 1 ≤ vn) (hv : vn ≤ 3) (hc : ct ≤ 8) (hN : okN nm ct) : Met l yX2_hasTurn wsX2_hasTurn ({ frames := 5, cells := 0, slots := 0, locals := 152 }) (va_Pc [.ref m0] (fun U => U.heap.size = sz ∧ va_P (dC, dI) vwCl (mdW m0 aN aR aX aO aP aH aL aW cI cJ vn ct nm tp bt an rw nx og no rc nc hgh lws dh dl fT fB wd) U.heap ∧ va_K (dC, dI) vwCl [(cI, .int), (cJ, .long)] U ∧ va_D (fun _ => True) (mdW m0 aN aR aX aO aP aH aL aW cI cJ vn ct nm tp bt an rw nx og no rc nc hgh lws dh dl fT fB wd))) (va_Qi (fun (x : Int32) (v : Nat × (Nat → Int64) × (Nat → Int32) × (Nat → Int64) × (Nat → Int32) × (Nat → Int64) × (Nat → Int64) × Int64 × Int64 × Nat) => (x = 0 ∧ CerQ ct 9 (HM nm vn ct)) ∨ (x = 1 ∧ ¬ CerQ ct 9 (HM nm vn ct))) (fun v t => va_P (dC, dI) vwCl (mdW m0 aN aR aX aO aP aH aL aW cI cJ vn ct nm tp bt an v.2.1 v.2.2.2.1 v.2.2.1 v.2.2.2.2.1 v.1 v.2.2.2.2.2.2.2.2.2 v.2.2.2.2.2.1 v.2.2.2.2.2.2.1 v.2.2.2.2.2.2.2.1 v.2.2.2.2.2.2.2.2.1 fT fB wd) t.heap ∧ va_K (dC, dI) vwCl [(cI, .int), (cJ, .long)] t ∧ va_D (va_A (mdW m0 aN aR aX aO aP aH aL aW cI cJ vn ct nm tp bt an rw nx og no rc nc hgh lws dh dl fT fB wd) sz) (mdW m0 aN aR aX aO aP aH aL aW cI cJ vn ct nm tp bt an v.2.1 v.2.2.2.1 v.2.2.1 v.2.2.2.2.1 v.1 v.2.2.2.2.2.2.2.2.2 v.2.2.2.2.2.1 v.2.2.2.2.2.2.1 v.2.2.2.2.2.2.2.1 v.2.2.2.2.2.2.2.2.1 fT fB wd)) (va_A (mdW m0 aN aR aX aO aP aH aL aW cI cJ vn ct nm tp bt an rw nx og no rc nc hgh lws dh dl fT fB wd) sz)) 0 0 (va_A (mdW m0 aN aR aX aO aP aH aL aW cI cJ vn ct nm tp bt an rw nx og no rc nc hgh lws dh dl fT fB wd) sz) := by
  refine Met.ofW (cc := cX2_hasTurn) (maxL := 1) (ret := (some .boolean)) (by decide) rfl ?_
  intro p e s m args below meth c s₁ B hml hv
  obtain ⟨rfl, hsz, hP, hK, hD0⟩ := hv
  have hx := B.exec
  have hb := B.bytes
  have hr := B.returns
  have hts := atoms_spec (ws := wsX2_hasTurn) B.pre
  have hown : s.vm.findClass RX2 = some m.cls := findClass_of_methodNamed B.named
  subst hsz
  have hD := hD0.self (sz := s.heap.size)
  clear hD0
  generalize hAe : va_A (mdW m0 aN aR aX aO aP aH aL aW cI cJ vn ct nm tp bt an rw nx og no rc nc hgh lws dh dl fT fB wd) s.heap.size = A at hD ⊢
  have hA : ∀ q : Nat, s.heap.size ≤ q → A q := fun q h => by rw [← hAe]; exact Or.inr h
  have hl := lv_entry ([.ref m0]) (n := 1) (Nat.le_of_ble_eq_true rfl)
  rw [lg_entry_eq]
  generalize (lg_sl ([.ref m0]) ++ List.replicate (1 - (lg_sl ([.ref m0])).length) Slot.unset).toArray = ls at hl ⊢
  have hl : lv_has ls 1 [(0, .ref m0)] := hl
  have hP : va_P (dC, dI) vwCl (mdW m0 aN aR aX aO aP aH aL aW cI cJ vn ct nm tp bt an rw nx og no rc nc hgh lws dh dl fT fB wd) s.heap := hP
  obtain ⟨H, hH⟩ : ∃ H, H = s.heap := ⟨_, rfl⟩
  have hS : va_S A s.heap H [] := by rw [hH]; exact va_S.rf
  rw [← hH] at hP ⊢
  refine lv_aload_n hx hb dX2_hasTurn_0 rfl (lv_at hl 0 rfl) ?_
  have hFc : ∀ q, va_A (mdW m0 aN aR aX aO aP aH aL aW cI cJ vn ct nm tp bt an rw nx og no rc nc hgh lws dh dl fT fB wd) H.size q → A q := va_fall hD hS hA
  refine va_callv (va_runV (As := []) (rest := []) ⟨hx, hb, hml, hown, hts⟩ (c_X2_beginRows l dC dI H.size m0 aN aR aX aO aP aH aL aW cI cJ vn ct nm tp bt an rw nx og no rc nc hgh lws dh dl fT fB wd hc hv) (cwV 0 hts gX2_hasTurn_X2_beginRows rfl rfl rfl (by decide +kernel) ⟨Nat.le_of_ble_eq_true rfl, Nat.le_of_ble_eq_true rfl⟩) ⟨fun a U g mk q => by obtain ⟨q0, q1, qP, qK, qD⟩ := q; exact ⟨q0, q1, qP, va_K.moved (u := U) (U := U.calling g mk a) (Vm.Alike.refl U.vm) qK, qD⟩, va_recv hK hP (ci := 2) (q0 := 0) rfl rfl, fun U hU hW => ⟨rfl, by rw [hU], by rw [hU]; exact hP, va_K.moved hW.alike hK, hD.weaken (fun _ _ _ _ => trivial)⟩⟩ rfl rfl hl.1 rfl (lv_room (Nat.le_of_ble_eq_true rfl)) dX2_hasTurn_1 ⟨(Nat.zero_le _), (Nat.zero_le _)⟩) hS (fun q _ h => hFc q h) hFc (fun v9 t H1 locs ht hvm hw hB hz1 hk1 hS => ?_)
  obtain ⟨hP1, hK1, hD1⟩ := hB
  rw [ht] at hP1
  clear hP hD hK
  have hK := va_K.moved hvm.symm hK1
  have hP := hP1
  have hD := hD1.weaken (B := A) (fun _ q _ h => hFc q.1 h)
  clear hP1 hD1 hK1 hFc hk1 hz1 ht hvm
  generalize H1 = H at hP hS ⊢
  obtain ⟨f1, o1⟩ := v9
  have hP : va_P (dC, dI) vwCl (mdW m0 aN aR aX aO aP aH aL aW cI cJ vn ct nm tp bt an f1 nx o1 no ct nc hgh lws dh dl fT fB wd) H := hP
  have hD : va_D A (mdW m0 aN aR aX aO aP aH aL aW cI cJ vn ct nm tp bt an f1 nx o1 no ct nc hgh lws dh dl fT fB wd) := hD
  obtain ⟨hf1, ho1⟩ : rwI f1 (brM nm vn) ct ∧ ∀ k, k < ct → o1 k = bitI k := hw
  have hi1 : RI ct (HM nm vn ct) 0 ct f1 o1 := RI_init (by omega) (fun k j hk hj => by rw [hf1 k j hk hj]; unfold HM; rw [if_pos hk]; rfl) (fun k j _ _ => by have := (HM_b hN hv k j).2; omega) ho1
  refine lv_aload_n hx hb dX2_hasTurn_4 rfl (lv_at hl 0 rfl) ?_
  have hFc : ∀ q, va_A (mdW m0 aN aR aX aO aP aH aL aW cI cJ vn ct nm tp bt an f1 nx o1 no ct nc hgh lws dh dl fT fB wd) H.size q → A q := va_fall hD hS hA
  refine va_callv (va_runV (As := []) (rest := []) ⟨hx, hb, hml, hown, hts⟩ (c_X2_eliminateAll l dC dI H.size m0 aN aR aX aO aP aH aL aW cI cJ vn ct nm tp bt an f1 nx o1 no ct nc hgh lws dh dl fT fB wd ct (HM nm vn ct) (okM_9 (HM_b hN hv)) (by omega) hi1) (cwV 0 hts gX2_hasTurn_X2_eliminateAll rfl rfl rfl (by decide +kernel) ⟨Nat.le_of_ble_eq_true rfl, Nat.le_of_ble_eq_true rfl⟩) ⟨fun a U g mk q => by obtain ⟨q0, q1, qP, qK, qD⟩ := q; exact ⟨q0, q1, qP, va_K.moved (u := U) (U := U.calling g mk a) (Vm.Alike.refl U.vm) qK, qD⟩, va_recv hK hP (ci := 2) (q0 := 0) rfl rfl, fun U hU hW => ⟨rfl, by rw [hU], by rw [hU]; exact hP, va_K.moved hW.alike hK, hD.weaken (fun _ _ _ _ => trivial)⟩⟩ rfl rfl hl.1 rfl (lv_room (Nat.le_of_ble_eq_true rfl)) dX2_hasTurn_5 ⟨(Nat.zero_le _), (Nat.zero_le _)⟩) hS (fun q _ h => hFc q h) hFc (fun v9 t H1 locs ht hvm hw hB hz1 hk1 hS => ?_)
  obtain ⟨hP1, hK1, hD1⟩ := hB
  rw [ht] at hP1
  clear hP hD hK
  have hK := va_K.moved hvm.symm hK1
  have hP := hP1
  have hD := hD1.weaken (B := A) (fun _ q _ h => hFc q.1 h)
  clear hP1 hD1 hK1 hFc hk1 hz1 ht hvm
  generalize H1 = H at hP hS ⊢
  obtain ⟨r2, f2, o2, x2, p2, h2, l2, a2, b2, c2⟩ := v9
  have hP : va_P (dC, dI) vwCl (mdW m0 aN aR aX aO aP aH aL aW cI cJ vn ct nm tp bt an f2 x2 o2 p2 r2 c2 h2 l2 a2 b2 fT fB wd) H := hP
  have hD : va_D A (mdW m0 aN aR aX aO aP aH aL aW cI cJ vn ct nm tp bt an f2 x2 o2 p2 r2 c2 h2 l2 a2 b2 fT fB wd) := hD
  have hw : RI ct (HM nm vn ct) 9 r2 f2 o2 := hw
  have hrc9 : r2 ≤ 1200 := by obtain ⟨W2, q2, _⟩ := hw; exact q2.count (by omega)
  have h9 : ∀ k, k < ct → HM nm vn ct k 9 = 0 := fun k hk => by unfold HM; rw [if_pos hk, mt_eq, if_neg (by omega), if_neg (by omega)]
  have hpi := poss_iff hw (fun k hk => by rw [h9 k hk]; omega)
  rw [Cer_910 h9] at hpi
  clear hw
  refine lv_aload_n hx hb dX2_hasTurn_8 rfl (lv_at hl 0 rfl) ?_
  have hFc : ∀ q, va_A (mdW m0 aN aR aX aO aP aH aL aW cI cJ vn ct nm tp bt an f2 x2 o2 p2 r2 c2 h2 l2 a2 b2 fT fB wd) H.size q → A q := va_fall hD hS hA
  refine va_calli (va_runV (As := []) (rest := []) ⟨hx, hb, hml, hown, hts⟩ (c_X2_isPossible l dC dI H.size m0 aN aR aX aO aP aH aL aW cI cJ vn ct nm tp bt an f2 x2 o2 p2 r2 c2 h2 l2 a2 b2 fT fB wd hrc9) (cwV 0 hts gX2_hasTurn_X2_isPossible rfl rfl rfl (by decide +kernel) ⟨Nat.le_of_ble_eq_true rfl, Nat.le_of_ble_eq_true rfl⟩) ⟨fun a U g mk q => by obtain ⟨q0, q1, qP, qK, qD⟩ := q; exact ⟨q0, q1, qP, va_K.moved (u := U) (U := U.calling g mk a) (Vm.Alike.refl U.vm) qK, qD⟩, va_recv hK hP (ci := 2) (q0 := 0) rfl rfl, fun U hU hW => ⟨rfl, by rw [hU], by rw [hU]; exact hP, va_K.moved hW.alike hK, hD.weaken (fun _ _ _ _ => trivial)⟩⟩ rfl rfl hl.1 rfl (lv_room (Nat.le_of_ble_eq_true rfl)) dX2_hasTurn_9 ⟨(Nat.zero_le _), (Nat.zero_le _)⟩) hS (fun q _ h => hFc q h) hFc (fun r_9 v9 t H1 locs ht hvm hw hB hz1 hk1 hS => ?_)
  obtain ⟨hP1, hK1, hD1⟩ := hB
  rw [ht] at hP1
  clear hP hD hK
  have hK := va_K.moved hvm.symm hK1
  have hP := hP1
  have hD := hD1.weaken (B := A) (fun _ q _ h => hFc q.1 h)
  clear hP1 hD1 hK1 hFc hk1 hz1 ht hvm
  generalize H1 = H at hP hS ⊢
  rcases hw with ⟨rfl, hw⟩ | ⟨rfl, hw⟩
  · exact W.zret (v := 1) hx hb hr (by rfl) (fun t ht hW => ⟨⟨1, (r2, f2, o2, x2, p2, h2, l2, a2, b2, c2), rfl, Or.inr ⟨rfl, fun q => (hpi.mpr q) hw⟩, by rw [ht]; exact hP, va_K.moved hW.alike hK, hD⟩, hS.F ht⟩) hS.2.2 dX2_hasTurn_12
  · exact W.zret (v := 0) hx hb hr (by rfl) (fun t ht hW => ⟨⟨0, (r2, f2, o2, x2, p2, h2, l2, a2, b2, c2), rfl, Or.inl ⟨rfl, hpi.mp hw⟩, by rw [ht]; exact hP, va_K.moved hW.alike hK, hD⟩, hS.F ht⟩) hS.2.2 dX2_hasTurn_12
def krP (nm : Nat → Int32) (k i j : Nat) : Int64 := if j < i then (-(nm (7 * k + j))).toInt64 else if 3 ≤ j ∧ j < 3 + i then (nm (7 * k + (j - 3))).toInt64 else if 6 ≤ j ∧ j < 6 + i then (nm (7 * k + 3 + (j - 6))).toInt64 else 0
def kmL (nm : Nat → Int32) (vn ct a j : Nat) : Int64 := if a < ct then brM nm vn a j else krP nm (a - ct) vn j
theorem krP_s {f : Nat → Int64} {nm : Nat → Int32} {r k i : Nat} (hi : i < 3) (h : ∀ j, j < 11 → f (11 * r + j) = krP nm k i j) : ∀ j, j < 11 → vp_updL (vp_updL (vp_updL f (11 * r + i) (-(nm (7 * k + i))).toInt64) (11 * r + 3 + i) (nm (7 * k + i)).toInt64) (11 * r + 6 + i) (nm (7 * k + 3 + i)).toInt64 (11 * r + j) = krP nm k (i + 1) j := fun j hj => by
  unfold vp_updL
  by_cases e : j = 6 + i
  · subst e
    rw [if_pos (by omega)]; unfold krP; rw [if_neg (by omega), if_neg (by omega), if_pos (by omega), show 6 + i - 6 = i by omega]
  · rw [if_neg (by omega)]
    by_cases e2 : j = 3 + i
    · subst e2
      rw [if_pos (by omega)]; unfold krP; rw [if_neg (by omega), if_pos (by omega), show 3 + i - 3 = i by omega]
    · rw [if_neg (by omega)]
      by_cases e3 : j = i
      · subst e3
        rw [if_pos rfl]; unfold krP; rw [if_pos (by omega)]
      · rw [if_neg (by omega), h j hj]; unfold krP
        by_cases q : j < i
        · rw [if_pos q, if_pos (show j < i + 1 by omega)]
        · rw [if_neg q, if_neg (show ¬ j < i + 1 by omega)]
          by_cases q2 : 3 ≤ j ∧ j < 3 + i
          · rw [if_pos q2, if_pos (show 3 ≤ j ∧ j < 3 + (i + 1) by omega)]
          · rw [if_neg q2, if_neg (show ¬ (3 ≤ j ∧ j < 3 + (i + 1)) by omega)]
            by_cases q3 : 6 ≤ j ∧ j < 6 + i
            · rw [if_pos q3, if_pos (show 6 ≤ j ∧ j < 6 + (i + 1) by omega)]
            · rw [if_neg q3, if_neg (show ¬ (6 ≤ j ∧ j < 6 + (i + 1)) by omega)]
theorem kmL_int {nm : Nat → Int32} {vn ct : Nat} (hN : okN nm ct) (hv : vn ≤ 3) {k j : Nat} (hk : k < 2 * ct) : (kmL nm vn ct k j).toInt = KM nm vn ct k j := by
  unfold kmL KM
  by_cases q : k < ct
  · rw [if_pos q, if_pos q]; rfl
  · rw [if_neg q, if_neg q, if_pos hk]
    unfold krP
    by_cases q1 : j < vn
    · rw [if_pos q1, if_pos q1, Int32.toInt_toInt64]
      have := (hN (k - ct) (by omega)).1 j (by omega)
      simp only at this
      exact neg32 (by omega) (by omega)
    · rw [if_neg q1, if_neg q1]
      by_cases q2 : 3 ≤ j ∧ j < 3 + vn
      · rw [if_pos q2, if_pos q2, Int32.toInt_toInt64]
      · rw [if_neg q2, if_neg q2]
        by_cases q3 : 6 ≤ j ∧ j < 6 + vn
        · rw [if_pos q3, if_pos q3, Int32.toInt_toInt64]
        · rw [if_neg q3, if_neg q3]; rfl
set_option maxHeartbeats 1000000 in
set_option maxRecDepth 100000 in
/-- ranked() -/
theorem c_X2_ranked (l : Launch) (dC : Nat → ClassId) (dI : Nat → Nat → Nat) (sz : Nat) (m0 aN aR aX aO aP aH aL aW : Nat) (cI cJ : ClassId) (vn ct : Nat) (nm : Nat → Int32) (tp bt : Int64) (an : Int32) (rw nx : Nat → Int64) (og no : Nat → Int32) (rc nc : Nat) (hgh lws : Nat → Int64) (dh dl fT fB : Int64) (wd : Nat → Int32) (hv1 : 1 ≤ vn) (hv : vn ≤ 3) (hc : ct ≤ 8) (hN : okN nm ct) : Met l yX2_ranked wsX2_ranked ({ frames := 6, cells := 0, slots := 0, locals := 172 }) (va_Pc [.ref m0] (fun U => U.heap.size = sz ∧ va_P (dC, dI) vwCl (mdW m0 aN aR aX aO aP aH aL aW cI cJ vn ct nm tp bt an rw nx og no rc nc hgh lws dh dl fT fB wd) U.heap ∧ va_K (dC, dI) vwCl [(cI, .int), (cJ, .long)] U ∧ va_D (fun _ => True) (mdW m0 aN aR aX aO aP aH aL aW cI cJ vn ct nm tp bt an rw nx og no rc nc hgh lws dh dl fT fB wd))) (va_Qi (fun (x : Int32) (v : Nat × (Nat → Int64) × (Nat → Int32) × (Nat → Int64) × (Nat → Int32) × (Nat → Int64) × (Nat → Int64) × Int64 × Int64 × Nat) => (x = 1 ∧ CerQ (2 * ct) 9 (KM nm vn ct)) ∨ (x = 0 ∧ ¬ CerQ (2 * ct) 9 (KM nm vn ct))) (fun v t => va_P (dC, dI) vwCl (mdW m0 aN aR aX aO aP aH aL aW cI cJ vn ct nm tp bt an v.2.1 v.2.2.2.1 v.2.2.1 v.2.2.2.2.1 v.1 v.2.2.2.2.2.2.2.2.2 v.2.2.2.2.2.1 v.2.2.2.2.2.2.1 v.2.2.2.2.2.2.2.1 v.2.2.2.2.2.2.2.2.1 fT fB wd) t.heap ∧ va_K (dC, dI) vwCl [(cI, .int), (cJ, .long)] t ∧ va_D (va_A (mdW m0 aN aR aX aO aP aH aL aW cI cJ vn ct nm tp bt an rw nx og no rc nc hgh lws dh dl fT fB wd) sz) (mdW m0 aN aR aX aO aP aH aL aW cI cJ vn ct nm tp bt an v.2.1 v.2.2.2.1 v.2.2.1 v.2.2.2.2.1 v.1 v.2.2.2.2.2.2.2.2.2 v.2.2.2.2.2.1 v.2.2.2.2.2.2.1 v.2.2.2.2.2.2.2.1 v.2.2.2.2.2.2.2.2.1 fT fB wd)) (va_A (mdW m0 aN aR aX aO aP aH aL aW cI cJ vn ct nm tp bt an rw nx og no rc nc hgh lws dh dl fT fB wd) sz)) 0 0 (va_A (mdW m0 aN aR aX aO aP aH aL aW cI cJ vn ct nm tp bt an rw nx og no rc nc hgh lws dh dl fT fB wd) sz) := by
  refine Met.ofW (cc := cX2_ranked) (maxL := 4) (ret := (some .boolean)) (by decide) rfl ?_
  intro p e s m args below meth c s₁ B hml hv
  obtain ⟨rfl, hsz, hP, hK, hD0⟩ := hv
  have hx := B.exec
  have hb := B.bytes
  have hr := B.returns
  have hts := atoms_spec (ws := wsX2_ranked) B.pre
  have hown : s.vm.findClass RX2 = some m.cls := findClass_of_methodNamed B.named
  subst hsz
  have hD := hD0.self (sz := s.heap.size)
  clear hD0
  generalize hAe : va_A (mdW m0 aN aR aX aO aP aH aL aW cI cJ vn ct nm tp bt an rw nx og no rc nc hgh lws dh dl fT fB wd) s.heap.size = A at hD ⊢
  have hA : ∀ q : Nat, s.heap.size ≤ q → A q := fun q h => by rw [← hAe]; exact Or.inr h
  have hl := lv_entry ([.ref m0]) (n := 4) (Nat.le_of_ble_eq_true rfl)
  rw [lg_entry_eq]
  generalize (lg_sl ([.ref m0]) ++ List.replicate (4 - (lg_sl ([.ref m0])).length) Slot.unset).toArray = ls at hl ⊢
  have hl : lv_has ls 4 [(0, .ref m0)] := hl
  have hP : va_P (dC, dI) vwCl (mdW m0 aN aR aX aO aP aH aL aW cI cJ vn ct nm tp bt an rw nx og no rc nc hgh lws dh dl fT fB wd) s.heap := hP
  obtain ⟨H, hH⟩ : ∃ H, H = s.heap := ⟨_, rfl⟩
  have hS : va_S A s.heap H [] := by rw [hH]; exact va_S.rf
  rw [← hH] at hP ⊢
  refine lv_aload_n hx hb dX2_ranked_0 rfl (lv_at hl 0 rfl) ?_
  have hFc : ∀ q, va_A (mdW m0 aN aR aX aO aP aH aL aW cI cJ vn ct nm tp bt an rw nx og no rc nc hgh lws dh dl fT fB wd) H.size q → A q := va_fall hD hS hA
  refine va_calli (va_runV (As := []) (rest := []) ⟨hx, hb, hml, hown, hts⟩ (c_X2_hasTurn l dC dI H.size m0 aN aR aX aO aP aH aL aW cI cJ vn ct nm tp bt an rw nx og no rc nc hgh lws dh dl fT fB wd hv1 hv hc hN) (cwV 0 hts gX2_ranked_X2_hasTurn rfl rfl rfl (by decide +kernel) ⟨Nat.le_of_ble_eq_true rfl, Nat.le_of_ble_eq_true rfl⟩) ⟨fun a U g mk q => by obtain ⟨q0, q1, qP, qK, qD⟩ := q; exact ⟨q0, q1, qP, va_K.moved (u := U) (U := U.calling g mk a) (Vm.Alike.refl U.vm) qK, qD⟩, va_recv hK hP (ci := 2) (q0 := 0) rfl rfl, fun U hU hW => ⟨rfl, by rw [hU], by rw [hU]; exact hP, va_K.moved hW.alike hK, hD.weaken (fun _ _ _ _ => trivial)⟩⟩ rfl rfl hl.1 rfl (lv_room (Nat.le_of_ble_eq_true rfl)) dX2_ranked_1 ⟨(Nat.zero_le _), (Nat.zero_le _)⟩) hS (fun q _ h => hFc q h) hFc (fun r_1 v9 t H1 locs ht hvm hw hB hz1 hk1 hS => ?_)
  obtain ⟨hP1, hK1, hD1⟩ := hB
  rw [ht] at hP1
  clear hP hD hK
  have hK := va_K.moved hvm.symm hK1
  have hP := hP1
  have hD := hD1.weaken (B := A) (fun _ q _ h => hFc q.1 h)
  clear hP1 hD1 hK1 hFc hk1 hz1 ht hvm
  generalize H1 = H at hP hS ⊢
  obtain ⟨r0, f0, o0, x0, p0, h0, l0, a0, b0, c0⟩ := v9
  have hP : va_P (dC, dI) vwCl (mdW m0 aN aR aX aO aP aH aL aW cI cJ vn ct nm tp bt an f0 x0 o0 p0 r0 c0 h0 l0 a0 b0 fT fB wd) H := hP
  have hD : va_D A (mdW m0 aN aR aX aO aP aH aL aW cI cJ vn ct nm tp bt an f0 x0 o0 p0 r0 c0 h0 l0 a0 b0 fT fB wd) := hD
  rcases hw with ⟨rfl, hw⟩ | ⟨rfl, hw⟩
  · refine lv_if_ne (tgt := 9) hx hb dX2_ranked_4 (by decide) (fun c => absurd rfl c) (fun _ => ?_)
    refine lv_iconst (v := nI 1) hx hb dX2_ranked_7 (by decide) ?_
    exact W.zret (v := (nI 1)) hx hb hr (by rfl) (fun t ht hW => ⟨⟨(nI 1), (r0, f0, o0, x0, p0, h0, l0, a0, b0, c0), rfl, Or.inl ⟨rfl, H_K hw⟩, by rw [ht]; exact hP, va_K.moved hW.alike hK, hD⟩, hS.F ht⟩) hS.2.2 dX2_ranked_8
  · refine lv_if_ne (tgt := 9) hx hb dX2_ranked_4 (by decide) (fun _ => ?_) (fun c => absurd c (by decide))
    refine lv_aload_n hx hb dX2_ranked_9 rfl (lv_at hl 0 rfl) ?_
    have hFc : ∀ q, va_A (mdW m0 aN aR aX aO aP aH aL aW cI cJ vn ct nm tp bt an f0 x0 o0 p0 r0 c0 h0 l0 a0 b0 fT fB wd) H.size q → A q := va_fall hD hS hA
    refine va_callv (va_runV (As := []) (rest := []) ⟨hx, hb, hml, hown, hts⟩ (c_X2_beginRows l dC dI H.size m0 aN aR aX aO aP aH aL aW cI cJ vn ct nm tp bt an f0 x0 o0 p0 r0 c0 h0 l0 a0 b0 fT fB wd hc hv) (cwV 0 hts gX2_ranked_X2_beginRows rfl rfl rfl (by decide +kernel) ⟨Nat.le_of_ble_eq_true rfl, Nat.le_of_ble_eq_true rfl⟩) ⟨fun a U g mk q => by obtain ⟨q0, q1, qP, qK, qD⟩ := q; exact ⟨q0, q1, qP, va_K.moved (u := U) (U := U.calling g mk a) (Vm.Alike.refl U.vm) qK, qD⟩, va_recv hK hP (ci := 2) (q0 := 0) rfl rfl, fun U hU hW => ⟨rfl, by rw [hU], by rw [hU]; exact hP, va_K.moved hW.alike hK, hD.weaken (fun _ _ _ _ => trivial)⟩⟩ rfl rfl hl.1 rfl (lv_room (Nat.le_of_ble_eq_true rfl)) dX2_ranked_10 ⟨(Nat.zero_le _), (Nat.zero_le _)⟩) hS (fun q _ h => hFc q h) hFc (fun v9 t H1 locs ht hvm hw hB hz1 hk1 hS => ?_)
    obtain ⟨hP1, hK1, hD1⟩ := hB
    rw [ht] at hP1
    clear hP hD hK
    have hK := va_K.moved hvm.symm hK1
    have hP := hP1
    have hD := hD1.weaken (B := A) (fun _ q _ h => hFc q.1 h)
    clear hP1 hD1 hK1 hFc hk1 hz1 ht hvm
    generalize H1 = H at hP hS ⊢
    obtain ⟨f1, o1⟩ := v9
    have hP : va_P (dC, dI) vwCl (mdW m0 aN aR aX aO aP aH aL aW cI cJ vn ct nm tp bt an f1 x0 o1 p0 ct c0 h0 l0 a0 b0 fT fB wd) H := hP
    have hD : va_D A (mdW m0 aN aR aX aO aP aH aL aW cI cJ vn ct nm tp bt an f1 x0 o1 p0 ct c0 h0 l0 a0 b0 fT fB wd) := hD
    obtain ⟨hf1, ho1⟩ : rwI f1 (brM nm vn) ct ∧ ∀ k, k < ct → o1 k = bitI k := hw
    refine lv_iconst (v := nI 0) hx hb dX2_ranked_13 (by decide) ?_
    refine lv_istore_n (lv' := [(1, .int (nI 0)), (0, .ref m0)]) hx hb dX2_ranked_14 rfl hl (by decide) rfl (fun ls hl => ?_)
    have loop : ∀ (d k : Nat) (f : Nat → Int64) (o : Nat → Int32) (H : Heap) (locs : List Loc) (ls : Array Slot), k + d = ct → rwI f (kmL nm vn ct) (ct + k) → (∀ i, i < ct + k → o i = bitI i) → va_P (dC, dI) vwCl (mdW m0 aN aR aX aO aP aH aL aW cI cJ vn ct nm tp bt an f x0 o p0 (ct + k) c0 h0 l0 a0 b0 fT fB wd) H → va_K (dC, dI) vwCl [(cI, .int), (cJ, .long)] s → va_D A (mdW m0 aN aR aX aO aP aH aL aW cI cJ vn ct nm tp bt an f x0 o p0 (ct + k) c0 h0 l0 a0 b0 fT fB wd) → va_S A s.heap H locs → lv_has ls 4 [(1, .int (nI k)), (0, .ref m0)] → W p l e (headSpec wsX2_ranked ({ frames := 6, cells := 0, slots := 0, locals := 172 })).room s m #[.ref m0] below meth c H locs 0 0 (MQ below (va_Qi (fun (x : Int32) (v : Nat × (Nat → Int64) × (Nat → Int32) × (Nat → Int64) × (Nat → Int32) × (Nat → Int64) × (Nat → Int64) × Int64 × Int64 × Nat) => (x = 1 ∧ CerQ (2 * ct) 9 (KM nm vn ct)) ∨ (x = 0 ∧ ¬ CerQ (2 * ct) 9 (KM nm vn ct))) (fun v t => va_P (dC, dI) vwCl (mdW m0 aN aR aX aO aP aH aL aW cI cJ vn ct nm tp bt an v.2.1 v.2.2.2.1 v.2.2.1 v.2.2.2.2.1 v.1 v.2.2.2.2.2.2.2.2.2 v.2.2.2.2.2.1 v.2.2.2.2.2.2.1 v.2.2.2.2.2.2.2.1 v.2.2.2.2.2.2.2.2.1 fT fB wd) t.heap ∧ va_K (dC, dI) vwCl [(cI, .int), (cJ, .long)] t ∧ va_D A (mdW m0 aN aR aX aO aP aH aL aW cI cJ vn ct nm tp bt an v.2.1 v.2.2.2.1 v.2.2.1 v.2.2.2.2.1 v.1 v.2.2.2.2.2.2.2.2.2 v.2.2.2.2.2.1 v.2.2.2.2.2.2.1 v.2.2.2.2.2.2.2.1 v.2.2.2.2.2.2.2.2.1 fT fB wd)) A) #[.ref m0] s 0 0 A) (F0 m 15 ls []) := by
      clear hP hK hD hS hl hf1 ho1
      intro d
      induction d with
      | zero =>
        intro k f o H locs ls hk hf ho hP hK hD hS hl
        refine lv_iload_n hx hb dX2_ranked_15 rfl (lv_at hl 0 rfl) ?_
        refine lv_aload_n hx hb dX2_ranked_16 rfl (lv_at hl 1 rfl) ?_
        refine va_get (D := (dC, dI)) (ci := 2) (v := .int (nI ct)) (C := RX2) (T := TX2) (N := 19) hx hb hts (fun _ h => List.mem_cons_of_mem _ (List.mem_append_right _ h)) hown hK hP 0 rfl rfl 1 (by decide) (hts (.fieldLink RX2 39 "RankFinderModel" "count" "I") (List.mem_of_getElem? (i := 1) rfl)) (fun _ h9 => h9) rfl dX2_ranked_17 ?_
        refine lv_icmp_ge (tgt := 118) hx hb dX2_ranked_20 (by decide) (fun c1 => ?_) (fun c1 => ?_)
        · have hi1 : RI (2 * ct) (KM nm vn ct) 0 (2 * ct) f o := RI_init (by omega) (fun a j ha hj => by rw [hf a j (by omega) hj]; exact kmL_int hN hv ha) (fun a j _ _ => by have := (KM_b hN hv a j).2; omega) (fun a ha => ho a (by omega))
          have e2 : ct + k = 2 * ct := by omega
          rw [e2] at hP hD
          have hP : va_P (dC, dI) vwCl (mdW m0 aN aR aX aO aP aH aL aW cI cJ vn ct nm tp bt an f x0 o p0 (2 * ct) c0 h0 l0 a0 b0 fT fB wd) H := hP
          have hD : va_D A (mdW m0 aN aR aX aO aP aH aL aW cI cJ vn ct nm tp bt an f x0 o p0 (2 * ct) c0 h0 l0 a0 b0 fT fB wd) := hD
          refine lv_aload_n hx hb dX2_ranked_118 rfl (lv_at hl 1 rfl) ?_
          have hFc : ∀ q, va_A (mdW m0 aN aR aX aO aP aH aL aW cI cJ vn ct nm tp bt an f x0 o p0 (2 * ct) c0 h0 l0 a0 b0 fT fB wd) H.size q → A q := va_fall hD hS hA
          refine va_callv (va_runV (As := []) (rest := []) ⟨hx, hb, hml, hown, hts⟩ (c_X2_eliminateAll l dC dI H.size m0 aN aR aX aO aP aH aL aW cI cJ vn ct nm tp bt an f x0 o p0 (2 * ct) c0 h0 l0 a0 b0 fT fB wd (2 * ct) (KM nm vn ct) (okM_9 (KM_b hN hv)) (by omega) hi1) (cwV 0 hts gX2_ranked_X2_eliminateAll rfl rfl rfl (by decide +kernel) ⟨Nat.le_of_ble_eq_true rfl, Nat.le_of_ble_eq_true rfl⟩) ⟨fun a U g mk q => by obtain ⟨q0, q1, qP, qK, qD⟩ := q; exact ⟨q0, q1, qP, va_K.moved (u := U) (U := U.calling g mk a) (Vm.Alike.refl U.vm) qK, qD⟩, va_recv hK hP (ci := 2) (q0 := 0) rfl rfl, fun U hU hW => ⟨rfl, by rw [hU], by rw [hU]; exact hP, va_K.moved hW.alike hK, hD.weaken (fun _ _ _ _ => trivial)⟩⟩ rfl rfl hl.1 rfl (lv_room (Nat.le_of_ble_eq_true rfl)) dX2_ranked_119 ⟨(Nat.zero_le _), (Nat.zero_le _)⟩) hS (fun q _ h => hFc q h) hFc (fun v9 t H1 locs ht hvm hw hB hz1 hk1 hS => ?_)
          obtain ⟨hP1, hK1, hD1⟩ := hB
          rw [ht] at hP1
          clear hP hD hK
          have hK := va_K.moved hvm.symm hK1
          have hP := hP1
          have hD := hD1.weaken (B := A) (fun _ q _ h => hFc q.1 h)
          clear hP1 hD1 hK1 hFc hk1 hz1 ht hvm
          generalize H1 = H at hP hS ⊢
          obtain ⟨r2, f2, o2, x2, p2, h2, l2, a2, b2, c2⟩ := v9
          have hP : va_P (dC, dI) vwCl (mdW m0 aN aR aX aO aP aH aL aW cI cJ vn ct nm tp bt an f2 x2 o2 p2 r2 c2 h2 l2 a2 b2 fT fB wd) H := hP
          have hD : va_D A (mdW m0 aN aR aX aO aP aH aL aW cI cJ vn ct nm tp bt an f2 x2 o2 p2 r2 c2 h2 l2 a2 b2 fT fB wd) := hD
          have hw : RI (2 * ct) (KM nm vn ct) 9 r2 f2 o2 := hw
          have hrc9 : r2 ≤ 1200 := by obtain ⟨W2, q2, _⟩ := hw; exact q2.count (by omega)
          have h9 : ∀ a, a < 2 * ct → KM nm vn ct a 9 = 0 := fun a ha => by
            unfold KM
            by_cases q : a < ct
            · rw [if_pos q, mt_eq, if_neg (by omega), if_neg (by omega)]
            · rw [if_neg q, if_pos ha, if_neg (by omega), if_neg (by omega), if_neg (by omega)]
          have hpi := poss_iff hw (fun a ha => by rw [h9 a ha]; omega)
          rw [Cer_910 h9] at hpi
          clear hw
          refine lv_aload_n hx hb dX2_ranked_122 rfl (lv_at hl 1 rfl) ?_
          have hFc : ∀ q, va_A (mdW m0 aN aR aX aO aP aH aL aW cI cJ vn ct nm tp bt an f2 x2 o2 p2 r2 c2 h2 l2 a2 b2 fT fB wd) H.size q → A q := va_fall hD hS hA
          refine va_calli (va_runV (As := []) (rest := []) ⟨hx, hb, hml, hown, hts⟩ (c_X2_isPossible l dC dI H.size m0 aN aR aX aO aP aH aL aW cI cJ vn ct nm tp bt an f2 x2 o2 p2 r2 c2 h2 l2 a2 b2 fT fB wd hrc9) (cwV 0 hts gX2_ranked_X2_isPossible rfl rfl rfl (by decide +kernel) ⟨Nat.le_of_ble_eq_true rfl, Nat.le_of_ble_eq_true rfl⟩) ⟨fun a U g mk q => by obtain ⟨q0, q1, qP, qK, qD⟩ := q; exact ⟨q0, q1, qP, va_K.moved (u := U) (U := U.calling g mk a) (Vm.Alike.refl U.vm) qK, qD⟩, va_recv hK hP (ci := 2) (q0 := 0) rfl rfl, fun U hU hW => ⟨rfl, by rw [hU], by rw [hU]; exact hP, va_K.moved hW.alike hK, hD.weaken (fun _ _ _ _ => trivial)⟩⟩ rfl rfl hl.1 rfl (lv_room (Nat.le_of_ble_eq_true rfl)) dX2_ranked_123 ⟨(Nat.zero_le _), (Nat.zero_le _)⟩) hS (fun q _ h => hFc q h) hFc (fun r_123 v9 t H1 locs ht hvm hw hB hz1 hk1 hS => ?_)
          obtain ⟨hP1, hK1, hD1⟩ := hB
          rw [ht] at hP1
          clear hP hD hK
          have hK := va_K.moved hvm.symm hK1
          have hP := hP1
          have hD := hD1.weaken (B := A) (fun _ q _ h => hFc q.1 h)
          clear hP1 hD1 hK1 hFc hk1 hz1 ht hvm
          generalize H1 = H at hP hS ⊢
          rcases hw with ⟨rfl, hw⟩ | ⟨rfl, hw⟩
          · refine lv_if_ne (tgt := 133) hx hb dX2_ranked_126 (by decide) (fun _ => ?_) (fun c => absurd c (by decide))
            refine lv_iconst (v := nI 0) hx hb dX2_ranked_133 (by decide) ?_
            exact W.zret (v := (nI 0)) hx hb hr (by rfl) (fun t ht hW => ⟨⟨(nI 0), (r2, f2, o2, x2, p2, h2, l2, a2, b2, c2), rfl, Or.inr ⟨rfl, fun q => (hpi.mpr q) hw⟩, by rw [ht]; exact hP, va_K.moved hW.alike hK, hD⟩, hS.F ht⟩) hS.2.2 dX2_ranked_134
          · refine lv_if_ne (tgt := 133) hx hb dX2_ranked_126 (by decide) (fun c => absurd rfl c) (fun _ => ?_)
            refine lv_iconst (v := nI 1) hx hb dX2_ranked_129 (by decide) ?_
            refine lv_goto (tgt := 134) hx hb dX2_ranked_130 (by decide) ?_
            exact W.zret (v := (nI 1)) hx hb hr (by rfl) (fun t ht hW => ⟨⟨(nI 1), (r2, f2, o2, x2, p2, h2, l2, a2, b2, c2), rfl, Or.inl ⟨rfl, hpi.mp hw⟩, by rw [ht]; exact hP, va_K.moved hW.alike hK, hD⟩, hS.F ht⟩) hS.2.2 dX2_ranked_134
        · exact absurd (nI_le (by omega) (by omega)) c1
      | succ d ih =>
        intro k f o H locs ls hk hf ho hP hK hD hS hl
        refine lv_iload_n hx hb dX2_ranked_15 rfl (lv_at hl 0 rfl) ?_
        refine lv_aload_n hx hb dX2_ranked_16 rfl (lv_at hl 1 rfl) ?_
        refine va_get (D := (dC, dI)) (ci := 2) (v := .int (nI ct)) (C := RX2) (T := TX2) (N := 19) hx hb hts (fun _ h => List.mem_cons_of_mem _ (List.mem_append_right _ h)) hown hK hP 0 rfl rfl 1 (by decide) (hts (.fieldLink RX2 39 "RankFinderModel" "count" "I") (List.mem_of_getElem? (i := 1) rfl)) (fun _ h9 => h9) rfl dX2_ranked_17 ?_
        refine lv_icmp_ge (tgt := 118) hx hb dX2_ranked_20 (by decide) (fun c1 => ?_) (fun c1 => ?_)
        · exact absurd c1 (nI_ge (by omega) (by omega))
        · refine lv_aload_n hx hb dX2_ranked_23 rfl (lv_at hl 1 rfl) ?_
          have hFc : ∀ q, va_A (mdW m0 aN aR aX aO aP aH aL aW cI cJ vn ct nm tp bt an f x0 o p0 (ct + k) c0 h0 l0 a0 b0 fT fB wd) H.size q → A q := va_fall hD hS hA
          refine va_calli (va_runV (As := []) (rest := []) ⟨hx, hb, hml, hown, hts⟩ (c_X2_empty l dC dI H.size m0 aN aR aX aO aP aH aL aW cI cJ vn ct nm tp bt an f x0 o p0 (ct + k) c0 h0 l0 a0 b0 fT fB wd (by omega)) (cwV 0 hts gX2_ranked_X2_empty rfl rfl rfl (by decide +kernel) ⟨Nat.le_of_ble_eq_true rfl, Nat.le_of_ble_eq_true rfl⟩) ⟨fun a U g mk q => by obtain ⟨q0, q1, qP, qK, qD⟩ := q; exact ⟨q0, q1, qP, va_K.moved (u := U) (U := U.calling g mk a) (Vm.Alike.refl U.vm) qK, qD⟩, va_recv hK hP (ci := 2) (q0 := 0) rfl rfl, fun U hU hW => ⟨rfl, by rw [hU], by rw [hU]; exact hP, va_K.moved hW.alike hK, hD.weaken (fun _ _ _ _ => trivial)⟩⟩ rfl rfl hl.1 rfl (lv_room (Nat.le_of_ble_eq_true rfl)) dX2_ranked_24 ⟨(Nat.zero_le _), (Nat.zero_le _)⟩) hS (fun q _ h => hFc q h) hFc (fun r_24 v9 t H1 locs ht hvm hw hB hz1 hk1 hS => ?_)
          obtain ⟨hP1, hK1, hD1⟩ := hB
          rw [ht] at hP1
          clear hP hD hK
          have hK := va_K.moved hvm.symm hK1
          have hP := hP1
          have hD := hD1.weaken (B := A) (fun _ q _ h => hFc q.1 h)
          clear hP1 hD1 hK1 hFc hk1 hz1 ht hvm
          generalize H1 = H at hP hS ⊢
          subst hw
          have hP : va_P (dC, dI) vwCl (mdW m0 aN aR aX aO aP aH aL aW cI cJ vn ct nm tp bt an (zeF f (ct + k) 11) x0 (upd o (ct + k) (bitI (ct + k))) p0 (ct + k + 1) c0 h0 l0 a0 b0 fT fB wd) H := hP
          have hD : va_D A (mdW m0 aN aR aX aO aP aH aL aW cI cJ vn ct nm tp bt an (zeF f (ct + k) 11) x0 (upd o (ct + k) (bitI (ct + k))) p0 (ct + k + 1) c0 h0 l0 a0 b0 fT fB wd) := hD
          refine lv_istore_n (lv' := [(2, .int (nI (11 * (ct + k)))), (1, .int (nI k)), (0, .ref m0)]) hx hb dX2_ranked_27 rfl hl (by decide) rfl (fun ls hl => ?_)
          refine lv_iconst (v := nI 0) hx hb dX2_ranked_28 (by decide) ?_
          refine lv_istore_n (lv' := [(3, .int (nI 0)), (2, .int (nI (11 * (ct + k)))), (1, .int (nI k)), (0, .ref m0)]) hx hb dX2_ranked_29 rfl hl (by decide) rfl (fun ls hl => ?_)
          obtain ⟨hf1, hf2⟩ := rwI_ze hf
          have inner : ∀ (d2 i : Nat) (f : Nat → Int64) (H : Heap) (locs : List Loc) (ls : Array Slot), i + d2 = vn → rwI f (kmL nm vn ct) (ct + k) → (∀ j, j < 11 → f (11 * (ct + k) + j) = krP nm k i j) → va_P (dC, dI) vwCl (mdW m0 aN aR aX aO aP aH aL aW cI cJ vn ct nm tp bt an f x0 (upd o (ct + k) (bitI (ct + k))) p0 (ct + k + 1) c0 h0 l0 a0 b0 fT fB wd) H → va_K (dC, dI) vwCl [(cI, .int), (cJ, .long)] s → va_D A (mdW m0 aN aR aX aO aP aH aL aW cI cJ vn ct nm tp bt an f x0 (upd o (ct + k) (bitI (ct + k))) p0 (ct + k + 1) c0 h0 l0 a0 b0 fT fB wd) → va_S A s.heap H locs → lv_has ls 4 [(3, .int (nI i)), (2, .int (nI (11 * (ct + k)))), (1, .int (nI k)), (0, .ref m0)] → W p l e (headSpec wsX2_ranked ({ frames := 6, cells := 0, slots := 0, locals := 172 })).room s m #[.ref m0] below meth c H locs 0 0 (MQ below (va_Qi (fun (x : Int32) (v : Nat × (Nat → Int64) × (Nat → Int32) × (Nat → Int64) × (Nat → Int32) × (Nat → Int64) × (Nat → Int64) × Int64 × Int64 × Nat) => (x = 1 ∧ CerQ (2 * ct) 9 (KM nm vn ct)) ∨ (x = 0 ∧ ¬ CerQ (2 * ct) 9 (KM nm vn ct))) (fun v t => va_P (dC, dI) vwCl (mdW m0 aN aR aX aO aP aH aL aW cI cJ vn ct nm tp bt an v.2.1 v.2.2.2.1 v.2.2.1 v.2.2.2.2.1 v.1 v.2.2.2.2.2.2.2.2.2 v.2.2.2.2.2.1 v.2.2.2.2.2.2.1 v.2.2.2.2.2.2.2.1 v.2.2.2.2.2.2.2.2.1 fT fB wd) t.heap ∧ va_K (dC, dI) vwCl [(cI, .int), (cJ, .long)] t ∧ va_D A (mdW m0 aN aR aX aO aP aH aL aW cI cJ vn ct nm tp bt an v.2.1 v.2.2.2.1 v.2.2.1 v.2.2.2.2.1 v.1 v.2.2.2.2.2.2.2.2.2 v.2.2.2.2.2.1 v.2.2.2.2.2.2.1 v.2.2.2.2.2.2.2.1 v.2.2.2.2.2.2.2.2.1 fT fB wd)) A) #[.ref m0] s 0 0 A) (F0 m 30 ls []) := by
            clear hP hD hS hl hf hf1 hf2
            intro d2
            induction d2 with
            | zero =>
              intro i f H locs ls hi2 hf hfi hP hK hD hS hl
              refine lv_iload_n hx hb dX2_ranked_30 rfl (lv_at hl 0 rfl) ?_
              refine lv_aload_n hx hb dX2_ranked_31 rfl (lv_at hl 3 rfl) ?_
              refine va_get (D := (dC, dI)) (ci := 2) (v := .int (nI vn)) (C := RX2) (T := TX2) (N := 19) hx hb hts (fun _ h => List.mem_cons_of_mem _ (List.mem_append_right _ h)) hown hK hP 0 rfl rfl 0 (by decide) (hts (.fieldLink RX2 7 "RankFinderModel" "n" "I") (List.mem_of_getElem? (i := 2) rfl)) (fun _ h9 => h9) rfl dX2_ranked_32 ?_
              refine lv_icmp_ge (tgt := 112) hx hb dX2_ranked_35 (by decide) (fun c2 => ?_) (fun c2 => ?_)
              · obtain rfl : i = vn := by omega
                refine lv_iinc (v := nI (k + 1)) (lv' := [(1, .int (nI (k + 1))), (3, .int (nI i)), (2, .int (nI (11 * (ct + k)))), (0, .ref m0)]) hx hb dX2_ranked_112 hl (k := 2) rfl (nI_1 _) (by decide) rfl (fun ls hl => ?_)
                refine lv_goto (tgt := 15) hx hb dX2_ranked_115 (by decide) ?_
                exact ih (k + 1) f (upd o (ct + k) (bitI (ct + k))) H _ ls (by omega) (rwI_s (r := ct + k) hf (fun j hj => by rw [hfi j hj]; unfold kmL; rw [if_neg (by omega), show ct + k - ct = k by omega])) (fun a ha => by
                  unfold upd
                  by_cases e : a = ct + k
                  · subst e; rw [if_pos rfl]
                  · rw [if_neg e]; exact ho a (by omega)) hP hK hD hS (lv_sub hl [0, 3] rfl)
              · exact absurd (nI_le (by omega) (by omega)) c2
            | succ d2 ih2 =>
              intro i f H locs ls hi2 hf hfi hP hK hD hS hl
              refine lv_iload_n hx hb dX2_ranked_30 rfl (lv_at hl 0 rfl) ?_
              refine lv_aload_n hx hb dX2_ranked_31 rfl (lv_at hl 3 rfl) ?_
              refine va_get (D := (dC, dI)) (ci := 2) (v := .int (nI vn)) (C := RX2) (T := TX2) (N := 19) hx hb hts (fun _ h => List.mem_cons_of_mem _ (List.mem_append_right _ h)) hown hK hP 0 rfl rfl 0 (by decide) (hts (.fieldLink RX2 7 "RankFinderModel" "n" "I") (List.mem_of_getElem? (i := 2) rfl)) (fun _ h9 => h9) rfl dX2_ranked_32 ?_
              refine lv_icmp_ge (tgt := 112) hx hb dX2_ranked_35 (by decide) (fun c2 => ?_) (fun c2 => ?_)
              · exact absurd c2 (nI_ge (by omega) (by omega))
              · refine lv_aload_n hx hb dX2_ranked_38 rfl (lv_at hl 3 rfl) ?_
                refine va_get (D := (dC, dI)) (ci := 2) (v := .ref aR) (C := RX2) (T := TX2) (N := 19) hx hb hts (fun _ h => List.mem_cons_of_mem _ (List.mem_append_right _ h)) hown hK hP 0 rfl rfl 6 (by decide) (hts (.fieldLink RX2 17 "RankFinderModel" "rows" "[J") (List.mem_of_getElem? (i := 3) rfl)) (fun _ h9 => h9) rfl dX2_ranked_39 ?_
                refine lv_iload_n hx hb dX2_ranked_42 rfl (lv_at hl 1 rfl) ?_
                refine lv_iload_n hx hb dX2_ranked_43 rfl (lv_at hl 0 rfl) ?_
                refine lv_iadd hx hb dX2_ranked_44 ?_
                refine lv_topi (fun z_1 ez_1 => ?_)
                obtain rfl : z_1 = nI ((11 * (ct + k)) + i) := ez_1.trans (nI_add (11 * (ct + k)) i)
                refine lv_aload_n hx hb dX2_ranked_45 rfl (lv_at hl 3 rfl) ?_
                refine va_get (D := (dC, dI)) (ci := 2) (v := .ref aN) (C := RX2) (T := TX2) (N := 19) hx hb hts (fun _ h => List.mem_cons_of_mem _ (List.mem_append_right _ h)) hown hK hP 0 rfl rfl 2 (by decide) (hts (.fieldLink RX2 13 "RankFinderModel" "numbers" "[I") (List.mem_of_getElem? (i := 4) rfl)) (fun _ h9 => h9) rfl dX2_ranked_46 ?_
                refine lv_bipush (v := nI 7) hx hb dX2_ranked_49 (by decide) ?_
                refine lv_iload_n hx hb dX2_ranked_51 rfl (lv_at hl 2 rfl) ?_
                refine lv_imul hx hb dX2_ranked_52 ?_
                refine lv_topi (fun z_2 ez_2 => ?_)
                obtain rfl : z_2 = nI (7 * k) := ez_2.trans (pk_mul 7 k)
                refine lv_iload_n hx hb dX2_ranked_53 rfl (lv_at hl 0 rfl) ?_
                refine lv_iadd hx hb dX2_ranked_54 ?_
                refine lv_topi (fun z_3 ez_3 => ?_)
                obtain rfl : z_3 = nI ((7 * k) + i) := ez_3.trans (nI_add (7 * k) i)
                refine na_iald hx hb hK hP 1 0 rfl rfl (show 7 * k + i < 56 by omega) (by decide) dX2_ranked_55 ?_
                refine lv_ineg hx hb dX2_ranked_56 ?_
                refine lv_i2l hx hb dX2_ranked_57 rfl ?_
                refine na_last hx hb hK hP hD hS 2 1 rfl rfl (show 11 * (ct + k) + i < 13200 by omega) (by decide) dX2_ranked_58 (fun H locs hP hD hS => ?_)
                have hP : va_P (dC, dI) vwCl (mdW m0 aN aR aX aO aP aH aL aW cI cJ vn ct nm tp bt an (vp_updL f ((11 * (ct + k)) + i) (Int32.toInt64 (-(nm ((7 * k) + i))))) x0 (upd o (ct + k) (bitI (ct + k))) p0 (ct + k + 1) c0 h0 l0 a0 b0 fT fB wd) H := hP
                have hD : va_D A (mdW m0 aN aR aX aO aP aH aL aW cI cJ vn ct nm tp bt an (vp_updL f ((11 * (ct + k)) + i) (Int32.toInt64 (-(nm ((7 * k) + i))))) x0 (upd o (ct + k) (bitI (ct + k))) p0 (ct + k + 1) c0 h0 l0 a0 b0 fT fB wd) := hD
                refine lv_aload_n hx hb dX2_ranked_59 rfl (lv_at hl 3 rfl) ?_
                refine va_get (D := (dC, dI)) (ci := 2) (v := .ref aR) (C := RX2) (T := TX2) (N := 19) hx hb hts (fun _ h => List.mem_cons_of_mem _ (List.mem_append_right _ h)) hown hK hP 0 rfl rfl 6 (by decide) (hts (.fieldLink RX2 17 "RankFinderModel" "rows" "[J") (List.mem_of_getElem? (i := 3) rfl)) (fun _ h9 => h9) rfl dX2_ranked_60 ?_
                refine lv_iload_n hx hb dX2_ranked_63 rfl (lv_at hl 1 rfl) ?_
                refine lv_iconst (v := nI 3) hx hb dX2_ranked_64 (by decide) ?_
                refine lv_iadd hx hb dX2_ranked_65 ?_
                refine lv_topi (fun z_4 ez_4 => ?_)
                obtain rfl : z_4 = nI ((11 * (ct + k)) + 3) := ez_4.trans (nI_add (11 * (ct + k)) 3)
                refine lv_iload_n hx hb dX2_ranked_66 rfl (lv_at hl 0 rfl) ?_
                refine lv_iadd hx hb dX2_ranked_67 ?_
                refine lv_topi (fun z_5 ez_5 => ?_)
                obtain rfl : z_5 = nI (((11 * (ct + k)) + 3) + i) := ez_5.trans (nI_add ((11 * (ct + k)) + 3) i)
                refine lv_aload_n hx hb dX2_ranked_68 rfl (lv_at hl 3 rfl) ?_
                refine va_get (D := (dC, dI)) (ci := 2) (v := .ref aN) (C := RX2) (T := TX2) (N := 19) hx hb hts (fun _ h => List.mem_cons_of_mem _ (List.mem_append_right _ h)) hown hK hP 0 rfl rfl 2 (by decide) (hts (.fieldLink RX2 13 "RankFinderModel" "numbers" "[I") (List.mem_of_getElem? (i := 4) rfl)) (fun _ h9 => h9) rfl dX2_ranked_69 ?_
                refine lv_bipush (v := nI 7) hx hb dX2_ranked_72 (by decide) ?_
                refine lv_iload_n hx hb dX2_ranked_74 rfl (lv_at hl 2 rfl) ?_
                refine lv_imul hx hb dX2_ranked_75 ?_
                refine lv_topi (fun z_6 ez_6 => ?_)
                obtain rfl : z_6 = nI (7 * k) := ez_6.trans (pk_mul 7 k)
                refine lv_iload_n hx hb dX2_ranked_76 rfl (lv_at hl 0 rfl) ?_
                refine lv_iadd hx hb dX2_ranked_77 ?_
                refine lv_topi (fun z_7 ez_7 => ?_)
                obtain rfl : z_7 = nI ((7 * k) + i) := ez_7.trans (nI_add (7 * k) i)
                refine na_iald hx hb hK hP 1 0 rfl rfl (show 7 * k + i < 56 by omega) (by decide) dX2_ranked_78 ?_
                refine lv_i2l hx hb dX2_ranked_79 rfl ?_
                refine na_last hx hb hK hP hD hS 2 1 rfl rfl (show 11 * (ct + k) + 3 + i < 13200 by omega) (by decide) dX2_ranked_80 (fun H locs hP hD hS => ?_)
                have hP : va_P (dC, dI) vwCl (mdW m0 aN aR aX aO aP aH aL aW cI cJ vn ct nm tp bt an (vp_updL (vp_updL f ((11 * (ct + k)) + i) (Int32.toInt64 (-(nm ((7 * k) + i))))) (((11 * (ct + k)) + 3) + i) (Int32.toInt64 (nm ((7 * k) + i)))) x0 (upd o (ct + k) (bitI (ct + k))) p0 (ct + k + 1) c0 h0 l0 a0 b0 fT fB wd) H := hP
                have hD : va_D A (mdW m0 aN aR aX aO aP aH aL aW cI cJ vn ct nm tp bt an (vp_updL (vp_updL f ((11 * (ct + k)) + i) (Int32.toInt64 (-(nm ((7 * k) + i))))) (((11 * (ct + k)) + 3) + i) (Int32.toInt64 (nm ((7 * k) + i)))) x0 (upd o (ct + k) (bitI (ct + k))) p0 (ct + k + 1) c0 h0 l0 a0 b0 fT fB wd) := hD
                refine lv_aload_n hx hb dX2_ranked_81 rfl (lv_at hl 3 rfl) ?_
                refine va_get (D := (dC, dI)) (ci := 2) (v := .ref aR) (C := RX2) (T := TX2) (N := 19) hx hb hts (fun _ h => List.mem_cons_of_mem _ (List.mem_append_right _ h)) hown hK hP 0 rfl rfl 6 (by decide) (hts (.fieldLink RX2 17 "RankFinderModel" "rows" "[J") (List.mem_of_getElem? (i := 3) rfl)) (fun _ h9 => h9) rfl dX2_ranked_82 ?_
                refine lv_iload_n hx hb dX2_ranked_85 rfl (lv_at hl 1 rfl) ?_
                refine lv_bipush (v := nI 6) hx hb dX2_ranked_86 (by decide) ?_
                refine lv_iadd hx hb dX2_ranked_88 ?_
                refine lv_topi (fun z_8 ez_8 => ?_)
                obtain rfl : z_8 = nI ((11 * (ct + k)) + 6) := ez_8.trans (nI_add (11 * (ct + k)) 6)
                refine lv_iload_n hx hb dX2_ranked_89 rfl (lv_at hl 0 rfl) ?_
                refine lv_iadd hx hb dX2_ranked_90 ?_
                refine lv_topi (fun z_9 ez_9 => ?_)
                obtain rfl : z_9 = nI (((11 * (ct + k)) + 6) + i) := ez_9.trans (nI_add ((11 * (ct + k)) + 6) i)
                refine lv_aload_n hx hb dX2_ranked_91 rfl (lv_at hl 3 rfl) ?_
                refine va_get (D := (dC, dI)) (ci := 2) (v := .ref aN) (C := RX2) (T := TX2) (N := 19) hx hb hts (fun _ h => List.mem_cons_of_mem _ (List.mem_append_right _ h)) hown hK hP 0 rfl rfl 2 (by decide) (hts (.fieldLink RX2 13 "RankFinderModel" "numbers" "[I") (List.mem_of_getElem? (i := 4) rfl)) (fun _ h9 => h9) rfl dX2_ranked_92 ?_
                refine lv_bipush (v := nI 7) hx hb dX2_ranked_95 (by decide) ?_
                refine lv_iload_n hx hb dX2_ranked_97 rfl (lv_at hl 2 rfl) ?_
                refine lv_imul hx hb dX2_ranked_98 ?_
                refine lv_topi (fun z_10 ez_10 => ?_)
                obtain rfl : z_10 = nI (7 * k) := ez_10.trans (pk_mul 7 k)
                refine lv_iconst (v := nI 3) hx hb dX2_ranked_99 (by decide) ?_
                refine lv_iadd hx hb dX2_ranked_100 ?_
                refine lv_topi (fun z_11 ez_11 => ?_)
                obtain rfl : z_11 = nI ((7 * k) + 3) := ez_11.trans (nI_add (7 * k) 3)
                refine lv_iload_n hx hb dX2_ranked_101 rfl (lv_at hl 0 rfl) ?_
                refine lv_iadd hx hb dX2_ranked_102 ?_
                refine lv_topi (fun z_12 ez_12 => ?_)
                obtain rfl : z_12 = nI (((7 * k) + 3) + i) := ez_12.trans (nI_add ((7 * k) + 3) i)
                refine na_iald hx hb hK hP 1 0 rfl rfl (show 7 * k + 3 + i < 56 by omega) (by decide) dX2_ranked_103 ?_
                refine lv_i2l hx hb dX2_ranked_104 rfl ?_
                refine na_last hx hb hK hP hD hS 2 1 rfl rfl (show 11 * (ct + k) + 6 + i < 13200 by omega) (by decide) dX2_ranked_105 (fun H locs hP hD hS => ?_)
                have hP : va_P (dC, dI) vwCl (mdW m0 aN aR aX aO aP aH aL aW cI cJ vn ct nm tp bt an (vp_updL (vp_updL (vp_updL f ((11 * (ct + k)) + i) (Int32.toInt64 (-(nm ((7 * k) + i))))) (((11 * (ct + k)) + 3) + i) (Int32.toInt64 (nm ((7 * k) + i)))) (((11 * (ct + k)) + 6) + i) (Int32.toInt64 (nm (((7 * k) + 3) + i)))) x0 (upd o (ct + k) (bitI (ct + k))) p0 (ct + k + 1) c0 h0 l0 a0 b0 fT fB wd) H := hP
                have hD : va_D A (mdW m0 aN aR aX aO aP aH aL aW cI cJ vn ct nm tp bt an (vp_updL (vp_updL (vp_updL f ((11 * (ct + k)) + i) (Int32.toInt64 (-(nm ((7 * k) + i))))) (((11 * (ct + k)) + 3) + i) (Int32.toInt64 (nm ((7 * k) + i)))) (((11 * (ct + k)) + 6) + i) (Int32.toInt64 (nm (((7 * k) + 3) + i)))) x0 (upd o (ct + k) (bitI (ct + k))) p0 (ct + k + 1) c0 h0 l0 a0 b0 fT fB wd) := hD
                refine lv_iinc (v := nI (i + 1)) (lv' := [(3, .int (nI (i + 1))), (2, .int (nI (11 * (ct + k)))), (1, .int (nI k)), (0, .ref m0)]) hx hb dX2_ranked_106 hl (k := 0) rfl (nI_1 _) (by decide) rfl (fun ls hl => ?_)
                refine lv_goto (tgt := 30) hx hb dX2_ranked_109 (by decide) ?_
                exact ih2 (i + 1) _ H _ ls (by omega) (by rw [show 11 * (ct + k) + 3 + i = 11 * (ct + k) + (3 + i) by omega, show 11 * (ct + k) + 6 + i = 11 * (ct + k) + (6 + i) by omega]; exact rwI_up (rwI_up (rwI_up hf))) (krP_s (by omega) hfi) hP hK hD hS (lv_sub hl [0, 1, 2, 3] rfl)
          exact inner vn 0 _ H _ ls (by omega) hf1 (fun j hj => by rw [hf2 j hj]; unfold krP; rw [if_neg (by omega), if_neg (by omega), if_neg (by omega)]) hP hK hD hS (lv_sub hl [0, 1, 2, 3] rfl)
    exact loop ct 0 f1 o1 H _ ls (by omega) (fun a j ha hj => by rw [hf1 a j (by omega) hj]; unfold kmL; rw [if_pos (by omega)]) (fun i hi => ho1 i (by omega)) hP hK hD hS (lv_sub hl [0, 1] rfl)
