/-! ===== the reference: beginRows ===== -/
def brP (nm : Nat → Int32) (k i j : Nat) : Int64 := if j < i ∨ (3 ≤ j ∧ j < 3 + i) then (nm (7 * k + j)).toInt64 else 0
theorem brP_s {f : Nat → Int64} {nm : Nat → Int32} {k i : Nat} (hi : i < 3) (h : ∀ j, j < 11 → f (11 * k + j) = brP nm k i j) : ∀ j, j < 11 → vp_updL (vp_updL f (11 * k + i) (nm (7 * k + i)).toInt64) (11 * k + 3 + i) (nm (7 * k + 3 + i)).toInt64 (11 * k + j) = brP nm k (i + 1) j := fun j hj => by
  unfold vp_updL
  by_cases e : j = 3 + i
  · subst e
    rw [if_pos (by omega)]; unfold brP; rw [if_pos (by omega)]; rw [show 7 * k + 3 + i = 7 * k + (3 + i) by omega]
  · rw [if_neg (by omega)]
    by_cases e2 : j = i
    · subst e2
      rw [if_pos rfl]; unfold brP; rw [if_pos (by omega)]
    · rw [if_neg (by omega), h j hj]; unfold brP
      by_cases q : j < i ∨ (3 ≤ j ∧ j < 3 + i)
      · rw [if_pos q, if_pos (by omega)]
      · rw [if_neg q, if_neg (by omega)]
theorem brP_e {f : Nat → Int64} {nm : Nat → Int32} {k vn : Nat} (hv : vn ≤ 3) (h : ∀ j, j < 11 → f (11 * k + j) = brP nm k vn j) : ∀ j, j < 11 → vp_updL f (11 * k + 10) (nm (7 * k + 6)).toInt64 (11 * k + j) = brM nm vn k j := fun j hj => by
  unfold vp_updL brM
  by_cases e : j = 10
  · subst e
    rw [if_pos rfl, if_neg (by omega), if_pos rfl]
  · rw [if_neg (by omega), h j hj]; unfold brP; rw [if_neg e]
set_option maxHeartbeats 1000000 in
set_option maxRecDepth 100000 in
/-- beginRows() -/
theorem c_X2_beginRows (l : Launch) (dC : Nat → ClassId) (dI : Nat → Nat → Nat) (sz : Nat) (m0 aN aR aX aO aP aH aL aW : Nat) (cI cJ : ClassId) (vn ct : Nat) (nm : Nat → Int32) (tp bt : Int64) (an : Int32) (rw nx : Nat → Int64) (og no : Nat → Int32) (rc nc : Nat) (hgh lws : Nat → Int64) (dh dl fT fB : Int64) (wd : Nat → Int32) (hc : ct ≤ 8) (hv : vn ≤ 3) : Met l yX2_beginRows wsX2_beginRows ({ frames := 1, cells := 0, slots := 0, locals := 21 }) (va_Pc [.ref m0] (fun U => U.heap.size = sz ∧ va_P (dC, dI) vwCl (mdW m0 aN aR aX aO aP aH aL aW cI cJ vn ct nm tp bt an rw nx og no rc nc hgh lws dh dl fT fB wd) U.heap ∧ va_K (dC, dI) vwCl [(cI, .int), (cJ, .long)] U ∧ va_D (fun _ => True) (mdW m0 aN aR aX aO aP aH aL aW cI cJ vn ct nm tp bt an rw nx og no rc nc hgh lws dh dl fT fB wd))) (va_Qv (fun v : (Nat → Int64) × (Nat → Int32) => rwI v.1 (brM nm vn) ct ∧ ∀ k, k < ct → v.2 k = bitI k) (fun v t => va_P (dC, dI) vwCl (mdW m0 aN aR aX aO aP aH aL aW cI cJ vn ct nm tp bt an v.1 nx v.2 no ct nc hgh lws dh dl fT fB wd) t.heap ∧ va_K (dC, dI) vwCl [(cI, .int), (cJ, .long)] t ∧ va_D (va_A (mdW m0 aN aR aX aO aP aH aL aW cI cJ vn ct nm tp bt an rw nx og no rc nc hgh lws dh dl fT fB wd) sz) (mdW m0 aN aR aX aO aP aH aL aW cI cJ vn ct nm tp bt an v.1 nx v.2 no ct nc hgh lws dh dl fT fB wd)) (va_A (mdW m0 aN aR aX aO aP aH aL aW cI cJ vn ct nm tp bt an rw nx og no rc nc hgh lws dh dl fT fB wd) sz)) 0 0 (va_A (mdW m0 aN aR aX aO aP aH aL aW cI cJ vn ct nm tp bt an rw nx og no rc nc hgh lws dh dl fT fB wd) sz) := by
  refine Met.ofW (cc := cX2_beginRows) (maxL := 4) (ret := none) (by decide) rfl ?_
  intro p e s m args below meth c s₁ B hml hv
  obtain ⟨rfl, hsz, hP, hK, hD0⟩ := hv
  have hx := B.exec
  have hb := B.bytes
  have hr := B.returns
  have hts := atoms_spec (ws := wsX2_beginRows) B.pre
  have hown : s.vm.findClass RX2 = some m.cls := findClass_of_methodNamed B.named
  subst hsz
  have hD := hD0.self (sz := s.heap.size)
  clear hD0
  generalize hAe : va_A (mdW m0 aN aR aX aO aP aH aL aW cI cJ vn ct nm tp bt an rw nx og no rc nc hgh lws dh dl fT fB wd) s.heap.size = A at hD ⊢
  have hA : ∀ q : Nat, s.heap.size ≤ q → A q := fun q h => by rw [← hAe]; exact Or.inr h
  have hl := lv_entry ([.ref m0]) (n := 4) (Nat.le_of_ble_eq_true rfl)
  rw [lg_entry_eq]
  generalize (lg_sl ([.ref m0]) ++ List.replicate (4 - (lg_sl ([.ref m0])).length) Slot.unset).toArray = ls at hl ⊢
  have hl : lv_has ls 4 [(0, .ref m0)] := hl
  have hP : va_P (dC, dI) vwCl (mdW m0 aN aR aX aO aP aH aL aW cI cJ vn ct nm tp bt an rw nx og no rc nc hgh lws dh dl fT fB wd) s.heap := hP
  obtain ⟨H, hH⟩ : ∃ H, H = s.heap := ⟨_, rfl⟩
  have hS : va_S A s.heap H [] := by rw [hH]; exact va_S.rf
  rw [← hH] at hP ⊢
  refine lv_aload_n hx hb dX2_beginRows_0 rfl (lv_at hl 0 rfl) ?_
  refine lv_iconst (v := nI 0) hx hb dX2_beginRows_1 (by decide) ?_
  refine va_put (D := (dC, dI)) (ci := 2) (v := .int (nI 0)) (ty := .int) (C := RX2) (T := TX2) (N := 19) hx hb hts (fun _ h => List.mem_cons_of_mem _ (List.mem_append_right _ h)) tyX2 tyX2_ok nmX2 hown hK hP hD hS 0 rfl rfl 10 (by decide) (hts (.fieldLink RX2 46 "RankFinderModel" "rowCount" "I") (List.mem_of_getElem? (i := 1) rfl)) (fun _ h9 => h9) rfl (by decide +kernel) rfl rfl (Nat.le_of_ble_eq_true rfl) dX2_beginRows_2 (fun H locs hP hD hS => ?_)
  have hP : va_P (dC, dI) vwCl (mdW m0 aN aR aX aO aP aH aL aW cI cJ vn ct nm tp bt an rw nx og no 0 nc hgh lws dh dl fT fB wd) H := hP
  have hD : va_D A (mdW m0 aN aR aX aO aP aH aL aW cI cJ vn ct nm tp bt an rw nx og no 0 nc hgh lws dh dl fT fB wd) := hD
  refine lv_iconst (v := nI 0) hx hb dX2_beginRows_5 (by decide) ?_
  refine lv_istore_n (lv' := [(1, .int (nI 0)), (0, .ref m0)]) hx hb dX2_beginRows_6 rfl hl (by decide) rfl (fun ls hl => ?_)
  have loop : ∀ (d k : Nat) (f : Nat → Int64) (o : Nat → Int32) (H : Heap) (locs : List Loc) (ls : Array Slot), k + d = ct → rwI f (brM nm vn) k → (∀ i, i < k → o i = bitI i) → va_P (dC, dI) vwCl (mdW m0 aN aR aX aO aP aH aL aW cI cJ vn ct nm tp bt an f nx o no k nc hgh lws dh dl fT fB wd) H → va_K (dC, dI) vwCl [(cI, .int), (cJ, .long)] s → va_D A (mdW m0 aN aR aX aO aP aH aL aW cI cJ vn ct nm tp bt an f nx o no k nc hgh lws dh dl fT fB wd) → va_S A s.heap H locs → lv_has ls 4 [(1, .int (nI k)), (0, .ref m0)] → W p l e (headSpec wsX2_beginRows ({ frames := 1, cells := 0, slots := 0, locals := 21 })).room s m #[.ref m0] below meth c H locs 0 0 (MQ below (va_Qv (fun v : (Nat → Int64) × (Nat → Int32) => rwI v.1 (brM nm vn) ct ∧ ∀ k, k < ct → v.2 k = bitI k) (fun v t => va_P (dC, dI) vwCl (mdW m0 aN aR aX aO aP aH aL aW cI cJ vn ct nm tp bt an v.1 nx v.2 no ct nc hgh lws dh dl fT fB wd) t.heap ∧ va_K (dC, dI) vwCl [(cI, .int), (cJ, .long)] t ∧ va_D A (mdW m0 aN aR aX aO aP aH aL aW cI cJ vn ct nm tp bt an v.1 nx v.2 no ct nc hgh lws dh dl fT fB wd)) A) #[.ref m0] s 0 0 A) (F0 m 7 ls []) := by
    clear hP hK hD hS hl
    intro d
    induction d with
    | zero =>
      intro k f o H locs ls hk hf ho hP hK hD hS hl
      refine lv_iload_n hx hb dX2_beginRows_7 rfl (lv_at hl 0 rfl) ?_
      refine lv_aload_n hx hb dX2_beginRows_8 rfl (lv_at hl 1 rfl) ?_
      refine va_get (D := (dC, dI)) (ci := 2) (v := .int (nI ct)) (C := RX2) (T := TX2) (N := 19) hx hb hts (fun _ h => List.mem_cons_of_mem _ (List.mem_append_right _ h)) hown hK hP 0 rfl rfl 1 (by decide) (hts (.fieldLink RX2 39 "RankFinderModel" "count" "I") (List.mem_of_getElem? (i := 2) rfl)) (fun _ h9 => h9) rfl dX2_beginRows_9 ?_
      refine lv_icmp_ge (tgt := 108) hx hb dX2_beginRows_12 (by decide) (fun c1 => ?_) (fun c1 => ?_)
      · obtain rfl : k = ct := by omega
        exact W.vret hx hb hr (fun t ht hW => ⟨⟨(f, o), rfl, ⟨hf, ho⟩, by rw [ht]; exact hP, va_K.moved hW.alike hK, hD⟩, hS.F ht⟩) hS.2.2 dX2_beginRows_108
      · exact absurd (nI_le (by omega) (by omega)) c1
    | succ d ih =>
      intro k f o H locs ls hk hf ho hP hK hD hS hl
      refine lv_iload_n hx hb dX2_beginRows_7 rfl (lv_at hl 0 rfl) ?_
      refine lv_aload_n hx hb dX2_beginRows_8 rfl (lv_at hl 1 rfl) ?_
      refine va_get (D := (dC, dI)) (ci := 2) (v := .int (nI ct)) (C := RX2) (T := TX2) (N := 19) hx hb hts (fun _ h => List.mem_cons_of_mem _ (List.mem_append_right _ h)) hown hK hP 0 rfl rfl 1 (by decide) (hts (.fieldLink RX2 39 "RankFinderModel" "count" "I") (List.mem_of_getElem? (i := 2) rfl)) (fun _ h9 => h9) rfl dX2_beginRows_9 ?_
      refine lv_icmp_ge (tgt := 108) hx hb dX2_beginRows_12 (by decide) (fun c1 => ?_) (fun c1 => ?_)
      · exact absurd c1 (nI_ge (by omega) (by omega))
      · refine lv_aload_n hx hb dX2_beginRows_15 rfl (lv_at hl 1 rfl) ?_
        have hFc : ∀ q, va_A (mdW m0 aN aR aX aO aP aH aL aW cI cJ vn ct nm tp bt an f nx o no k nc hgh lws dh dl fT fB wd) H.size q → A q := va_fall hD hS hA
        refine va_calli (va_runV (As := []) (rest := []) ⟨hx, hb, hml, hown, hts⟩ (c_X2_empty l dC dI H.size m0 aN aR aX aO aP aH aL aW cI cJ vn ct nm tp bt an f nx o no k nc hgh lws dh dl fT fB wd (by omega)) (cwV 0 hts gX2_beginRows_X2_empty rfl rfl rfl (by decide +kernel) ⟨Nat.le_of_ble_eq_true rfl, Nat.le_of_ble_eq_true rfl⟩) ⟨fun a U g mk q => by obtain ⟨q0, q1, qP, qK, qD⟩ := q; exact ⟨q0, q1, qP, va_K.moved (u := U) (U := U.calling g mk a) (Vm.Alike.refl U.vm) qK, qD⟩, va_recv hK hP (ci := 2) (q0 := 0) rfl rfl, fun U hU hW => ⟨rfl, by rw [hU], by rw [hU]; exact hP, va_K.moved hW.alike hK, hD.weaken (fun _ _ _ _ => trivial)⟩⟩ rfl rfl hl.1 rfl (lv_room (Nat.le_of_ble_eq_true rfl)) dX2_beginRows_16 ⟨(Nat.zero_le _), (Nat.zero_le _)⟩) hS (fun q _ h => hFc q h) hFc (fun r_16 v9 t H1 locs ht hvm hw hB hz1 hk1 hS => ?_)
        obtain ⟨hP1, hK1, hD1⟩ := hB
        rw [ht] at hP1
        clear hP hD hK
        have hK := va_K.moved hvm.symm hK1
        have hP := hP1
        have hD := hD1.weaken (B := A) (fun _ q _ h => hFc q.1 h)
        clear hP1 hD1 hK1 hFc hk1 hz1 ht hvm
        generalize H1 = H at hP hS ⊢
        subst hw
        have hP : va_P (dC, dI) vwCl (mdW m0 aN aR aX aO aP aH aL aW cI cJ vn ct nm tp bt an (zeF f k 11) nx (upd o k (bitI k)) no (k + 1) nc hgh lws dh dl fT fB wd) H := hP
        have hD : va_D A (mdW m0 aN aR aX aO aP aH aL aW cI cJ vn ct nm tp bt an (zeF f k 11) nx (upd o k (bitI k)) no (k + 1) nc hgh lws dh dl fT fB wd) := hD
        refine lv_istore_n (lv' := [(2, .int (nI (11 * k))), (1, .int (nI k)), (0, .ref m0)]) hx hb dX2_beginRows_19 rfl hl (by decide) rfl (fun ls hl => ?_)
        refine lv_iconst (v := nI 0) hx hb dX2_beginRows_20 (by decide) ?_
        refine lv_istore_n (lv' := [(3, .int (nI 0)), (2, .int (nI (11 * k))), (1, .int (nI k)), (0, .ref m0)]) hx hb dX2_beginRows_21 rfl hl (by decide) rfl (fun ls hl => ?_)
        obtain ⟨hf1, hf2⟩ := rwI_ze hf
        have inner : ∀ (d2 i : Nat) (f : Nat → Int64) (H : Heap) (locs : List Loc) (ls : Array Slot), i + d2 = vn → rwI f (brM nm vn) k → (∀ j, j < 11 → f (11 * k + j) = brP nm k i j) → va_P (dC, dI) vwCl (mdW m0 aN aR aX aO aP aH aL aW cI cJ vn ct nm tp bt an f nx (upd o k (bitI k)) no (k + 1) nc hgh lws dh dl fT fB wd) H → va_K (dC, dI) vwCl [(cI, .int), (cJ, .long)] s → va_D A (mdW m0 aN aR aX aO aP aH aL aW cI cJ vn ct nm tp bt an f nx (upd o k (bitI k)) no (k + 1) nc hgh lws dh dl fT fB wd) → va_S A s.heap H locs → lv_has ls 4 [(3, .int (nI i)), (2, .int (nI (11 * k))), (1, .int (nI k)), (0, .ref m0)] → W p l e (headSpec wsX2_beginRows ({ frames := 1, cells := 0, slots := 0, locals := 21 })).room s m #[.ref m0] below meth c H locs 0 0 (MQ below (va_Qv (fun v : (Nat → Int64) × (Nat → Int32) => rwI v.1 (brM nm vn) ct ∧ ∀ k, k < ct → v.2 k = bitI k) (fun v t => va_P (dC, dI) vwCl (mdW m0 aN aR aX aO aP aH aL aW cI cJ vn ct nm tp bt an v.1 nx v.2 no ct nc hgh lws dh dl fT fB wd) t.heap ∧ va_K (dC, dI) vwCl [(cI, .int), (cJ, .long)] t ∧ va_D A (mdW m0 aN aR aX aO aP aH aL aW cI cJ vn ct nm tp bt an v.1 nx v.2 no ct nc hgh lws dh dl fT fB wd)) A) #[.ref m0] s 0 0 A) (F0 m 22 ls []) := by
          clear hP hD hS hl hf hf1 hf2
          intro d2
          induction d2 with
          | zero =>
            intro i f H locs ls hi2 hf hfi hP hK hD hS hl
            refine lv_iload_n hx hb dX2_beginRows_22 rfl (lv_at hl 0 rfl) ?_
            refine lv_aload_n hx hb dX2_beginRows_23 rfl (lv_at hl 3 rfl) ?_
            refine va_get (D := (dC, dI)) (ci := 2) (v := .int (nI vn)) (C := RX2) (T := TX2) (N := 19) hx hb hts (fun _ h => List.mem_cons_of_mem _ (List.mem_append_right _ h)) hown hK hP 0 rfl rfl 0 (by decide) (hts (.fieldLink RX2 7 "RankFinderModel" "n" "I") (List.mem_of_getElem? (i := 3) rfl)) (fun _ h9 => h9) rfl dX2_beginRows_24 ?_
            refine lv_icmp_ge (tgt := 80) hx hb dX2_beginRows_27 (by decide) (fun c2 => ?_) (fun c2 => ?_)
            · obtain rfl : i = vn := by omega
              refine lv_aload_n hx hb dX2_beginRows_80 rfl (lv_at hl 3 rfl) ?_
              refine va_get (D := (dC, dI)) (ci := 2) (v := .ref aR) (C := RX2) (T := TX2) (N := 19) hx hb hts (fun _ h => List.mem_cons_of_mem _ (List.mem_append_right _ h)) hown hK hP 0 rfl rfl 6 (by decide) (hts (.fieldLink RX2 17 "RankFinderModel" "rows" "[J") (List.mem_of_getElem? (i := 4) rfl)) (fun _ h9 => h9) rfl dX2_beginRows_81 ?_
              refine lv_iload_n hx hb dX2_beginRows_84 rfl (lv_at hl 1 rfl) ?_
              refine lv_bipush (v := nI 10) hx hb dX2_beginRows_85 (by decide) ?_
              refine lv_iadd hx hb dX2_beginRows_87 ?_
              refine lv_topi (fun z_1 ez_1 => ?_)
              obtain rfl : z_1 = nI ((11 * k) + 10) := ez_1.trans (nI_add (11 * k) 10)
              refine lv_aload_n hx hb dX2_beginRows_88 rfl (lv_at hl 3 rfl) ?_
              refine va_get (D := (dC, dI)) (ci := 2) (v := .ref aN) (C := RX2) (T := TX2) (N := 19) hx hb hts (fun _ h => List.mem_cons_of_mem _ (List.mem_append_right _ h)) hown hK hP 0 rfl rfl 2 (by decide) (hts (.fieldLink RX2 13 "RankFinderModel" "numbers" "[I") (List.mem_of_getElem? (i := 5) rfl)) (fun _ h9 => h9) rfl dX2_beginRows_89 ?_
              refine lv_bipush (v := nI 7) hx hb dX2_beginRows_92 (by decide) ?_
              refine lv_iload_n hx hb dX2_beginRows_94 rfl (lv_at hl 2 rfl) ?_
              refine lv_imul hx hb dX2_beginRows_95 ?_
              refine lv_topi (fun z_2 ez_2 => ?_)
              obtain rfl : z_2 = nI (7 * k) := ez_2.trans (pk_mul 7 k)
              refine lv_bipush (v := nI 6) hx hb dX2_beginRows_96 (by decide) ?_
              refine lv_iadd hx hb dX2_beginRows_98 ?_
              refine lv_topi (fun z_3 ez_3 => ?_)
              obtain rfl : z_3 = nI ((7 * k) + 6) := ez_3.trans (nI_add (7 * k) 6)
              refine na_iald hx hb hK hP 1 0 rfl rfl (show 7 * k + 6 < 56 by omega) (by decide) dX2_beginRows_99 ?_
              refine lv_i2l hx hb dX2_beginRows_100 rfl ?_
              refine na_last hx hb hK hP hD hS 2 1 rfl rfl (show 11 * k + 10 < 13200 by omega) (by decide) dX2_beginRows_101 (fun H locs hP hD hS => ?_)
              have hP : va_P (dC, dI) vwCl (mdW m0 aN aR aX aO aP aH aL aW cI cJ i ct nm tp bt an (vp_updL f ((11 * k) + 10) (Int32.toInt64 (nm ((7 * k) + 6)))) nx (upd o k (bitI k)) no (k + 1) nc hgh lws dh dl fT fB wd) H := hP
              have hD : va_D A (mdW m0 aN aR aX aO aP aH aL aW cI cJ i ct nm tp bt an (vp_updL f ((11 * k) + 10) (Int32.toInt64 (nm ((7 * k) + 6)))) nx (upd o k (bitI k)) no (k + 1) nc hgh lws dh dl fT fB wd) := hD
              refine lv_iinc (v := nI (k + 1)) (lv' := [(1, .int (nI (k + 1))), (3, .int (nI i)), (2, .int (nI (11 * k))), (0, .ref m0)]) hx hb dX2_beginRows_102 hl (k := 2) rfl (nI_1 _) (by decide) rfl (fun ls hl => ?_)
              refine lv_goto (tgt := 7) hx hb dX2_beginRows_105 (by decide) ?_
              exact ih (k + 1) _ _ H _ ls (by omega) (rwI_s (rwI_up hf) (brP_e hv hfi)) (fun a ha => by
                unfold upd
                by_cases e : a = k
                · subst e; rw [if_pos rfl]
                · rw [if_neg e]; exact ho a (by omega)) hP hK hD hS (lv_sub hl [0, 3] rfl)
            · exact absurd (nI_le (by omega) (by omega)) c2
          | succ d2 ih2 =>
            intro i f H locs ls hi2 hf hfi hP hK hD hS hl
            refine lv_iload_n hx hb dX2_beginRows_22 rfl (lv_at hl 0 rfl) ?_
            refine lv_aload_n hx hb dX2_beginRows_23 rfl (lv_at hl 3 rfl) ?_
            refine va_get (D := (dC, dI)) (ci := 2) (v := .int (nI vn)) (C := RX2) (T := TX2) (N := 19) hx hb hts (fun _ h => List.mem_cons_of_mem _ (List.mem_append_right _ h)) hown hK hP 0 rfl rfl 0 (by decide) (hts (.fieldLink RX2 7 "RankFinderModel" "n" "I") (List.mem_of_getElem? (i := 3) rfl)) (fun _ h9 => h9) rfl dX2_beginRows_24 ?_
            refine lv_icmp_ge (tgt := 80) hx hb dX2_beginRows_27 (by decide) (fun c2 => ?_) (fun c2 => ?_)
            · exact absurd c2 (nI_ge (by omega) (by omega))
            · refine lv_aload_n hx hb dX2_beginRows_30 rfl (lv_at hl 3 rfl) ?_
              refine va_get (D := (dC, dI)) (ci := 2) (v := .ref aR) (C := RX2) (T := TX2) (N := 19) hx hb hts (fun _ h => List.mem_cons_of_mem _ (List.mem_append_right _ h)) hown hK hP 0 rfl rfl 6 (by decide) (hts (.fieldLink RX2 17 "RankFinderModel" "rows" "[J") (List.mem_of_getElem? (i := 4) rfl)) (fun _ h9 => h9) rfl dX2_beginRows_31 ?_
              refine lv_iload_n hx hb dX2_beginRows_34 rfl (lv_at hl 1 rfl) ?_
              refine lv_iload_n hx hb dX2_beginRows_35 rfl (lv_at hl 0 rfl) ?_
              refine lv_iadd hx hb dX2_beginRows_36 ?_
              refine lv_topi (fun z_1 ez_1 => ?_)
              obtain rfl : z_1 = nI ((11 * k) + i) := ez_1.trans (nI_add (11 * k) i)
              refine lv_aload_n hx hb dX2_beginRows_37 rfl (lv_at hl 3 rfl) ?_
              refine va_get (D := (dC, dI)) (ci := 2) (v := .ref aN) (C := RX2) (T := TX2) (N := 19) hx hb hts (fun _ h => List.mem_cons_of_mem _ (List.mem_append_right _ h)) hown hK hP 0 rfl rfl 2 (by decide) (hts (.fieldLink RX2 13 "RankFinderModel" "numbers" "[I") (List.mem_of_getElem? (i := 5) rfl)) (fun _ h9 => h9) rfl dX2_beginRows_38 ?_
              refine lv_bipush (v := nI 7) hx hb dX2_beginRows_41 (by decide) ?_
              refine lv_iload_n hx hb dX2_beginRows_43 rfl (lv_at hl 2 rfl) ?_
              refine lv_imul hx hb dX2_beginRows_44 ?_
              refine lv_topi (fun z_2 ez_2 => ?_)
              obtain rfl : z_2 = nI (7 * k) := ez_2.trans (pk_mul 7 k)
              refine lv_iload_n hx hb dX2_beginRows_45 rfl (lv_at hl 0 rfl) ?_
              refine lv_iadd hx hb dX2_beginRows_46 ?_
              refine lv_topi (fun z_3 ez_3 => ?_)
              obtain rfl : z_3 = nI ((7 * k) + i) := ez_3.trans (nI_add (7 * k) i)
              refine na_iald hx hb hK hP 1 0 rfl rfl (show 7 * k + i < 56 by omega) (by decide) dX2_beginRows_47 ?_
              refine lv_i2l hx hb dX2_beginRows_48 rfl ?_
              refine na_last hx hb hK hP hD hS 2 1 rfl rfl (show 11 * k + i < 13200 by omega) (by decide) dX2_beginRows_49 (fun H locs hP hD hS => ?_)
              have hP : va_P (dC, dI) vwCl (mdW m0 aN aR aX aO aP aH aL aW cI cJ vn ct nm tp bt an (vp_updL f ((11 * k) + i) (Int32.toInt64 (nm ((7 * k) + i)))) nx (upd o k (bitI k)) no (k + 1) nc hgh lws dh dl fT fB wd) H := hP
              have hD : va_D A (mdW m0 aN aR aX aO aP aH aL aW cI cJ vn ct nm tp bt an (vp_updL f ((11 * k) + i) (Int32.toInt64 (nm ((7 * k) + i)))) nx (upd o k (bitI k)) no (k + 1) nc hgh lws dh dl fT fB wd) := hD
              refine lv_aload_n hx hb dX2_beginRows_50 rfl (lv_at hl 3 rfl) ?_
              refine va_get (D := (dC, dI)) (ci := 2) (v := .ref aR) (C := RX2) (T := TX2) (N := 19) hx hb hts (fun _ h => List.mem_cons_of_mem _ (List.mem_append_right _ h)) hown hK hP 0 rfl rfl 6 (by decide) (hts (.fieldLink RX2 17 "RankFinderModel" "rows" "[J") (List.mem_of_getElem? (i := 4) rfl)) (fun _ h9 => h9) rfl dX2_beginRows_51 ?_
              refine lv_iload_n hx hb dX2_beginRows_54 rfl (lv_at hl 1 rfl) ?_
              refine lv_iconst (v := nI 3) hx hb dX2_beginRows_55 (by decide) ?_
              refine lv_iadd hx hb dX2_beginRows_56 ?_
              refine lv_topi (fun z_4 ez_4 => ?_)
              obtain rfl : z_4 = nI ((11 * k) + 3) := ez_4.trans (nI_add (11 * k) 3)
              refine lv_iload_n hx hb dX2_beginRows_57 rfl (lv_at hl 0 rfl) ?_
              refine lv_iadd hx hb dX2_beginRows_58 ?_
              refine lv_topi (fun z_5 ez_5 => ?_)
              obtain rfl : z_5 = nI (((11 * k) + 3) + i) := ez_5.trans (nI_add ((11 * k) + 3) i)
              refine lv_aload_n hx hb dX2_beginRows_59 rfl (lv_at hl 3 rfl) ?_
              refine va_get (D := (dC, dI)) (ci := 2) (v := .ref aN) (C := RX2) (T := TX2) (N := 19) hx hb hts (fun _ h => List.mem_cons_of_mem _ (List.mem_append_right _ h)) hown hK hP 0 rfl rfl 2 (by decide) (hts (.fieldLink RX2 13 "RankFinderModel" "numbers" "[I") (List.mem_of_getElem? (i := 5) rfl)) (fun _ h9 => h9) rfl dX2_beginRows_60 ?_
              refine lv_bipush (v := nI 7) hx hb dX2_beginRows_63 (by decide) ?_
              refine lv_iload_n hx hb dX2_beginRows_65 rfl (lv_at hl 2 rfl) ?_
              refine lv_imul hx hb dX2_beginRows_66 ?_
              refine lv_topi (fun z_6 ez_6 => ?_)
              obtain rfl : z_6 = nI (7 * k) := ez_6.trans (pk_mul 7 k)
              refine lv_iconst (v := nI 3) hx hb dX2_beginRows_67 (by decide) ?_
              refine lv_iadd hx hb dX2_beginRows_68 ?_
              refine lv_topi (fun z_7 ez_7 => ?_)
              obtain rfl : z_7 = nI ((7 * k) + 3) := ez_7.trans (nI_add (7 * k) 3)
              refine lv_iload_n hx hb dX2_beginRows_69 rfl (lv_at hl 0 rfl) ?_
              refine lv_iadd hx hb dX2_beginRows_70 ?_
              refine lv_topi (fun z_8 ez_8 => ?_)
              obtain rfl : z_8 = nI (((7 * k) + 3) + i) := ez_8.trans (nI_add ((7 * k) + 3) i)
              refine na_iald hx hb hK hP 1 0 rfl rfl (show 7 * k + 3 + i < 56 by omega) (by decide) dX2_beginRows_71 ?_
              refine lv_i2l hx hb dX2_beginRows_72 rfl ?_
              refine na_last hx hb hK hP hD hS 2 1 rfl rfl (show 11 * k + 3 + i < 13200 by omega) (by decide) dX2_beginRows_73 (fun H locs hP hD hS => ?_)
              have hP : va_P (dC, dI) vwCl (mdW m0 aN aR aX aO aP aH aL aW cI cJ vn ct nm tp bt an (vp_updL (vp_updL f ((11 * k) + i) (Int32.toInt64 (nm ((7 * k) + i)))) (((11 * k) + 3) + i) (Int32.toInt64 (nm (((7 * k) + 3) + i)))) nx (upd o k (bitI k)) no (k + 1) nc hgh lws dh dl fT fB wd) H := hP
              have hD : va_D A (mdW m0 aN aR aX aO aP aH aL aW cI cJ vn ct nm tp bt an (vp_updL (vp_updL f ((11 * k) + i) (Int32.toInt64 (nm ((7 * k) + i)))) (((11 * k) + 3) + i) (Int32.toInt64 (nm (((7 * k) + 3) + i)))) nx (upd o k (bitI k)) no (k + 1) nc hgh lws dh dl fT fB wd) := hD
              refine lv_iinc (v := nI (i + 1)) (lv' := [(3, .int (nI (i + 1))), (2, .int (nI (11 * k))), (1, .int (nI k)), (0, .ref m0)]) hx hb dX2_beginRows_74 hl (k := 0) rfl (nI_1 _) (by decide) rfl (fun ls hl => ?_)
              refine lv_goto (tgt := 22) hx hb dX2_beginRows_77 (by decide) ?_
              exact ih2 (i + 1) _ H _ ls (by omega) (by rw [show 11 * k + 3 + i = 11 * k + (3 + i) by omega]; exact rwI_up (rwI_up hf)) (brP_s (by omega) hfi) hP hK hD hS (lv_sub hl [0, 1, 2, 3] rfl)
        exact inner vn 0 _ H _ ls (by omega) hf1 (fun j hj => by rw [hf2 j hj]; unfold brP; rw [if_neg (by omega)]) hP hK hD hS (lv_sub hl [0, 1, 2, 3] rfl)
  exact loop ct 0 rw og H _ ls (by omega) (fun a j ha => by omega) (fun i hi => by omega) hP hK hD hS (lv_sub hl [0, 1] rfl)
