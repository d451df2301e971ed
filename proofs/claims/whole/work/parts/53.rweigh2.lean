/-! ===== RankFinder: weighRanking ===== -/
set_option maxHeartbeats 1000000 in
set_option maxRecDepth 100000 in
/-- weighRanking() -/
theorem c_X1_weighRanking (l : Launch) (dC : Nat → ClassId) (dI : Nat → Nat → Nat) (sz : Nat) (p0 qt qg h0 : Nat) (rt : Nat → Nat) (cB cI cA cJ : ClassId) (qc qh : Nat) (r : Nat → Nat) (vn ct : Nat) (ft fb : Int64) (gl : Nat → Int32) (T : Nat → Nat → Int32) (me nw : Nat) (u : Int64) (tw : Int32) (iv : Int64) (hd : Nat → Int32) (M : Nat → Nat → Int64) (hv1 : 1 ≤ vn) (hv3 : vn ≤ 3) (hc : ct ≤ 8) : Met l yX1_weighRanking wsX1_weighRanking ({ frames := 3, cells := 0, slots := 0, locals := 71 }) (va_Pc [.ref p0] (fun U => U.heap.size = sz ∧ va_P (dC, dI) vwCl (rfX p0 qt qg h0 rt cB cI vn ct ft fb gl T ++ (wgW h0 qc qh r cA cI cJ me nw u tw iv hd M)) U.heap ∧ va_K (dC, dI) vwCl ((cB, .array .int) :: (cI, .int) :: wgT cA cI cJ) U ∧ va_D (fun _ => True) (rfX p0 qt qg h0 rt cB cI vn ct ft fb gl T ++ (wgW h0 qc qh r cA cI cJ me nw u tw iv hd M)))) (va_Qv (fun v : Nat → Nat → Int64 => ∀ a b, a ≤ 3 * vn → b ≤ 2 * ct → v a b = tgR T vn ct a b) (fun v t => va_P (dC, dI) vwCl (rfX p0 qt qg h0 rt cB cI vn ct ft fb gl T ++ (wgW h0 qc qh r cA cI cJ (3 * vn) (2 * ct) 1 (bcF ((1 &&& -1) - 1)) (nwF (sr 1 (bcF ((1 &&& -1) - 1))) 5) (filI hd 9 (-1)) v)) t.heap ∧ va_K (dC, dI) vwCl ((cB, .array .int) :: (cI, .int) :: wgT cA cI cJ) t ∧ va_D (va_A (rfX p0 qt qg h0 rt cB cI vn ct ft fb gl T ++ (wgW h0 qc qh r cA cI cJ me nw u tw iv hd M)) sz) (rfX p0 qt qg h0 rt cB cI vn ct ft fb gl T ++ (wgW h0 qc qh r cA cI cJ (3 * vn) (2 * ct) 1 (bcF ((1 &&& -1) - 1)) (nwF (sr 1 (bcF ((1 &&& -1) - 1))) 5) (filI hd 9 (-1)) v))) (va_A (rfX p0 qt qg h0 rt cB cI vn ct ft fb gl T ++ (wgW h0 qc qh r cA cI cJ me nw u tw iv hd M)) sz)) 0 0 (va_A (rfX p0 qt qg h0 rt cB cI vn ct ft fb gl T ++ (wgW h0 qc qh r cA cI cJ me nw u tw iv hd M)) sz) := by
  refine Met.ofW (cc := cX1_weighRanking) (maxL := 7) (ret := none) (by decide) rfl ?_
  intro p e s m args below meth c s₁ B hml hv
  obtain ⟨rfl, hsz, hP, hK, hD0⟩ := hv
  have hx := B.exec
  have hb := B.bytes
  have hr := B.returns
  have hts := atoms_spec (ws := wsX1_weighRanking) B.pre
  have hown : s.vm.findClass RX1 = some m.cls := findClass_of_methodNamed B.named
  subst hsz
  have hD := hD0.self (sz := s.heap.size)
  clear hD0
  generalize hAe : va_A (rfX p0 qt qg h0 rt cB cI vn ct ft fb gl T ++ (wgW h0 qc qh r cA cI cJ me nw u tw iv hd M)) s.heap.size = A at hD ⊢
  have hA : ∀ q : Nat, s.heap.size ≤ q → A q := fun q h => by rw [← hAe]; exact Or.inr h
  have hl := lv_entry ([.ref p0]) (n := 7) (Nat.le_of_ble_eq_true rfl)
  rw [lg_entry_eq]
  generalize (lg_sl ([.ref p0]) ++ List.replicate (7 - (lg_sl ([.ref p0])).length) Slot.unset).toArray = ls at hl ⊢
  have hl : lv_has ls 7 [(0, .ref p0)] := hl
  have hP : va_P (dC, dI) vwCl (rfX p0 qt qg h0 rt cB cI vn ct ft fb gl T ++ (wgW h0 qc qh r cA cI cJ me nw u tw iv hd M)) s.heap := hP
  obtain ⟨H, hH⟩ : ∃ H, H = s.heap := ⟨_, rfl⟩
  have hS : va_S A s.heap H [] := by rw [hH]; exact va_S.rf
  rw [← hH] at hP ⊢
  refine lv_aload_n hx hb dX1_weighRanking_0 rfl (lv_at hl 0 rfl) ?_
  refine va_get (D := (dC, dI)) (ci := 1) (v := .ref h0) (C := RX1) (T := TX1) (N := 7) hx hb hts (fun _ h => List.mem_cons_of_mem _ (List.mem_append_left _ (List.mem_append_right _ h))) hown hK hP 0 rfl rfl 2 (by decide) (hts (.fieldLink RX1 21 "RankFinder" "weighing" "LRankFinder$Weighing;") (List.mem_of_getElem? (i := 1) rfl)) (fun _ h9 => h9) rfl dX1_weighRanking_1 ?_
  refine lv_iconst (v := nI 3) hx hb dX1_weighRanking_4 (by decide) ?_
  refine lv_aload_n hx hb dX1_weighRanking_5 rfl (lv_at hl 0 rfl) ?_
  refine va_get (D := (dC, dI)) (ci := 1) (v := .int (nI vn)) (C := RX1) (T := TX1) (N := 7) hx hb hts (fun _ h => List.mem_cons_of_mem _ (List.mem_append_left _ (List.mem_append_right _ h))) hown hK hP 0 rfl rfl 3 (by decide) (hts (.fieldLink RX1 25 "RankFinder" "variables" "I") (List.mem_of_getElem? (i := 2) rfl)) (fun _ h9 => h9) rfl dX1_weighRanking_6 ?_
  refine lv_imul hx hb dX1_weighRanking_9 ?_
  refine lv_topi (fun z_1 ez_1 => ?_)
  obtain rfl : z_1 = nI (3 * vn) := ez_1.trans (pk_mul 3 vn)
  refine lv_iconst (v := nI 2) hx hb dX1_weighRanking_10 (by decide) ?_
  refine lv_aload_n hx hb dX1_weighRanking_11 rfl (lv_at hl 0 rfl) ?_
  refine va_get (D := (dC, dI)) (ci := 1) (v := .int (nI ct)) (C := RX1) (T := TX1) (N := 7) hx hb hts (fun _ h => List.mem_cons_of_mem _ (List.mem_append_left _ (List.mem_append_right _ h))) hown hK hP 0 rfl rfl 4 (by decide) (hts (.fieldLink RX1 29 "RankFinder" "count" "I") (List.mem_of_getElem? (i := 3) rfl)) (fun _ h9 => h9) rfl dX1_weighRanking_12 ?_
  refine lv_imul hx hb dX1_weighRanking_15 ?_
  refine lv_topi (fun z_2 ez_2 => ?_)
  obtain rfl : z_2 = nI (2 * ct) := ez_2.trans (pk_mul 2 ct)
  have hPc : va_P (dC, dI) vwCl (wgW h0 qc qh r cA cI cJ me nw u tw iv hd M) H := va_Pr hP
  have hKc := hK.sub (tys' := wgT cA cI cJ) [2, 3, 4] rfl
  have hFc : ∀ q, va_A (wgW h0 qc qh r cA cI cJ me nw u tw iv hd M) H.size q → A q := va_Ar hD hS hA
  refine va_callv (va_runV (As := [.int (nI (3 * vn)), .int (nI (2 * ct))]) (rest := []) ⟨hx, hb, hml, hown, hts⟩ (c_X0_clear l dC dI h0 qc qh r cA cI cJ H.size me nw u tw iv hd M (3 * vn) (2 * ct) (by omega) (by omega)) (cwV 2 hts gX1_weighRanking_X0_clear rfl rfl rfl (by decide +kernel) ⟨Nat.le_of_ble_eq_true rfl, Nat.le_of_ble_eq_true rfl⟩) ⟨fun a U g mk q => by obtain ⟨q0, q1, qP, qK, qD⟩ := q; exact ⟨q0, q1, qP, va_K.moved (u := U) (U := U.calling g mk a) (Vm.Alike.refl U.vm) qK, qD⟩, va_recv hKc hPc (ci := 0) (q0 := 0) rfl rfl, fun U hU hW => ⟨rfl, by rw [hU], by rw [hU]; exact hPc, va_K.moved hW.alike hKc, va_Dr hD⟩⟩ rfl rfl hl.1 rfl (lv_room (Nat.le_of_ble_eq_true rfl)) dX1_weighRanking_16 ⟨(Nat.zero_le _), (Nat.zero_le _)⟩) hS (fun q _ h => hFc q h) hFc (fun v9 t H1 locs ht hvm hw hB hz1 hk1 hS => ?_)
  obtain ⟨hP1, hK1, hD1⟩ := hB
  rw [ht] at hP1
  obtain ⟨hP, hD⟩ := jn_app hP hD hk1 hFc hP1 hD1
  clear hPc hKc hP1 hD1 hK1 hFc hk1 hz1 ht hvm
  generalize H1 = H at hP hS ⊢
  have hP : va_P (dC, dI) vwCl (rfX p0 qt qg h0 rt cB cI vn ct ft fb gl T ++ (wgW h0 qc qh r cA cI cJ (3 * vn) (2 * ct) 1 (bcF ((1 &&& -1) - 1)) (nwF (sr 1 (bcF ((1 &&& -1) - 1))) 5) (filI hd 9 (-1)) (clF M (3 * vn + 1)))) H := hP
  have hD : va_D A (rfX p0 qt qg h0 rt cB cI vn ct ft fb gl T ++ (wgW h0 qc qh r cA cI cJ (3 * vn) (2 * ct) 1 (bcF ((1 &&& -1) - 1)) (nwF (sr 1 (bcF ((1 &&& -1) - 1))) 5) (filI hd 9 (-1)) (clF M (3 * vn + 1)))) := hD
  have hI := ivR_0 (T := T) (vn := vn) (ct := ct) (M := M) hv3 hc
  obtain ⟨M9, hM9⟩ : ∃ M9, M9 = clF M (3 * vn + 1) := ⟨_, rfl⟩
  rw [← hM9] at hP hD hI
  refine lv_iconst (v := nI 0) hx hb dX1_weighRanking_19 (by decide) ?_
  refine lv_istore_n (lv' := [(1, .int (nI 0)), (0, .ref p0)]) hx hb dX1_weighRanking_20 rfl hl (by decide) rfl (fun ls hl => ?_)
  have outer : ∀ (d i : Nat) (M9 : Nat → Nat → Int64) (H : Heap) (locs : List Loc) (ls : Array Slot), i + d = vn → ivR T vn ct M9 i 0 → va_P (dC, dI) vwCl (rfX p0 qt qg h0 rt cB cI vn ct ft fb gl T ++ (wgW h0 qc qh r cA cI cJ (3 * vn) (2 * ct) 1 (bcF ((1 &&& -1) - 1)) (nwF (sr 1 (bcF ((1 &&& -1) - 1))) 5) (filI hd 9 (-1)) M9)) H → va_K (dC, dI) vwCl ((cB, .array .int) :: (cI, .int) :: wgT cA cI cJ) s → va_D A (rfX p0 qt qg h0 rt cB cI vn ct ft fb gl T ++ (wgW h0 qc qh r cA cI cJ (3 * vn) (2 * ct) 1 (bcF ((1 &&& -1) - 1)) (nwF (sr 1 (bcF ((1 &&& -1) - 1))) 5) (filI hd 9 (-1)) M9)) → va_S A s.heap H locs → lv_has ls 7 [(1, .int (nI i)), (0, .ref p0)] → W p l e (headSpec wsX1_weighRanking ({ frames := 3, cells := 0, slots := 0, locals := 71 })).room s m #[.ref p0] below meth c H locs 0 0 (MQ below (va_Qv (fun v : Nat → Nat → Int64 => ∀ a b, a ≤ 3 * vn → b ≤ 2 * ct → v a b = tgR T vn ct a b) (fun v t => va_P (dC, dI) vwCl (rfX p0 qt qg h0 rt cB cI vn ct ft fb gl T ++ (wgW h0 qc qh r cA cI cJ (3 * vn) (2 * ct) 1 (bcF ((1 &&& -1) - 1)) (nwF (sr 1 (bcF ((1 &&& -1) - 1))) 5) (filI hd 9 (-1)) v)) t.heap ∧ va_K (dC, dI) vwCl ((cB, .array .int) :: (cI, .int) :: wgT cA cI cJ) t ∧ va_D A (rfX p0 qt qg h0 rt cB cI vn ct ft fb gl T ++ (wgW h0 qc qh r cA cI cJ (3 * vn) (2 * ct) 1 (bcF ((1 &&& -1) - 1)) (nwF (sr 1 (bcF ((1 &&& -1) - 1))) 5) (filI hd 9 (-1)) v))) A) #[.ref p0] s 0 0 A) (F0 m 21 ls []) := by
    clear hP hK hD hS hl hI hM9 M9
    intro d
    induction d with
    | zero =>
      intro i M9 H locs ls hi hI hP hK hD hS hl
      refine lv_iload_n hx hb dX1_weighRanking_21 rfl (lv_at hl 0 rfl) ?_
      refine lv_aload_n hx hb dX1_weighRanking_22 rfl (lv_at hl 1 rfl) ?_
      refine va_get (D := (dC, dI)) (ci := 1) (v := .int (nI vn)) (C := RX1) (T := TX1) (N := 7) hx hb hts (fun _ h => List.mem_cons_of_mem _ (List.mem_append_left _ (List.mem_append_right _ h))) hown hK hP 0 rfl rfl 3 (by decide) (hts (.fieldLink RX1 25 "RankFinder" "variables" "I") (List.mem_of_getElem? (i := 2) rfl)) (fun _ h9 => h9) rfl dX1_weighRanking_23 ?_
      refine lv_icmp_ge (tgt := 155) hx hb dX1_weighRanking_26 (by decide) (fun c1 => ?_) (fun c1 => ?_)
      · obtain rfl : i = vn := by omega
        replace hI := ivS_0 hI
        refine lv_iconst (v := nI 0) hx hb dX1_weighRanking_155 (by decide) ?_
        refine lv_istore_n (lv' := [(1, .int (nI 0)), (0, .ref p0)]) hx hb dX1_weighRanking_156 rfl hl (by decide) rfl (fun ls hl => ?_)
        have cost : ∀ (d k : Nat) (M9 : Nat → Nat → Int64) (H : Heap) (locs : List Loc) (ls : Array Slot), k + d = ct → ivS T i ct M9 k → va_P (dC, dI) vwCl (rfX p0 qt qg h0 rt cB cI i ct ft fb gl T ++ (wgW h0 qc qh r cA cI cJ (3 * i) (2 * ct) 1 (bcF ((1 &&& -1) - 1)) (nwF (sr 1 (bcF ((1 &&& -1) - 1))) 5) (filI hd 9 (-1)) M9)) H → va_K (dC, dI) vwCl ((cB, .array .int) :: (cI, .int) :: wgT cA cI cJ) s → va_D A (rfX p0 qt qg h0 rt cB cI i ct ft fb gl T ++ (wgW h0 qc qh r cA cI cJ (3 * i) (2 * ct) 1 (bcF ((1 &&& -1) - 1)) (nwF (sr 1 (bcF ((1 &&& -1) - 1))) 5) (filI hd 9 (-1)) M9)) → va_S A s.heap H locs → lv_has ls 7 [(1, .int (nI k)), (0, .ref p0)] → W p l e (headSpec wsX1_weighRanking ({ frames := 3, cells := 0, slots := 0, locals := 71 })).room s m #[.ref p0] below meth c H locs 0 0 (MQ below (va_Qv (fun v : Nat → Nat → Int64 => ∀ a b, a ≤ 3 * i → b ≤ 2 * ct → v a b = tgR T i ct a b) (fun v t => va_P (dC, dI) vwCl (rfX p0 qt qg h0 rt cB cI i ct ft fb gl T ++ (wgW h0 qc qh r cA cI cJ (3 * i) (2 * ct) 1 (bcF ((1 &&& -1) - 1)) (nwF (sr 1 (bcF ((1 &&& -1) - 1))) 5) (filI hd 9 (-1)) v)) t.heap ∧ va_K (dC, dI) vwCl ((cB, .array .int) :: (cI, .int) :: wgT cA cI cJ) t ∧ va_D A (rfX p0 qt qg h0 rt cB cI i ct ft fb gl T ++ (wgW h0 qc qh r cA cI cJ (3 * i) (2 * ct) 1 (bcF ((1 &&& -1) - 1)) (nwF (sr 1 (bcF ((1 &&& -1) - 1))) 5) (filI hd 9 (-1)) v))) A) #[.ref p0] s 0 0 A) (F0 m 157 ls []) := by
          clear hP hK hD hS hl hI M9
          intro d2
          induction d2 with
          | zero =>
            intro k M9 H locs ls hk hI hP hK hD hS hl
            refine lv_iload_n hx hb dX1_weighRanking_157 rfl (lv_at hl 0 rfl) ?_
            refine lv_aload_n hx hb dX1_weighRanking_158 rfl (lv_at hl 1 rfl) ?_
            refine va_get (D := (dC, dI)) (ci := 1) (v := .int (nI ct)) (C := RX1) (T := TX1) (N := 7) hx hb hts (fun _ h => List.mem_cons_of_mem _ (List.mem_append_left _ (List.mem_append_right _ h))) hown hK hP 0 rfl rfl 4 (by decide) (hts (.fieldLink RX1 29 "RankFinder" "count" "I") (List.mem_of_getElem? (i := 3) rfl)) (fun _ h9 => h9) rfl dX1_weighRanking_159 ?_
            refine lv_icmp_ge (tgt := 193) hx hb dX1_weighRanking_162 (by decide) (fun c2 => ?_) (fun c2 => ?_)
            · obtain rfl : k = ct := by omega
              exact W.vret hx hb hr (fun t ht hW => ⟨⟨M9, rfl, ivS_e hv1 hI, by rw [ht]; exact hP, va_K.moved hW.alike hK, hD⟩, hS.F ht⟩) hS.2.2 dX1_weighRanking_193
            · exact absurd (nI_le (by omega) (by omega)) c2
          | succ d2 ih2 =>
            intro k M9 H locs ls hk hI hP hK hD hS hl
            refine lv_iload_n hx hb dX1_weighRanking_157 rfl (lv_at hl 0 rfl) ?_
            refine lv_aload_n hx hb dX1_weighRanking_158 rfl (lv_at hl 1 rfl) ?_
            refine va_get (D := (dC, dI)) (ci := 1) (v := .int (nI ct)) (C := RX1) (T := TX1) (N := 7) hx hb hts (fun _ h => List.mem_cons_of_mem _ (List.mem_append_left _ (List.mem_append_right _ h))) hown hK hP 0 rfl rfl 4 (by decide) (hts (.fieldLink RX1 29 "RankFinder" "count" "I") (List.mem_of_getElem? (i := 3) rfl)) (fun _ h9 => h9) rfl dX1_weighRanking_159 ?_
            refine lv_icmp_ge (tgt := 193) hx hb dX1_weighRanking_162 (by decide) (fun c2 => ?_) (fun c2 => ?_)
            · exact absurd c2 (nI_ge (by omega) (by omega))
            · refine lv_aload_n hx hb dX1_weighRanking_165 rfl (lv_at hl 1 rfl) ?_
              refine va_get (D := (dC, dI)) (ci := 1) (v := .ref h0) (C := RX1) (T := TX1) (N := 7) hx hb hts (fun _ h => List.mem_cons_of_mem _ (List.mem_append_left _ (List.mem_append_right _ h))) hown hK hP 0 rfl rfl 2 (by decide) (hts (.fieldLink RX1 21 "RankFinder" "weighing" "LRankFinder$Weighing;") (List.mem_of_getElem? (i := 1) rfl)) (fun _ h9 => h9) rfl dX1_weighRanking_166 ?_
              refine lv_aload_n hx hb dX1_weighRanking_169 rfl (lv_at hl 1 rfl) ?_
              refine va_get (D := (dC, dI)) (ci := 1) (v := .int (nI ct)) (C := RX1) (T := TX1) (N := 7) hx hb hts (fun _ h => List.mem_cons_of_mem _ (List.mem_append_left _ (List.mem_append_right _ h))) hown hK hP 0 rfl rfl 4 (by decide) (hts (.fieldLink RX1 29 "RankFinder" "count" "I") (List.mem_of_getElem? (i := 3) rfl)) (fun _ h9 => h9) rfl dX1_weighRanking_170 ?_
              refine lv_iload_n hx hb dX1_weighRanking_173 rfl (lv_at hl 0 rfl) ?_
              refine lv_iadd hx hb dX1_weighRanking_174 ?_
              refine lv_topi (fun z_1 ez_1 => ?_)
              obtain rfl : z_1 = nI (ct + k) := ez_1.trans (nI_add ct k)
              refine lv_aload_n hx hb dX1_weighRanking_175 rfl (lv_at hl 1 rfl) ?_
              refine va_get (D := (dC, dI)) (ci := 1) (v := .ref qt) (C := RX1) (T := TX1) (N := 7) hx hb hts (fun _ h => List.mem_cons_of_mem _ (List.mem_append_left _ (List.mem_append_right _ h))) hown hK hP 0 rfl rfl 0 (by decide) (hts (.fieldLink RX1 11 "RankFinder" "told" "[[I") (List.mem_of_getElem? (i := 4) rfl)) (fun _ h9 => h9) rfl dX1_weighRanking_176 ?_
              refine lv_iload_n hx hb dX1_weighRanking_179 rfl (lv_at hl 0 rfl) ?_
              refine na_aald (y := rt k) hx hb hK hP 1 0 rfl rfl (show k < 8 by omega) (by decide) (if_pos (show k < 8 by omega)) dX1_weighRanking_180 ?_
              refine lv_bipush (v := nI 6) hx hb dX1_weighRanking_181 (by decide) ?_
              refine na_iald hx hb hK hP (3 + k) 1 (rf_row (show k < 8 by omega)) rfl (show 6 < 7 by omega) (by decide) dX1_weighRanking_183 ?_
              have hPc : va_P (dC, dI) vwCl (wgW h0 qc qh r cA cI cJ (3 * i) (2 * ct) 1 (bcF ((1 &&& -1) - 1)) (nwF (sr 1 (bcF ((1 &&& -1) - 1))) 5) (filI hd 9 (-1)) M9) H := va_Pr hP
              have hKc := hK.sub (tys' := wgT cA cI cJ) [2, 3, 4] rfl
              have hFc : ∀ q, va_A (wgW h0 qc qh r cA cI cJ (3 * i) (2 * ct) 1 (bcF ((1 &&& -1) - 1)) (nwF (sr 1 (bcF ((1 &&& -1) - 1))) 5) (filI hd 9 (-1)) M9) H.size q → A q := va_Ar hD hS hA
              refine va_callv (va_runV (As := [.int (nI (ct + k)), .int (T k 6)]) (rest := []) ⟨hx, hb, hml, hown, hts⟩ (c_X0_putCost l dC dI h0 qc qh r cA cI cJ H.size (3 * i) (2 * ct) 1 (bcF ((1 &&& -1) - 1)) (nwF (sr 1 (bcF ((1 &&& -1) - 1))) 5) (filI hd 9 (-1)) M9 (ct + k) (T k 6) (by omega) (by omega)) (cwV 2 hts gX1_weighRanking_X0_putCost rfl rfl rfl (by decide +kernel) ⟨Nat.le_of_ble_eq_true rfl, Nat.le_of_ble_eq_true rfl⟩) ⟨fun a U g mk q => by obtain ⟨q0, q1, qP, qK, qD⟩ := q; exact ⟨q0, q1, qP, va_K.moved (u := U) (U := U.calling g mk a) (Vm.Alike.refl U.vm) qK, qD⟩, va_recv hKc hPc (ci := 0) (q0 := 0) rfl rfl, fun U hU hW => ⟨rfl, by rw [hU], by rw [hU]; exact hPc, va_K.moved hW.alike hKc, va_Dr hD⟩⟩ rfl rfl hl.1 rfl (lv_room (Nat.le_of_ble_eq_true rfl)) dX1_weighRanking_184 ⟨(Nat.zero_le _), (Nat.zero_le _)⟩) hS (fun q _ h => hFc q h) hFc (fun v9 t H1 locs ht hvm hw hB hz1 hk1 hS => ?_)
              obtain ⟨hP1, hK1, hD1⟩ := hB
              rw [ht] at hP1
              obtain ⟨hP, hD⟩ := jn_app hP hD hk1 hFc hP1 hD1
              clear hPc hKc hP1 hD1 hK1 hFc hk1 hz1 ht hvm
              generalize H1 = H at hP hS ⊢
              have hP : va_P (dC, dI) vwCl (rfX p0 qt qg h0 rt cB cI i ct ft fb gl T ++ (wgW h0 qc qh r cA cI cJ (3 * i) (2 * ct) 1 (bcF ((1 &&& -1) - 1)) (nwF (sr 1 (bcF ((1 &&& -1) - 1))) 5) (filI hd 9 (-1)) (mup M9 (3 * i) (ct + k) (T k 6).toInt64))) H := hP
              have hD : va_D A (rfX p0 qt qg h0 rt cB cI i ct ft fb gl T ++ (wgW h0 qc qh r cA cI cJ (3 * i) (2 * ct) 1 (bcF ((1 &&& -1) - 1)) (nwF (sr 1 (bcF ((1 &&& -1) - 1))) 5) (filI hd 9 (-1)) (mup M9 (3 * i) (ct + k) (T k 6).toInt64))) := hD
              refine lv_iinc (v := nI (k + 1)) (lv' := [(1, .int (nI (k + 1))), (0, .ref p0)]) hx hb dX1_weighRanking_187 hl (k := 0) rfl (nI_1 _) (by decide) rfl (fun ls hl => ?_)
              refine lv_goto (tgt := 157) hx hb dX1_weighRanking_190 (by decide) ?_
              exact ih2 (k + 1) _ H _ ls (by omega) (ivS_s hv1 hI (by omega)) hP hK hD hS (lv_sub hl [0, 1] rfl)
        exact cost ct 0 M9 H _ ls (by omega) hI hP hK hD hS (lv_sub hl [0, 1] rfl)
      · exact absurd (nI_le (by omega) (by omega)) c1
    | succ d ih =>
      intro i M9 H locs ls hi hI hP hK hD hS hl
      refine lv_iload_n hx hb dX1_weighRanking_21 rfl (lv_at hl 0 rfl) ?_
      refine lv_aload_n hx hb dX1_weighRanking_22 rfl (lv_at hl 1 rfl) ?_
      refine va_get (D := (dC, dI)) (ci := 1) (v := .int (nI vn)) (C := RX1) (T := TX1) (N := 7) hx hb hts (fun _ h => List.mem_cons_of_mem _ (List.mem_append_left _ (List.mem_append_right _ h))) hown hK hP 0 rfl rfl 3 (by decide) (hts (.fieldLink RX1 25 "RankFinder" "variables" "I") (List.mem_of_getElem? (i := 2) rfl)) (fun _ h9 => h9) rfl dX1_weighRanking_23 ?_
      refine lv_icmp_ge (tgt := 155) hx hb dX1_weighRanking_26 (by decide) (fun c1 => ?_) (fun c1 => ?_)
      · exact absurd c1 (nI_ge (by omega) (by omega))
      · refine lv_aload_n hx hb dX1_weighRanking_29 rfl (lv_at hl 1 rfl) ?_
        refine va_get (D := (dC, dI)) (ci := 1) (v := .int (nI vn)) (C := RX1) (T := TX1) (N := 7) hx hb hts (fun _ h => List.mem_cons_of_mem _ (List.mem_append_left _ (List.mem_append_right _ h))) hown hK hP 0 rfl rfl 3 (by decide) (hts (.fieldLink RX1 25 "RankFinder" "variables" "I") (List.mem_of_getElem? (i := 2) rfl)) (fun _ h9 => h9) rfl dX1_weighRanking_30 ?_
        refine lv_iload_n hx hb dX1_weighRanking_33 rfl (lv_at hl 0 rfl) ?_
        refine lv_iadd hx hb dX1_weighRanking_34 ?_
        refine lv_topi (fun z_1 ez_1 => ?_)
        obtain rfl : z_1 = nI (vn + i) := ez_1.trans (nI_add vn i)
        refine lv_istore_n (lv' := [(2, .int (nI (vn + i))), (1, .int (nI i)), (0, .ref p0)]) hx hb dX1_weighRanking_35 rfl hl (by decide) rfl (fun ls hl => ?_)
        refine lv_iconst (v := nI 2) hx hb dX1_weighRanking_36 (by decide) ?_
        refine lv_aload_n hx hb dX1_weighRanking_37 rfl (lv_at hl 2 rfl) ?_
        refine va_get (D := (dC, dI)) (ci := 1) (v := .int (nI vn)) (C := RX1) (T := TX1) (N := 7) hx hb hts (fun _ h => List.mem_cons_of_mem _ (List.mem_append_left _ (List.mem_append_right _ h))) hown hK hP 0 rfl rfl 3 (by decide) (hts (.fieldLink RX1 25 "RankFinder" "variables" "I") (List.mem_of_getElem? (i := 2) rfl)) (fun _ h9 => h9) rfl dX1_weighRanking_38 ?_
        refine lv_imul hx hb dX1_weighRanking_41 ?_
        refine lv_topi (fun z_2 ez_2 => ?_)
        obtain rfl : z_2 = nI (2 * vn) := ez_2.trans (pk_mul 2 vn)
        refine lv_iload_n hx hb dX1_weighRanking_42 rfl (lv_at hl 1 rfl) ?_
        refine lv_iadd hx hb dX1_weighRanking_43 ?_
        refine lv_topi (fun z_3 ez_3 => ?_)
        obtain rfl : z_3 = nI (2 * vn + i) := ez_3.trans (nI_add (2 * vn) i)
        refine lv_istore_n (lv' := [(3, .int (nI (2 * vn + i))), (2, .int (nI (vn + i))), (1, .int (nI i)), (0, .ref p0)]) hx hb dX1_weighRanking_44 rfl hl (by decide) rfl (fun ls hl => ?_)
        refine lv_iconst (v := nI 0) hx hb dX1_weighRanking_45 (by decide) ?_
        refine lv_istore (lv' := [(4, .int (nI 0)), (3, .int (nI (2 * vn + i))), (2, .int (nI (vn + i))), (1, .int (nI i)), (0, .ref p0)]) hx hb dX1_weighRanking_46 hl (by decide) rfl (fun ls hl => ?_)
        have inner : ∀ (d k : Nat) (M9 : Nat → Nat → Int64) (H : Heap) (locs : List Loc) (ls : Array Slot), k + d = ct → ivR T vn ct M9 i k → va_P (dC, dI) vwCl (rfX p0 qt qg h0 rt cB cI vn ct ft fb gl T ++ (wgW h0 qc qh r cA cI cJ (3 * vn) (2 * ct) 1 (bcF ((1 &&& -1) - 1)) (nwF (sr 1 (bcF ((1 &&& -1) - 1))) 5) (filI hd 9 (-1)) M9)) H → va_K (dC, dI) vwCl ((cB, .array .int) :: (cI, .int) :: wgT cA cI cJ) s → va_D A (rfX p0 qt qg h0 rt cB cI vn ct ft fb gl T ++ (wgW h0 qc qh r cA cI cJ (3 * vn) (2 * ct) 1 (bcF ((1 &&& -1) - 1)) (nwF (sr 1 (bcF ((1 &&& -1) - 1))) 5) (filI hd 9 (-1)) M9)) → va_S A s.heap H locs → lv_has ls 7 [(4, .int (nI k)), (3, .int (nI (2 * vn + i))), (2, .int (nI (vn + i))), (1, .int (nI i)), (0, .ref p0)] → W p l e (headSpec wsX1_weighRanking ({ frames := 3, cells := 0, slots := 0, locals := 71 })).room s m #[.ref p0] below meth c H locs 0 0 (MQ below (va_Qv (fun v : Nat → Nat → Int64 => ∀ a b, a ≤ 3 * vn → b ≤ 2 * ct → v a b = tgR T vn ct a b) (fun v t => va_P (dC, dI) vwCl (rfX p0 qt qg h0 rt cB cI vn ct ft fb gl T ++ (wgW h0 qc qh r cA cI cJ (3 * vn) (2 * ct) 1 (bcF ((1 &&& -1) - 1)) (nwF (sr 1 (bcF ((1 &&& -1) - 1))) 5) (filI hd 9 (-1)) v)) t.heap ∧ va_K (dC, dI) vwCl ((cB, .array .int) :: (cI, .int) :: wgT cA cI cJ) t ∧ va_D A (rfX p0 qt qg h0 rt cB cI vn ct ft fb gl T ++ (wgW h0 qc qh r cA cI cJ (3 * vn) (2 * ct) 1 (bcF ((1 &&& -1) - 1)) (nwF (sr 1 (bcF ((1 &&& -1) - 1))) 5) (filI hd 9 (-1)) v))) A) #[.ref p0] s 0 0 A) (F0 m 48 ls []) := by
          clear hP hK hD hS hl hI
          intro d2
          induction d2 with
          | zero =>
            intro k M9 H locs ls hk hI hP hK hD hS hl
            refine lv_iload hx hb dX1_weighRanking_48 (lv_at hl 0 rfl) ?_
            refine lv_aload_n hx hb dX1_weighRanking_50 rfl (lv_at hl 4 rfl) ?_
            refine va_get (D := (dC, dI)) (ci := 1) (v := .int (nI ct)) (C := RX1) (T := TX1) (N := 7) hx hb hts (fun _ h => List.mem_cons_of_mem _ (List.mem_append_left _ (List.mem_append_right _ h))) hown hK hP 0 rfl rfl 4 (by decide) (hts (.fieldLink RX1 29 "RankFinder" "count" "I") (List.mem_of_getElem? (i := 3) rfl)) (fun _ h9 => h9) rfl dX1_weighRanking_51 ?_
            refine lv_icmp_ge (tgt := 149) hx hb dX1_weighRanking_54 (by decide) (fun c2 => ?_) (fun c2 => ?_)
            · have e9 : k = ct := by omega
              rw [e9] at hI
              refine lv_iinc (v := nI (i + 1)) (lv' := [(1, .int (nI (i + 1))), (4, .int (nI k)), (3, .int (nI (2 * vn + i))), (2, .int (nI (vn + i))), (0, .ref p0)]) hx hb dX1_weighRanking_149 hl (k := 3) rfl (nI_1 _) (by decide) rfl (fun ls hl => ?_)
              refine lv_goto (tgt := 21) hx hb dX1_weighRanking_152 (by decide) ?_
              exact ih (i + 1) _ H _ ls (by omega) (ivR_n hI) hP hK hD hS (lv_sub hl [0, 4] rfl)
            · exact absurd (nI_le (by omega) (by omega)) c2
          | succ d2 ih2 =>
            intro k M9 H locs ls hk hI hP hK hD hS hl
            refine lv_iload hx hb dX1_weighRanking_48 (lv_at hl 0 rfl) ?_
            refine lv_aload_n hx hb dX1_weighRanking_50 rfl (lv_at hl 4 rfl) ?_
            refine va_get (D := (dC, dI)) (ci := 1) (v := .int (nI ct)) (C := RX1) (T := TX1) (N := 7) hx hb hts (fun _ h => List.mem_cons_of_mem _ (List.mem_append_left _ (List.mem_append_right _ h))) hown hK hP 0 rfl rfl 4 (by decide) (hts (.fieldLink RX1 29 "RankFinder" "count" "I") (List.mem_of_getElem? (i := 3) rfl)) (fun _ h9 => h9) rfl dX1_weighRanking_51 ?_
            refine lv_icmp_ge (tgt := 149) hx hb dX1_weighRanking_54 (by decide) (fun c2 => ?_) (fun c2 => ?_)
            · exact absurd c2 (nI_ge (by omega) (by omega))
            · refine lv_aload_n hx hb dX1_weighRanking_57 rfl (lv_at hl 4 rfl) ?_
              refine va_get (D := (dC, dI)) (ci := 1) (v := .ref qt) (C := RX1) (T := TX1) (N := 7) hx hb hts (fun _ h => List.mem_cons_of_mem _ (List.mem_append_left _ (List.mem_append_right _ h))) hown hK hP 0 rfl rfl 0 (by decide) (hts (.fieldLink RX1 11 "RankFinder" "told" "[[I") (List.mem_of_getElem? (i := 4) rfl)) (fun _ h9 => h9) rfl dX1_weighRanking_58 ?_
              refine lv_iload hx hb dX1_weighRanking_61 (lv_at hl 0 rfl) ?_
              refine na_aald (y := rt k) hx hb hK hP 1 0 rfl rfl (show k < 8 by omega) (by decide) (if_pos (show k < 8 by omega)) dX1_weighRanking_63 ?_
              refine lv_iload_n hx hb dX1_weighRanking_64 rfl (lv_at hl 3 rfl) ?_
              refine na_iald hx hb hK hP (3 + k) 1 (rf_row (show k < 8 by omega)) rfl (show i < 7 by omega) (by decide) dX1_weighRanking_65 ?_
              refine lv_istore (lv' := [(5, .int (T k i)), (4, .int (nI k)), (3, .int (nI (2 * vn + i))), (2, .int (nI (vn + i))), (1, .int (nI i)), (0, .ref p0)]) hx hb dX1_weighRanking_66 hl (by decide) rfl (fun ls hl => ?_)
              refine lv_aload_n hx hb dX1_weighRanking_68 rfl (lv_at hl 5 rfl) ?_
              refine va_get (D := (dC, dI)) (ci := 1) (v := .ref qt) (C := RX1) (T := TX1) (N := 7) hx hb hts (fun _ h => List.mem_cons_of_mem _ (List.mem_append_left _ (List.mem_append_right _ h))) hown hK hP 0 rfl rfl 0 (by decide) (hts (.fieldLink RX1 11 "RankFinder" "told" "[[I") (List.mem_of_getElem? (i := 4) rfl)) (fun _ h9 => h9) rfl dX1_weighRanking_69 ?_
              refine lv_iload hx hb dX1_weighRanking_72 (lv_at hl 1 rfl) ?_
              refine na_aald (y := rt k) hx hb hK hP 1 0 rfl rfl (show k < 8 by omega) (by decide) (if_pos (show k < 8 by omega)) dX1_weighRanking_74 ?_
              refine lv_iconst (v := nI 3) hx hb dX1_weighRanking_75 (by decide) ?_
              refine lv_iload_n hx hb dX1_weighRanking_76 rfl (lv_at hl 4 rfl) ?_
              refine lv_iadd hx hb dX1_weighRanking_77 ?_
              refine lv_topi (fun z_1 ez_1 => ?_)
              obtain rfl : z_1 = nI (3 + i) := ez_1.trans (nI_add 3 i)
              refine na_iald hx hb hK hP (3 + k) 1 (rf_row (show k < 8 by omega)) rfl (show 3 + i < 7 by omega) (by decide) dX1_weighRanking_78 ?_
              refine lv_istore (lv' := [(6, .int (T k (3 + i))), (5, .int (T k i)), (4, .int (nI k)), (3, .int (nI (2 * vn + i))), (2, .int (nI (vn + i))), (1, .int (nI i)), (0, .ref p0)]) hx hb dX1_weighRanking_79 hl (by decide) rfl (fun ls hl => ?_)
              refine lv_aload_n hx hb dX1_weighRanking_81 rfl (lv_at hl 6 rfl) ?_
              refine va_get (D := (dC, dI)) (ci := 1) (v := .ref h0) (C := RX1) (T := TX1) (N := 7) hx hb hts (fun _ h => List.mem_cons_of_mem _ (List.mem_append_left _ (List.mem_append_right _ h))) hown hK hP 0 rfl rfl 2 (by decide) (hts (.fieldLink RX1 21 "RankFinder" "weighing" "LRankFinder$Weighing;") (List.mem_of_getElem? (i := 1) rfl)) (fun _ h9 => h9) rfl dX1_weighRanking_82 ?_
              refine lv_iload_n hx hb dX1_weighRanking_85 rfl (lv_at hl 5 rfl) ?_
              refine lv_iload hx hb dX1_weighRanking_86 (lv_at hl 2 rfl) ?_
              refine lv_iload hx hb dX1_weighRanking_88 (lv_at hl 0 rfl) ?_
              have hPc : va_P (dC, dI) vwCl (wgW h0 qc qh r cA cI cJ (3 * vn) (2 * ct) 1 (bcF ((1 &&& -1) - 1)) (nwF (sr 1 (bcF ((1 &&& -1) - 1))) 5) (filI hd 9 (-1)) M9) H := va_Pr hP
              have hKc := hK.sub (tys' := wgT cA cI cJ) [2, 3, 4] rfl
              have hFc : ∀ q, va_A (wgW h0 qc qh r cA cI cJ (3 * vn) (2 * ct) 1 (bcF ((1 &&& -1) - 1)) (nwF (sr 1 (bcF ((1 &&& -1) - 1))) 5) (filI hd 9 (-1)) M9) H.size q → A q := va_Ar hD hS hA
              refine va_callv (va_runV (As := [.int (nI i), .int (nI k), .int (T k (3 + i))]) (rest := []) ⟨hx, hb, hml, hown, hts⟩ (c_X0_put l dC dI h0 qc qh r cA cI cJ H.size (3 * vn) (2 * ct) 1 (bcF ((1 &&& -1) - 1)) (nwF (sr 1 (bcF ((1 &&& -1) - 1))) 5) (filI hd 9 (-1)) M9 i k (T k (3 + i)) (by omega) (by omega)) (cwV 3 hts gX1_weighRanking_X0_put rfl rfl rfl (by decide +kernel) ⟨Nat.le_of_ble_eq_true rfl, Nat.le_of_ble_eq_true rfl⟩) ⟨fun a U g mk q => by obtain ⟨q0, q1, qP, qK, qD⟩ := q; exact ⟨q0, q1, qP, va_K.moved (u := U) (U := U.calling g mk a) (Vm.Alike.refl U.vm) qK, qD⟩, va_recv hKc hPc (ci := 0) (q0 := 0) rfl rfl, fun U hU hW => ⟨rfl, by rw [hU], by rw [hU]; exact hPc, va_K.moved hW.alike hKc, va_Dr hD⟩⟩ rfl rfl hl.1 rfl (lv_room (Nat.le_of_ble_eq_true rfl)) dX1_weighRanking_90 ⟨(Nat.zero_le _), (Nat.zero_le _)⟩) hS (fun q _ h => hFc q h) hFc (fun v9 t H1 locs ht hvm hw hB hz1 hk1 hS => ?_)
              obtain ⟨hP1, hK1, hD1⟩ := hB
              rw [ht] at hP1
              obtain ⟨hP, hD⟩ := jn_app hP hD hk1 hFc hP1 hD1
              clear hPc hKc hP1 hD1 hK1 hFc hk1 hz1 ht hvm
              generalize H1 = H at hP hS ⊢
              have hP : va_P (dC, dI) vwCl (rfX p0 qt qg h0 rt cB cI vn ct ft fb gl T ++ (wgW h0 qc qh r cA cI cJ (3 * vn) (2 * ct) 1 (bcF ((1 &&& -1) - 1)) (nwF (sr 1 (bcF ((1 &&& -1) - 1))) 5) (filI hd 9 (-1)) (mup M9 i k (T k (3 + i)).toInt64))) H := hP
              have hD : va_D A (rfX p0 qt qg h0 rt cB cI vn ct ft fb gl T ++ (wgW h0 qc qh r cA cI cJ (3 * vn) (2 * ct) 1 (bcF ((1 &&& -1) - 1)) (nwF (sr 1 (bcF ((1 &&& -1) - 1))) 5) (filI hd 9 (-1)) (mup M9 i k (T k (3 + i)).toInt64))) := hD
              refine lv_aload_n hx hb dX1_weighRanking_93 rfl (lv_at hl 6 rfl) ?_
              refine va_get (D := (dC, dI)) (ci := 1) (v := .ref h0) (C := RX1) (T := TX1) (N := 7) hx hb hts (fun _ h => List.mem_cons_of_mem _ (List.mem_append_left _ (List.mem_append_right _ h))) hown hK hP 0 rfl rfl 2 (by decide) (hts (.fieldLink RX1 21 "RankFinder" "weighing" "LRankFinder$Weighing;") (List.mem_of_getElem? (i := 1) rfl)) (fun _ h9 => h9) rfl dX1_weighRanking_94 ?_
              refine lv_iload_n hx hb dX1_weighRanking_97 rfl (lv_at hl 4 rfl) ?_
              refine lv_iload hx hb dX1_weighRanking_98 (lv_at hl 2 rfl) ?_
              refine lv_iload hx hb dX1_weighRanking_100 (lv_at hl 1 rfl) ?_
              refine lv_ineg hx hb dX1_weighRanking_102 ?_
              have hPc : va_P (dC, dI) vwCl (wgW h0 qc qh r cA cI cJ (3 * vn) (2 * ct) 1 (bcF ((1 &&& -1) - 1)) (nwF (sr 1 (bcF ((1 &&& -1) - 1))) 5) (filI hd 9 (-1)) (mup M9 i k (T k (3 + i)).toInt64)) H := va_Pr hP
              have hKc := hK.sub (tys' := wgT cA cI cJ) [2, 3, 4] rfl
              have hFc : ∀ q, va_A (wgW h0 qc qh r cA cI cJ (3 * vn) (2 * ct) 1 (bcF ((1 &&& -1) - 1)) (nwF (sr 1 (bcF ((1 &&& -1) - 1))) 5) (filI hd 9 (-1)) (mup M9 i k (T k (3 + i)).toInt64)) H.size q → A q := va_Ar hD hS hA
              refine va_callv (va_runV (As := [.int (nI (vn + i)), .int (nI k), .int (-(T k i))]) (rest := []) ⟨hx, hb, hml, hown, hts⟩ (c_X0_put l dC dI h0 qc qh r cA cI cJ H.size (3 * vn) (2 * ct) 1 (bcF ((1 &&& -1) - 1)) (nwF (sr 1 (bcF ((1 &&& -1) - 1))) 5) (filI hd 9 (-1)) (mup M9 i k (T k (3 + i)).toInt64) (vn + i) k (-(T k i)) (by omega) (by omega)) (cwV 3 hts gX1_weighRanking_X0_put rfl rfl rfl (by decide +kernel) ⟨Nat.le_of_ble_eq_true rfl, Nat.le_of_ble_eq_true rfl⟩) ⟨fun a U g mk q => by obtain ⟨q0, q1, qP, qK, qD⟩ := q; exact ⟨q0, q1, qP, va_K.moved (u := U) (U := U.calling g mk a) (Vm.Alike.refl U.vm) qK, qD⟩, va_recv hKc hPc (ci := 0) (q0 := 0) rfl rfl, fun U hU hW => ⟨rfl, by rw [hU], by rw [hU]; exact hPc, va_K.moved hW.alike hKc, va_Dr hD⟩⟩ rfl rfl hl.1 rfl (lv_room (Nat.le_of_ble_eq_true rfl)) dX1_weighRanking_103 ⟨(Nat.zero_le _), (Nat.zero_le _)⟩) hS (fun q _ h => hFc q h) hFc (fun v9 t H1 locs ht hvm hw hB hz1 hk1 hS => ?_)
              obtain ⟨hP1, hK1, hD1⟩ := hB
              rw [ht] at hP1
              obtain ⟨hP, hD⟩ := jn_app hP hD hk1 hFc hP1 hD1
              clear hPc hKc hP1 hD1 hK1 hFc hk1 hz1 ht hvm
              generalize H1 = H at hP hS ⊢
              have hP : va_P (dC, dI) vwCl (rfX p0 qt qg h0 rt cB cI vn ct ft fb gl T ++ (wgW h0 qc qh r cA cI cJ (3 * vn) (2 * ct) 1 (bcF ((1 &&& -1) - 1)) (nwF (sr 1 (bcF ((1 &&& -1) - 1))) 5) (filI hd 9 (-1)) (mup (mup M9 i k (T k (3 + i)).toInt64) (vn + i) k (-(T k i)).toInt64))) H := hP
              have hD : va_D A (rfX p0 qt qg h0 rt cB cI vn ct ft fb gl T ++ (wgW h0 qc qh r cA cI cJ (3 * vn) (2 * ct) 1 (bcF ((1 &&& -1) - 1)) (nwF (sr 1 (bcF ((1 &&& -1) - 1))) 5) (filI hd 9 (-1)) (mup (mup M9 i k (T k (3 + i)).toInt64) (vn + i) k (-(T k i)).toInt64))) := hD
              refine lv_aload_n hx hb dX1_weighRanking_106 rfl (lv_at hl 6 rfl) ?_
              refine va_get (D := (dC, dI)) (ci := 1) (v := .ref h0) (C := RX1) (T := TX1) (N := 7) hx hb hts (fun _ h => List.mem_cons_of_mem _ (List.mem_append_left _ (List.mem_append_right _ h))) hown hK hP 0 rfl rfl 2 (by decide) (hts (.fieldLink RX1 21 "RankFinder" "weighing" "LRankFinder$Weighing;") (List.mem_of_getElem? (i := 1) rfl)) (fun _ h9 => h9) rfl dX1_weighRanking_107 ?_
              refine lv_iload_n hx hb dX1_weighRanking_110 rfl (lv_at hl 4 rfl) ?_
              refine lv_aload_n hx hb dX1_weighRanking_111 rfl (lv_at hl 6 rfl) ?_
              refine va_get (D := (dC, dI)) (ci := 1) (v := .int (nI ct)) (C := RX1) (T := TX1) (N := 7) hx hb hts (fun _ h => List.mem_cons_of_mem _ (List.mem_append_left _ (List.mem_append_right _ h))) hown hK hP 0 rfl rfl 4 (by decide) (hts (.fieldLink RX1 29 "RankFinder" "count" "I") (List.mem_of_getElem? (i := 3) rfl)) (fun _ h9 => h9) rfl dX1_weighRanking_112 ?_
              refine lv_iload hx hb dX1_weighRanking_115 (lv_at hl 2 rfl) ?_
              refine lv_iadd hx hb dX1_weighRanking_117 ?_
              refine lv_topi (fun z_2 ez_2 => ?_)
              obtain rfl : z_2 = nI (ct + k) := ez_2.trans (nI_add ct k)
              refine lv_iload hx hb dX1_weighRanking_118 (lv_at hl 1 rfl) ?_
              have hPc : va_P (dC, dI) vwCl (wgW h0 qc qh r cA cI cJ (3 * vn) (2 * ct) 1 (bcF ((1 &&& -1) - 1)) (nwF (sr 1 (bcF ((1 &&& -1) - 1))) 5) (filI hd 9 (-1)) (mup (mup M9 i k (T k (3 + i)).toInt64) (vn + i) k (-(T k i)).toInt64)) H := va_Pr hP
              have hKc := hK.sub (tys' := wgT cA cI cJ) [2, 3, 4] rfl
              have hFc : ∀ q, va_A (wgW h0 qc qh r cA cI cJ (3 * vn) (2 * ct) 1 (bcF ((1 &&& -1) - 1)) (nwF (sr 1 (bcF ((1 &&& -1) - 1))) 5) (filI hd 9 (-1)) (mup (mup M9 i k (T k (3 + i)).toInt64) (vn + i) k (-(T k i)).toInt64)) H.size q → A q := va_Ar hD hS hA
              refine va_callv (va_runV (As := [.int (nI (vn + i)), .int (nI (ct + k)), .int (T k i)]) (rest := []) ⟨hx, hb, hml, hown, hts⟩ (c_X0_put l dC dI h0 qc qh r cA cI cJ H.size (3 * vn) (2 * ct) 1 (bcF ((1 &&& -1) - 1)) (nwF (sr 1 (bcF ((1 &&& -1) - 1))) 5) (filI hd 9 (-1)) (mup (mup M9 i k (T k (3 + i)).toInt64) (vn + i) k (-(T k i)).toInt64) (vn + i) (ct + k) (T k i) (by omega) (by omega)) (cwV 3 hts gX1_weighRanking_X0_put rfl rfl rfl (by decide +kernel) ⟨Nat.le_of_ble_eq_true rfl, Nat.le_of_ble_eq_true rfl⟩) ⟨fun a U g mk q => by obtain ⟨q0, q1, qP, qK, qD⟩ := q; exact ⟨q0, q1, qP, va_K.moved (u := U) (U := U.calling g mk a) (Vm.Alike.refl U.vm) qK, qD⟩, va_recv hKc hPc (ci := 0) (q0 := 0) rfl rfl, fun U hU hW => ⟨rfl, by rw [hU], by rw [hU]; exact hPc, va_K.moved hW.alike hKc, va_Dr hD⟩⟩ rfl rfl hl.1 rfl (lv_room (Nat.le_of_ble_eq_true rfl)) dX1_weighRanking_120 ⟨(Nat.zero_le _), (Nat.zero_le _)⟩) hS (fun q _ h => hFc q h) hFc (fun v9 t H1 locs ht hvm hw hB hz1 hk1 hS => ?_)
              obtain ⟨hP1, hK1, hD1⟩ := hB
              rw [ht] at hP1
              obtain ⟨hP, hD⟩ := jn_app hP hD hk1 hFc hP1 hD1
              clear hPc hKc hP1 hD1 hK1 hFc hk1 hz1 ht hvm
              generalize H1 = H at hP hS ⊢
              have hP : va_P (dC, dI) vwCl (rfX p0 qt qg h0 rt cB cI vn ct ft fb gl T ++ (wgW h0 qc qh r cA cI cJ (3 * vn) (2 * ct) 1 (bcF ((1 &&& -1) - 1)) (nwF (sr 1 (bcF ((1 &&& -1) - 1))) 5) (filI hd 9 (-1)) (mup (mup (mup M9 i k (T k (3 + i)).toInt64) (vn + i) k (-(T k i)).toInt64) (vn + i) (ct + k) (T k i).toInt64))) H := hP
              have hD : va_D A (rfX p0 qt qg h0 rt cB cI vn ct ft fb gl T ++ (wgW h0 qc qh r cA cI cJ (3 * vn) (2 * ct) 1 (bcF ((1 &&& -1) - 1)) (nwF (sr 1 (bcF ((1 &&& -1) - 1))) 5) (filI hd 9 (-1)) (mup (mup (mup M9 i k (T k (3 + i)).toInt64) (vn + i) k (-(T k i)).toInt64) (vn + i) (ct + k) (T k i).toInt64))) := hD
              refine lv_aload_n hx hb dX1_weighRanking_123 rfl (lv_at hl 6 rfl) ?_
              refine va_get (D := (dC, dI)) (ci := 1) (v := .ref h0) (C := RX1) (T := TX1) (N := 7) hx hb hts (fun _ h => List.mem_cons_of_mem _ (List.mem_append_left _ (List.mem_append_right _ h))) hown hK hP 0 rfl rfl 2 (by decide) (hts (.fieldLink RX1 21 "RankFinder" "weighing" "LRankFinder$Weighing;") (List.mem_of_getElem? (i := 1) rfl)) (fun _ h9 => h9) rfl dX1_weighRanking_124 ?_
              refine lv_iload_n hx hb dX1_weighRanking_127 rfl (lv_at hl 3 rfl) ?_
              refine lv_aload_n hx hb dX1_weighRanking_128 rfl (lv_at hl 6 rfl) ?_
              refine va_get (D := (dC, dI)) (ci := 1) (v := .int (nI ct)) (C := RX1) (T := TX1) (N := 7) hx hb hts (fun _ h => List.mem_cons_of_mem _ (List.mem_append_left _ (List.mem_append_right _ h))) hown hK hP 0 rfl rfl 4 (by decide) (hts (.fieldLink RX1 29 "RankFinder" "count" "I") (List.mem_of_getElem? (i := 3) rfl)) (fun _ h9 => h9) rfl dX1_weighRanking_129 ?_
              refine lv_iload hx hb dX1_weighRanking_132 (lv_at hl 2 rfl) ?_
              refine lv_iadd hx hb dX1_weighRanking_134 ?_
              refine lv_topi (fun z_3 ez_3 => ?_)
              obtain rfl : z_3 = nI (ct + k) := ez_3.trans (nI_add ct k)
              refine lv_iload hx hb dX1_weighRanking_135 (lv_at hl 1 rfl) ?_
              refine lv_iload hx hb dX1_weighRanking_137 (lv_at hl 0 rfl) ?_
              refine lv_iadd hx hb dX1_weighRanking_139 ?_
              have hPc : va_P (dC, dI) vwCl (wgW h0 qc qh r cA cI cJ (3 * vn) (2 * ct) 1 (bcF ((1 &&& -1) - 1)) (nwF (sr 1 (bcF ((1 &&& -1) - 1))) 5) (filI hd 9 (-1)) (mup (mup (mup M9 i k (T k (3 + i)).toInt64) (vn + i) k (-(T k i)).toInt64) (vn + i) (ct + k) (T k i).toInt64)) H := va_Pr hP
              have hKc := hK.sub (tys' := wgT cA cI cJ) [2, 3, 4] rfl
              have hFc : ∀ q, va_A (wgW h0 qc qh r cA cI cJ (3 * vn) (2 * ct) 1 (bcF ((1 &&& -1) - 1)) (nwF (sr 1 (bcF ((1 &&& -1) - 1))) 5) (filI hd 9 (-1)) (mup (mup (mup M9 i k (T k (3 + i)).toInt64) (vn + i) k (-(T k i)).toInt64) (vn + i) (ct + k) (T k i).toInt64)) H.size q → A q := va_Ar hD hS hA
              refine va_callv (va_runV (As := [.int (nI (2 * vn + i)), .int (nI (ct + k)), .int ((T k i) + (T k (3 + i)))]) (rest := []) ⟨hx, hb, hml, hown, hts⟩ (c_X0_put l dC dI h0 qc qh r cA cI cJ H.size (3 * vn) (2 * ct) 1 (bcF ((1 &&& -1) - 1)) (nwF (sr 1 (bcF ((1 &&& -1) - 1))) 5) (filI hd 9 (-1)) (mup (mup (mup M9 i k (T k (3 + i)).toInt64) (vn + i) k (-(T k i)).toInt64) (vn + i) (ct + k) (T k i).toInt64) (2 * vn + i) (ct + k) (T k i + T k (3 + i)) (by omega) (by omega)) (cwV 3 hts gX1_weighRanking_X0_put rfl rfl rfl (by decide +kernel) ⟨Nat.le_of_ble_eq_true rfl, Nat.le_of_ble_eq_true rfl⟩) ⟨fun a U g mk q => by obtain ⟨q0, q1, qP, qK, qD⟩ := q; exact ⟨q0, q1, qP, va_K.moved (u := U) (U := U.calling g mk a) (Vm.Alike.refl U.vm) qK, qD⟩, va_recv hKc hPc (ci := 0) (q0 := 0) rfl rfl, fun U hU hW => ⟨rfl, by rw [hU], by rw [hU]; exact hPc, va_K.moved hW.alike hKc, va_Dr hD⟩⟩ rfl rfl hl.1 rfl (lv_room (Nat.le_of_ble_eq_true rfl)) dX1_weighRanking_140 ⟨(Nat.zero_le _), (Nat.zero_le _)⟩) hS (fun q _ h => hFc q h) hFc (fun v9 t H1 locs ht hvm hw hB hz1 hk1 hS => ?_)
              obtain ⟨hP1, hK1, hD1⟩ := hB
              rw [ht] at hP1
              obtain ⟨hP, hD⟩ := jn_app hP hD hk1 hFc hP1 hD1
              clear hPc hKc hP1 hD1 hK1 hFc hk1 hz1 ht hvm
              generalize H1 = H at hP hS ⊢
              have hP : va_P (dC, dI) vwCl (rfX p0 qt qg h0 rt cB cI vn ct ft fb gl T ++ (wgW h0 qc qh r cA cI cJ (3 * vn) (2 * ct) 1 (bcF ((1 &&& -1) - 1)) (nwF (sr 1 (bcF ((1 &&& -1) - 1))) 5) (filI hd 9 (-1)) (mup (mup (mup (mup M9 i k (T k (3 + i)).toInt64) (vn + i) k (-(T k i)).toInt64) (vn + i) (ct + k) (T k i).toInt64) (2 * vn + i) (ct + k) (T k i + T k (3 + i)).toInt64))) H := hP
              have hD : va_D A (rfX p0 qt qg h0 rt cB cI vn ct ft fb gl T ++ (wgW h0 qc qh r cA cI cJ (3 * vn) (2 * ct) 1 (bcF ((1 &&& -1) - 1)) (nwF (sr 1 (bcF ((1 &&& -1) - 1))) 5) (filI hd 9 (-1)) (mup (mup (mup (mup M9 i k (T k (3 + i)).toInt64) (vn + i) k (-(T k i)).toInt64) (vn + i) (ct + k) (T k i).toInt64) (2 * vn + i) (ct + k) (T k i + T k (3 + i)).toInt64))) := hD
              refine lv_iinc (v := nI (k + 1)) (lv' := [(4, .int (nI (k + 1))), (6, .int (T k (3 + i))), (5, .int (T k i)), (3, .int (nI (2 * vn + i))), (2, .int (nI (vn + i))), (1, .int (nI i)), (0, .ref p0)]) hx hb dX1_weighRanking_143 hl (k := 2) rfl (nI_1 _) (by decide) rfl (fun ls hl => ?_)
              refine lv_goto (tgt := 48) hx hb dX1_weighRanking_146 (by decide) ?_
              exact ih2 (k + 1) _ H _ ls (by omega) (ivR_put hI (by omega) (by omega)) hP hK hD hS (lv_sub hl [0, 3, 4, 5, 6] rfl)
        exact inner ct 0 M9 H _ ls (by omega) hI hP hK hD hS (lv_sub hl [0, 1, 2, 3, 4] rfl)
  exact outer vn 0 M9 H _ ls (by omega) hI hP hK hD hS (lv_sub hl [0, 1] rfl)
