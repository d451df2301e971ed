/-! ===== the reference: keeps, isPossible, beginRows ===== -/
/-- a rule as a row -/
def brM (nm : Nat → Int32) (vn k j : Nat) : Int64 := if j < vn ∨ (3 ≤ j ∧ j < 3 + vn) then (nm (7 * k + j)).toInt64 else if j = 10 then (nm (7 * k + 6)).toInt64 else 0
/-- the rows before r stand as g says, of row r those places that P says, the others being 0 -/
def rwI (f : Nat → Int64) (g : Nat → Nat → Int64) (r : Nat) : Prop := ∀ a j, a < r → j < 11 → f (11 * a + j) = g a j
theorem rwI_ze {f : Nat → Int64} {g : Nat → Nat → Int64} {r : Nat} (h : rwI f g r) : rwI (zeF f r 11) g r ∧ ∀ j, j < 11 → zeF f r 11 (11 * r + j) = 0 := by
  refine ⟨fun a j ha hj => ?_, fun j hj => ?_⟩
  · unfold zeF; rw [if_neg (by omega)]; exact h a j ha hj
  · unfold zeF; rw [if_pos (by omega)]
theorem rwI_up {f : Nat → Int64} {g : Nat → Nat → Int64} {r j : Nat} {x : Int64} (h : rwI f g r) : rwI (vp_updL f (11 * r + j) x) g r := fun a i ha hi => by
  unfold vp_updL; rw [if_neg (by omega)]; exact h a i ha hi
theorem rwI_s {f : Nat → Int64} {g : Nat → Nat → Int64} {r : Nat} (h : rwI f g r) (h2 : ∀ j, j < 11 → f (11 * r + j) = g r j) : rwI f g (r + 1) := fun a j ha hj => by
  by_cases e : a = r
  · subst e; exact h2 j hj
  · exact h a j (by omega) hj
set_option maxHeartbeats 1000000 in
set_option maxRecDepth 100000 in
/-- isPossible() -/
theorem c_X2_isPossible (l : Launch) (dC : Nat → ClassId) (dI : Nat → Nat → Nat) (sz : Nat) (m0 aN aR aX aO aP aH aL aW : Nat) (cI cJ : ClassId) (vn ct : Nat) (nm : Nat → Int32) (tp bt : Int64) (an : Int32) (rw nx : Nat → Int64) (og no : Nat → Int32) (rc nc : Nat) (hgh lws : Nat → Int64) (dh dl fT fB : Int64) (wd : Nat → Int32) (hrc : rc ≤ 1200) : Met l yX2_isPossible wsX2_isPossible ({ frames := 0, cells := 0, slots := 0, locals := 0 }) (va_Pc [.ref m0] (fun U => U.heap.size = sz ∧ va_P (dC, dI) vwCl (mdW m0 aN aR aX aO aP aH aL aW cI cJ vn ct nm tp bt an rw nx og no rc nc hgh lws dh dl fT fB wd) U.heap ∧ va_K (dC, dI) vwCl [(cI, .int), (cJ, .long)] U ∧ va_D (fun _ => True) (mdW m0 aN aR aX aO aP aH aL aW cI cJ vn ct nm tp bt an rw nx og no rc nc hgh lws dh dl fT fB wd))) (va_Qi (fun (x : Int32) (v : Unit) => (x = 1 ∧ ∀ k, k < rc → (rw (11 * k + 9) ≠ 0 ∨ 0 ≤ rw (11 * k + 10))) ∨ (x = 0 ∧ ¬ ∀ k, k < rc → (rw (11 * k + 9) ≠ 0 ∨ 0 ≤ rw (11 * k + 10)))) (fun v t => va_P (dC, dI) vwCl (mdW m0 aN aR aX aO aP aH aL aW cI cJ vn ct nm tp bt an rw nx og no rc nc hgh lws dh dl fT fB wd) t.heap ∧ va_K (dC, dI) vwCl [(cI, .int), (cJ, .long)] t ∧ va_D (va_A (mdW m0 aN aR aX aO aP aH aL aW cI cJ vn ct nm tp bt an rw nx og no rc nc hgh lws dh dl fT fB wd) sz) (mdW m0 aN aR aX aO aP aH aL aW cI cJ vn ct nm tp bt an rw nx og no rc nc hgh lws dh dl fT fB wd)) (va_A (mdW m0 aN aR aX aO aP aH aL aW cI cJ vn ct nm tp bt an rw nx og no rc nc hgh lws dh dl fT fB wd) sz)) 0 0 (va_A (mdW m0 aN aR aX aO aP aH aL aW cI cJ vn ct nm tp bt an rw nx og no rc nc hgh lws dh dl fT fB wd) sz) := by
  refine Met.ofW (cc := cX2_isPossible) (maxL := 3) (ret := (some .boolean)) (by decide) rfl ?_
  intro p e s m args below meth c s₁ B hml hv
  obtain ⟨rfl, hsz, hP, hK, hD0⟩ := hv
  have hx := B.exec
  have hb := B.bytes
  have hr := B.returns
  have hts := atoms_spec (ws := wsX2_isPossible) B.pre
  have hown : s.vm.findClass RX2 = some m.cls := findClass_of_methodNamed B.named
  subst hsz
  have hD := hD0.self (sz := s.heap.size)
  clear hD0
  generalize hAe : va_A (mdW m0 aN aR aX aO aP aH aL aW cI cJ vn ct nm tp bt an rw nx og no rc nc hgh lws dh dl fT fB wd) s.heap.size = A at hD ⊢
  have hA : ∀ q : Nat, s.heap.size ≤ q → A q := fun q h => by rw [← hAe]; exact Or.inr h
  have hl := lv_entry ([.ref m0]) (n := 3) (Nat.le_of_ble_eq_true rfl)
  rw [lg_entry_eq]
  generalize (lg_sl ([.ref m0]) ++ List.replicate (3 - (lg_sl ([.ref m0])).length) Slot.unset).toArray = ls at hl ⊢
  have hl : lv_has ls 3 [(0, .ref m0)] := hl
  have hP : va_P (dC, dI) vwCl (mdW m0 aN aR aX aO aP aH aL aW cI cJ vn ct nm tp bt an rw nx og no rc nc hgh lws dh dl fT fB wd) s.heap := hP
  obtain ⟨H, hH⟩ : ∃ H, H = s.heap := ⟨_, rfl⟩
  have hS : va_S A s.heap H [] := by rw [hH]; exact va_S.rf
  rw [← hH] at hP ⊢
  refine lv_iconst (v := nI 1) hx hb dX2_isPossible_0 (by decide) ?_
  refine lv_istore_n (lv' := [(1, .int (nI 1)), (0, .ref m0)]) hx hb dX2_isPossible_1 rfl hl (by decide) rfl (fun ls hl => ?_)
  refine lv_iconst (v := nI 0) hx hb dX2_isPossible_2 (by decide) ?_
  refine lv_istore_n (lv' := [(2, .int (nI 0)), (1, .int (nI 1)), (0, .ref m0)]) hx hb dX2_isPossible_3 rfl hl (by decide) rfl (fun ls hl => ?_)
  have loop : ∀ (d k : Nat) (f9 : Int32) (ls : Array Slot), k + d = rc → ((f9 = 1 ∧ ∀ i, i < k → (rw (11 * i + 9) ≠ 0 ∨ 0 ≤ rw (11 * i + 10))) ∨ (f9 = 0 ∧ ¬ ∀ i, i < k → (rw (11 * i + 9) ≠ 0 ∨ 0 ≤ rw (11 * i + 10)))) → lv_has ls 3 [(2, .int (nI k)), (1, .int f9), (0, .ref m0)] → W p l e (headSpec wsX2_isPossible ({ frames := 0, cells := 0, slots := 0, locals := 0 })).room s m #[.ref m0] below meth c H [] 0 0 (MQ below (va_Qi (fun (x : Int32) (v : Unit) => (x = 1 ∧ ∀ k, k < rc → (rw (11 * k + 9) ≠ 0 ∨ 0 ≤ rw (11 * k + 10))) ∨ (x = 0 ∧ ¬ ∀ k, k < rc → (rw (11 * k + 9) ≠ 0 ∨ 0 ≤ rw (11 * k + 10)))) (fun v t => va_P (dC, dI) vwCl (mdW m0 aN aR aX aO aP aH aL aW cI cJ vn ct nm tp bt an rw nx og no rc nc hgh lws dh dl fT fB wd) t.heap ∧ va_K (dC, dI) vwCl [(cI, .int), (cJ, .long)] t ∧ va_D A (mdW m0 aN aR aX aO aP aH aL aW cI cJ vn ct nm tp bt an rw nx og no rc nc hgh lws dh dl fT fB wd)) A) #[.ref m0] s 0 0 A) (F0 m 4 ls []) := by
    clear hl
    intro d
    induction d with
    | zero =>
      intro k f9 ls hk hz hl
      refine lv_iload_n hx hb dX2_isPossible_4 rfl (lv_at hl 0 rfl) ?_
      refine lv_aload_n hx hb dX2_isPossible_5 rfl (lv_at hl 2 rfl) ?_
      refine va_get (D := (dC, dI)) (ci := 2) (v := .int (nI rc)) (C := RX2) (T := TX2) (N := 19) hx hb hts (fun _ h => List.mem_cons_of_mem _ (List.mem_append_right _ h)) hown hK hP 0 rfl rfl 10 (by decide) (hts (.fieldLink RX2 46 "RankFinderModel" "rowCount" "I") (List.mem_of_getElem? (i := 1) rfl)) (fun _ h9 => h9) rfl dX2_isPossible_6 ?_
      refine lv_icmp_ge (tgt := 62) hx hb dX2_isPossible_9 (by decide) (fun c1 => ?_) (fun c1 => ?_)
      · refine lv_iload_n hx hb dX2_isPossible_62 rfl (lv_at hl 1 rfl) ?_
        obtain rfl : k = rc := by omega
        rcases hz with ⟨rfl, hz⟩ | ⟨rfl, hz⟩
        · exact W.zret (v := 1) hx hb hr (by rfl) (fun t ht hW => ⟨⟨1, (), rfl, Or.inl ⟨rfl, hz⟩, by rw [ht]; exact hP, va_K.moved hW.alike hK, hD⟩, hS.F ht⟩) hS.2.2 dX2_isPossible_63
        · exact W.zret (v := 0) hx hb hr (by rfl) (fun t ht hW => ⟨⟨0, (), rfl, Or.inr ⟨rfl, hz⟩, by rw [ht]; exact hP, va_K.moved hW.alike hK, hD⟩, hS.F ht⟩) hS.2.2 dX2_isPossible_63
      · exact absurd (nI_le (by omega) (by omega)) c1
    | succ d ih =>
      intro k f9 ls hk hz hl
      refine lv_iload_n hx hb dX2_isPossible_4 rfl (lv_at hl 0 rfl) ?_
      refine lv_aload_n hx hb dX2_isPossible_5 rfl (lv_at hl 2 rfl) ?_
      refine va_get (D := (dC, dI)) (ci := 2) (v := .int (nI rc)) (C := RX2) (T := TX2) (N := 19) hx hb hts (fun _ h => List.mem_cons_of_mem _ (List.mem_append_right _ h)) hown hK hP 0 rfl rfl 10 (by decide) (hts (.fieldLink RX2 46 "RankFinderModel" "rowCount" "I") (List.mem_of_getElem? (i := 1) rfl)) (fun _ h9 => h9) rfl dX2_isPossible_6 ?_
      refine lv_icmp_ge (tgt := 62) hx hb dX2_isPossible_9 (by decide) (fun c1 => ?_) (fun c1 => ?_)
      · exact absurd c1 (nI_ge (by omega) (by omega))
      · rcases hz with ⟨rfl, hz⟩ | ⟨rfl, hz⟩
        · refine lv_iload_n hx hb dX2_isPossible_12 rfl (lv_at hl 1 rfl) ?_
          refine lv_if_eq (tgt := 54) hx hb dX2_isPossible_13 (by decide) (fun c => absurd c (by decide)) (fun _ => ?_)
          refine lv_aload_n hx hb dX2_isPossible_16 rfl (lv_at hl 2 rfl) ?_
          refine va_get (D := (dC, dI)) (ci := 2) (v := .ref aR) (C := RX2) (T := TX2) (N := 19) hx hb hts (fun _ h => List.mem_cons_of_mem _ (List.mem_append_right _ h)) hown hK hP 0 rfl rfl 6 (by decide) (hts (.fieldLink RX2 17 "RankFinderModel" "rows" "[J") (List.mem_of_getElem? (i := 2) rfl)) (fun _ h9 => h9) rfl dX2_isPossible_17 ?_
          refine lv_bipush (v := nI 11) hx hb dX2_isPossible_20 (by decide) ?_
          refine lv_iload_n hx hb dX2_isPossible_22 rfl (lv_at hl 0 rfl) ?_
          refine lv_imul hx hb dX2_isPossible_23 ?_
          refine lv_topi (fun z_1 ez_1 => ?_)
          obtain rfl : z_1 = nI (11 * k) := ez_1.trans (pk_mul 11 k)
          refine lv_bipush (v := nI 9) hx hb dX2_isPossible_24 (by decide) ?_
          refine lv_iadd hx hb dX2_isPossible_26 ?_
          refine lv_topi (fun z_2 ez_2 => ?_)
          obtain rfl : z_2 = nI ((11 * k) + 9) := ez_2.trans (nI_add (11 * k) 9)
          refine na_lald hx hb hK hP 2 1 rfl rfl (show 11 * k + 9 < 13200 by omega) (by decide) dX2_isPossible_27 ?_
          refine lv_lconst (v := 0) hx hb dX2_isPossible_28 (by decide) ?_
          refine W.lcmp hx hb dX2_isPossible_29 ?_
          refine lv_if_ne (tgt := 50) hx hb dX2_isPossible_30 (by decide) (fun c2 => ?_) (fun c2 => ?_)
          · rw [lg_cmp_eq] at c2
            refine lv_iconst (v := nI 1) hx hb dX2_isPossible_50 (by decide) ?_
            refine lv_goto (tgt := 55) hx hb dX2_isPossible_51 (by decide) ?_
            refine lv_istore_n (lv' := [(1, .int (nI 1)), (2, .int (nI k)), (0, .ref m0)]) hx hb dX2_isPossible_55 rfl hl (by decide) rfl (fun ls hl => ?_)
            refine lv_iinc (v := nI (k + 1)) (lv' := [(2, .int (nI (k + 1))), (1, .int (nI 1)), (0, .ref m0)]) hx hb dX2_isPossible_56 hl (k := 1) rfl (nI_1 _) (by decide) rfl (fun ls hl => ?_)
            refine lv_goto (tgt := 4) hx hb dX2_isPossible_59 (by decide) ?_
            exact ih (k + 1) 1 ls (by omega) (Or.inl ⟨rfl, fun i hi => by
              by_cases e9 : i = k
              · subst e9; exact Or.inl c2
              · exact hz i (by omega)⟩) (lv_sub hl [0, 1, 2] rfl)
          · rw [lg_cmp_eq] at c2
            refine lv_aload_n hx hb dX2_isPossible_33 rfl (lv_at hl 2 rfl) ?_
            refine va_get (D := (dC, dI)) (ci := 2) (v := .ref aR) (C := RX2) (T := TX2) (N := 19) hx hb hts (fun _ h => List.mem_cons_of_mem _ (List.mem_append_right _ h)) hown hK hP 0 rfl rfl 6 (by decide) (hts (.fieldLink RX2 17 "RankFinderModel" "rows" "[J") (List.mem_of_getElem? (i := 2) rfl)) (fun _ h9 => h9) rfl dX2_isPossible_34 ?_
            refine lv_bipush (v := nI 11) hx hb dX2_isPossible_37 (by decide) ?_
            refine lv_iload_n hx hb dX2_isPossible_39 rfl (lv_at hl 0 rfl) ?_
            refine lv_imul hx hb dX2_isPossible_40 ?_
            refine lv_topi (fun z_3 ez_3 => ?_)
            obtain rfl : z_3 = nI (11 * k) := ez_3.trans (pk_mul 11 k)
            refine lv_bipush (v := nI 10) hx hb dX2_isPossible_41 (by decide) ?_
            refine lv_iadd hx hb dX2_isPossible_43 ?_
            refine lv_topi (fun z_4 ez_4 => ?_)
            obtain rfl : z_4 = nI ((11 * k) + 10) := ez_4.trans (nI_add (11 * k) 10)
            refine na_lald hx hb hK hP 2 1 rfl rfl (show 11 * k + 10 < 13200 by omega) (by decide) dX2_isPossible_44 ?_
            refine lv_lconst (v := 0) hx hb dX2_isPossible_45 (by decide) ?_
            refine W.lcmp hx hb dX2_isPossible_46 ?_
            refine lv_if_lt (tgt := 54) hx hb dX2_isPossible_47 (by decide) (fun c3 => ?_) (fun c3 => ?_)
            · rw [lg_cmp_lt] at c3
              refine lv_iconst (v := nI 0) hx hb dX2_isPossible_54 (by decide) ?_
              refine lv_istore_n (lv' := [(1, .int (nI 0)), (2, .int (nI k)), (0, .ref m0)]) hx hb dX2_isPossible_55 rfl hl (by decide) rfl (fun ls hl => ?_)
              refine lv_iinc (v := nI (k + 1)) (lv' := [(2, .int (nI (k + 1))), (1, .int (nI 0)), (0, .ref m0)]) hx hb dX2_isPossible_56 hl (k := 1) rfl (nI_1 _) (by decide) rfl (fun ls hl => ?_)
              refine lv_goto (tgt := 4) hx hb dX2_isPossible_59 (by decide) ?_
              exact ih (k + 1) 0 ls (by omega) (Or.inr ⟨rfl, fun q => by
                rcases q k (by omega) with q | q
                · exact q c2
                · exact (Int64.not_lt.mpr q) c3⟩) (lv_sub hl [0, 1, 2] rfl)
            · rw [lg_cmp_lt] at c3
              refine lv_iconst (v := nI 1) hx hb dX2_isPossible_50 (by decide) ?_
              refine lv_goto (tgt := 55) hx hb dX2_isPossible_51 (by decide) ?_
              refine lv_istore_n (lv' := [(1, .int (nI 1)), (2, .int (nI k)), (0, .ref m0)]) hx hb dX2_isPossible_55 rfl hl (by decide) rfl (fun ls hl => ?_)
              refine lv_iinc (v := nI (k + 1)) (lv' := [(2, .int (nI (k + 1))), (1, .int (nI 1)), (0, .ref m0)]) hx hb dX2_isPossible_56 hl (k := 1) rfl (nI_1 _) (by decide) rfl (fun ls hl => ?_)
              refine lv_goto (tgt := 4) hx hb dX2_isPossible_59 (by decide) ?_
              exact ih (k + 1) 1 ls (by omega) (Or.inl ⟨rfl, fun i hi => by
                by_cases e9 : i = k
                · subst e9; exact Or.inr (Int64.not_lt.mp c3)
                · exact hz i (by omega)⟩) (lv_sub hl [0, 1, 2] rfl)
        · refine lv_iload_n hx hb dX2_isPossible_12 rfl (lv_at hl 1 rfl) ?_
          refine lv_if_eq (tgt := 54) hx hb dX2_isPossible_13 (by decide) (fun _ => ?_) (fun c => absurd rfl c)
          refine lv_iconst (v := nI 0) hx hb dX2_isPossible_54 (by decide) ?_
          refine lv_istore_n (lv' := [(1, .int (nI 0)), (2, .int (nI k)), (0, .ref m0)]) hx hb dX2_isPossible_55 rfl hl (by decide) rfl (fun ls hl => ?_)
          refine lv_iinc (v := nI (k + 1)) (lv' := [(2, .int (nI (k + 1))), (1, .int (nI 0)), (0, .ref m0)]) hx hb dX2_isPossible_56 hl (k := 1) rfl (nI_1 _) (by decide) rfl (fun ls hl => ?_)
          refine lv_goto (tgt := 4) hx hb dX2_isPossible_59 (by decide) ?_
          exact ih (k + 1) 0 ls (by omega) (Or.inr ⟨rfl, fun q => hz (fun i hi => q i (by omega))⟩) (lv_sub hl [0, 1, 2] rfl)
  exact loop rc 0 1 ls (by omega) (Or.inl ⟨rfl, fun i hi => by omega⟩) (lv_sub hl [0, 1, 2] rfl)
set_option maxHeartbeats 1000000 in
set_option maxRecDepth 100000 in
/-- keeps(..) -/
theorem c_X2_keeps (l : Launch) (dC : Nat → ClassId) (dI : Nat → Nat → Nat) (sz : Nat) (m0 aN aR aX aO aP aH aL aW : Nat) (cI cJ : ClassId) (vn ct : Nat) (nm : Nat → Int32) (tp bt : Int64) (an : Int32) (rw nx : Nat → Int64) (og no : Nat → Int32) (rc nc : Nat) (hgh lws : Nat → Int64) (dh dl fT fB : Int64) (wd : Nat → Int32) (x1 x2 x3 y1 y2 y3 : Int32) (hc : ct ≤ 8) (hv1 : 1 ≤ vn) (hv3 : vn ≤ 3) : Met l yX2_keeps wsX2_keeps ({ frames := 0, cells := 0, slots := 0, locals := 0 }) (va_Pc [.ref m0, .int x1, .int x2, .int x3, .int y1, .int y2, .int y3] (fun U => U.heap.size = sz ∧ va_P (dC, dI) vwCl (mdW m0 aN aR aX aO aP aH aL aW cI cJ vn ct nm tp bt an rw nx og no rc nc hgh lws dh dl fT fB wd) U.heap ∧ va_K (dC, dI) vwCl [(cI, .int), (cJ, .long)] U ∧ va_D (fun _ => True) (mdW m0 aN aR aX aO aP aH aL aW cI cJ vn ct nm tp bt an rw nx og no rc nc hgh lws dh dl fT fB wd))) (va_Qi (fun (x : Int32) (v : Unit) => (x = 1 ∧ ∀ k, k < ct → kpM nm vn k x1 x2 x3 y1 y2 y3) ∨ (x = 0 ∧ ¬ ∀ k, k < ct → kpM nm vn k x1 x2 x3 y1 y2 y3)) (fun v t => va_P (dC, dI) vwCl (mdW m0 aN aR aX aO aP aH aL aW cI cJ vn ct nm tp bt an rw nx og no rc nc hgh lws dh dl fT fB wd) t.heap ∧ va_K (dC, dI) vwCl [(cI, .int), (cJ, .long)] t ∧ va_D (va_A (mdW m0 aN aR aX aO aP aH aL aW cI cJ vn ct nm tp bt an rw nx og no rc nc hgh lws dh dl fT fB wd) sz) (mdW m0 aN aR aX aO aP aH aL aW cI cJ vn ct nm tp bt an rw nx og no rc nc hgh lws dh dl fT fB wd)) (va_A (mdW m0 aN aR aX aO aP aH aL aW cI cJ vn ct nm tp bt an rw nx og no rc nc hgh lws dh dl fT fB wd) sz)) 0 0 (va_A (mdW m0 aN aR aX aO aP aH aL aW cI cJ vn ct nm tp bt an rw nx og no rc nc hgh lws dh dl fT fB wd) sz) := by
  refine Met.ofW (cc := cX2_keeps) (maxL := 16) (ret := (some .boolean)) (by decide) rfl ?_
  intro p e s m args below meth c s₁ B hml hv
  obtain ⟨rfl, hsz, hP, hK, hD0⟩ := hv
  have hx := B.exec
  have hb := B.bytes
  have hr := B.returns
  have hts := atoms_spec (ws := wsX2_keeps) B.pre
  have hown : s.vm.findClass RX2 = some m.cls := findClass_of_methodNamed B.named
  subst hsz
  have hD := hD0.self (sz := s.heap.size)
  clear hD0
  generalize hAe : va_A (mdW m0 aN aR aX aO aP aH aL aW cI cJ vn ct nm tp bt an rw nx og no rc nc hgh lws dh dl fT fB wd) s.heap.size = A at hD ⊢
  have hA : ∀ q : Nat, s.heap.size ≤ q → A q := fun q h => by rw [← hAe]; exact Or.inr h
  have hl := lv_entry ([.ref m0, .int x1, .int x2, .int x3, .int y1, .int y2, .int y3]) (n := 16) (Nat.le_of_ble_eq_true rfl)
  rw [lg_entry_eq]
  generalize (lg_sl ([.ref m0, .int x1, .int x2, .int x3, .int y1, .int y2, .int y3]) ++ List.replicate (16 - (lg_sl ([.ref m0, .int x1, .int x2, .int x3, .int y1, .int y2, .int y3])).length) Slot.unset).toArray = ls at hl ⊢
  have hl : lv_has ls 16 [(0, .ref m0), (1, .int x1), (2, .int x2), (3, .int x3), (4, .int y1), (5, .int y2), (6, .int y3)] := hl
  have hP : va_P (dC, dI) vwCl (mdW m0 aN aR aX aO aP aH aL aW cI cJ vn ct nm tp bt an rw nx og no rc nc hgh lws dh dl fT fB wd) s.heap := hP
  obtain ⟨H, hH⟩ : ∃ H, H = s.heap := ⟨_, rfl⟩
  have hS : va_S A s.heap H [] := by rw [hH]; exact va_S.rf
  rw [← hH] at hP ⊢
  refine lv_iconst (v := nI 1) hx hb dX2_keeps_0 (by decide) ?_
  refine lv_istore (lv' := [(7, .int (nI 1)), (0, .ref m0), (1, .int x1), (2, .int x2), (3, .int x3), (4, .int y1), (5, .int y2), (6, .int y3)]) hx hb dX2_keeps_1 hl (by decide) rfl (fun ls hl => ?_)
  refine lv_iconst (v := nI 0) hx hb dX2_keeps_3 (by decide) ?_
  refine lv_istore (lv' := [(8, .int (nI 0)), (7, .int (nI 1)), (0, .ref m0), (1, .int x1), (2, .int x2), (3, .int x3), (4, .int y1), (5, .int y2), (6, .int y3)]) hx hb dX2_keeps_4 hl (by decide) rfl (fun ls hl => ?_)
  have loop : ∀ (d k : Nat) (f9 : Int32) (ls : Array Slot), k + d = ct → ((f9 = 1 ∧ ∀ i, i < k → kpM nm vn i x1 x2 x3 y1 y2 y3) ∨ (f9 = 0 ∧ ¬ ∀ i, i < k → kpM nm vn i x1 x2 x3 y1 y2 y3)) → lv_has ls 16 [(8, .int (nI k)), (7, .int f9), (0, .ref m0), (1, .int x1), (2, .int x2), (3, .int x3), (4, .int y1), (5, .int y2), (6, .int y3)] → W p l e (headSpec wsX2_keeps ({ frames := 0, cells := 0, slots := 0, locals := 0 })).room s m #[.ref m0, .int x1, .int x2, .int x3, .int y1, .int y2, .int y3] below meth c H [] 0 0 (MQ below (va_Qi (fun (x : Int32) (v : Unit) => (x = 1 ∧ ∀ k, k < ct → kpM nm vn k x1 x2 x3 y1 y2 y3) ∨ (x = 0 ∧ ¬ ∀ k, k < ct → kpM nm vn k x1 x2 x3 y1 y2 y3)) (fun v t => va_P (dC, dI) vwCl (mdW m0 aN aR aX aO aP aH aL aW cI cJ vn ct nm tp bt an rw nx og no rc nc hgh lws dh dl fT fB wd) t.heap ∧ va_K (dC, dI) vwCl [(cI, .int), (cJ, .long)] t ∧ va_D A (mdW m0 aN aR aX aO aP aH aL aW cI cJ vn ct nm tp bt an rw nx og no rc nc hgh lws dh dl fT fB wd)) A) #[.ref m0, .int x1, .int x2, .int x3, .int y1, .int y2, .int y3] s 0 0 A) (F0 m 6 ls []) := by
    clear hl
    intro d
    induction d with
    | zero =>
      intro k f9 ls hk hz hl
      refine lv_iload hx hb dX2_keeps_6 (lv_at hl 0 rfl) ?_
      refine lv_aload_n hx hb dX2_keeps_8 rfl (lv_at hl 2 rfl) ?_
      refine va_get (D := (dC, dI)) (ci := 2) (v := .int (nI ct)) (C := RX2) (T := TX2) (N := 19) hx hb hts (fun _ h => List.mem_cons_of_mem _ (List.mem_append_right _ h)) hown hK hP 0 rfl rfl 1 (by decide) (hts (.fieldLink RX2 39 "RankFinderModel" "count" "I") (List.mem_of_getElem? (i := 1) rfl)) (fun _ h9 => h9) rfl dX2_keeps_9 ?_
      refine lv_icmp_ge (tgt := 169) hx hb dX2_keeps_12 (by decide) (fun c1 => ?_) (fun c1 => ?_)
      · refine lv_iload hx hb dX2_keeps_169 (lv_at hl 1 rfl) ?_
        obtain rfl : k = ct := by omega
        rcases hz with ⟨rfl, hz⟩ | ⟨rfl, hz⟩
        · exact W.zret (v := 1) hx hb hr (by rfl) (fun t ht hW => ⟨⟨1, (), rfl, Or.inl ⟨rfl, hz⟩, by rw [ht]; exact hP, va_K.moved hW.alike hK, hD⟩, hS.F ht⟩) hS.2.2 dX2_keeps_171
        · exact W.zret (v := 0) hx hb hr (by rfl) (fun t ht hW => ⟨⟨0, (), rfl, Or.inr ⟨rfl, hz⟩, by rw [ht]; exact hP, va_K.moved hW.alike hK, hD⟩, hS.F ht⟩) hS.2.2 dX2_keeps_171
      · exact absurd (nI_le (by omega) (by omega)) c1
    | succ d ih =>
      intro k f9 ls hk hz hl
      refine lv_iload hx hb dX2_keeps_6 (lv_at hl 0 rfl) ?_
      refine lv_aload_n hx hb dX2_keeps_8 rfl (lv_at hl 2 rfl) ?_
      refine va_get (D := (dC, dI)) (ci := 2) (v := .int (nI ct)) (C := RX2) (T := TX2) (N := 19) hx hb hts (fun _ h => List.mem_cons_of_mem _ (List.mem_append_right _ h)) hown hK hP 0 rfl rfl 1 (by decide) (hts (.fieldLink RX2 39 "RankFinderModel" "count" "I") (List.mem_of_getElem? (i := 1) rfl)) (fun _ h9 => h9) rfl dX2_keeps_9 ?_
      refine lv_icmp_ge (tgt := 169) hx hb dX2_keeps_12 (by decide) (fun c1 => ?_) (fun c1 => ?_)
      · exact absurd c1 (nI_ge (by omega) (by omega))
      · refine lv_lconst (v := 0) hx hb dX2_keeps_15 (by decide) ?_
        refine lv_lstore (lv' := [(9, .long 0), (8, .int (nI k)), (7, .int f9), (0, .ref m0), (1, .int x1), (2, .int x2), (3, .int x3), (4, .int y1), (5, .int y2), (6, .int y3)]) hx hb dX2_keeps_16 hl (by decide) rfl (fun ls hl => ?_)
        refine lv_iconst (v := nI 0) hx hb dX2_keeps_18 (by decide) ?_
        refine lv_istore (lv' := [(11, .int (nI 0)), (9, .long 0), (8, .int (nI k)), (7, .int f9), (0, .ref m0), (1, .int x1), (2, .int x2), (3, .int x3), (4, .int y1), (5, .int y2), (6, .int y3)]) hx hb dX2_keeps_19 hl (by decide) rfl (fun ls hl => ?_)
        have inner : ∀ (d2 i : Nat) (ls : Array Slot), i + d2 = vn → lv_has ls 16 [(11, .int (nI i)), (9, .long (smM nm k x1 x2 x3 y1 y2 y3 i)), (8, .int (nI k)), (7, .int f9), (0, .ref m0), (1, .int x1), (2, .int x2), (3, .int x3), (4, .int y1), (5, .int y2), (6, .int y3)] → W p l e (headSpec wsX2_keeps ({ frames := 0, cells := 0, slots := 0, locals := 0 })).room s m #[.ref m0, .int x1, .int x2, .int x3, .int y1, .int y2, .int y3] below meth c H [] 0 0 (MQ below (va_Qi (fun (x : Int32) (v : Unit) => (x = 1 ∧ ∀ k, k < ct → kpM nm vn k x1 x2 x3 y1 y2 y3) ∨ (x = 0 ∧ ¬ ∀ k, k < ct → kpM nm vn k x1 x2 x3 y1 y2 y3)) (fun v t => va_P (dC, dI) vwCl (mdW m0 aN aR aX aO aP aH aL aW cI cJ vn ct nm tp bt an rw nx og no rc nc hgh lws dh dl fT fB wd) t.heap ∧ va_K (dC, dI) vwCl [(cI, .int), (cJ, .long)] t ∧ va_D A (mdW m0 aN aR aX aO aP aH aL aW cI cJ vn ct nm tp bt an rw nx og no rc nc hgh lws dh dl fT fB wd)) A) #[.ref m0, .int x1, .int x2, .int x3, .int y1, .int y2, .int y3] s 0 0 A) (F0 m 21 ls []) := by
          clear hl
          intro d2
          induction d2 with
          | zero =>
            intro i ls hi2 hl
            refine lv_iload hx hb dX2_keeps_21 (lv_at hl 0 rfl) ?_
            refine lv_aload_n hx hb dX2_keeps_23 rfl (lv_at hl 4 rfl) ?_
            refine va_get (D := (dC, dI)) (ci := 2) (v := .int (nI vn)) (C := RX2) (T := TX2) (N := 19) hx hb hts (fun _ h => List.mem_cons_of_mem _ (List.mem_append_right _ h)) hown hK hP 0 rfl rfl 0 (by decide) (hts (.fieldLink RX2 7 "RankFinderModel" "n" "I") (List.mem_of_getElem? (i := 2) rfl)) (fun _ h9 => h9) rfl dX2_keeps_24 ?_
            refine lv_icmp_ge (tgt := 131) hx hb dX2_keeps_27 (by decide) (fun c2 => ?_) (fun c2 => ?_)
            · obtain rfl : i = vn := by omega
              rcases hz with ⟨rfl, hz⟩ | ⟨rfl, hz⟩
              · refine lv_iload hx hb dX2_keeps_131 (lv_at hl 3 rfl) ?_
                refine lv_if_eq (tgt := 160) hx hb dX2_keeps_133 (by decide) (fun c => absurd c (by decide)) (fun _ => ?_)
                refine lv_lload hx hb dX2_keeps_136 (lv_at hl 1 rfl) ?_
                refine lv_aload_n hx hb dX2_keeps_138 rfl (lv_at hl 4 rfl) ?_
                refine va_get (D := (dC, dI)) (ci := 2) (v := .ref aN) (C := RX2) (T := TX2) (N := 19) hx hb hts (fun _ h => List.mem_cons_of_mem _ (List.mem_append_right _ h)) hown hK hP 0 rfl rfl 2 (by decide) (hts (.fieldLink RX2 13 "RankFinderModel" "numbers" "[I") (List.mem_of_getElem? (i := 3) rfl)) (fun _ h9 => h9) rfl dX2_keeps_139 ?_
                refine lv_bipush (v := nI 7) hx hb dX2_keeps_142 (by decide) ?_
                refine lv_iload hx hb dX2_keeps_144 (lv_at hl 2 rfl) ?_
                refine lv_imul hx hb dX2_keeps_146 ?_
                refine lv_topi (fun z_1 ez_1 => ?_)
                obtain rfl : z_1 = nI (7 * k) := ez_1.trans (pk_mul 7 k)
                refine lv_bipush (v := nI 6) hx hb dX2_keeps_147 (by decide) ?_
                refine lv_iadd hx hb dX2_keeps_149 ?_
                refine lv_topi (fun z_2 ez_2 => ?_)
                obtain rfl : z_2 = nI ((7 * k) + 6) := ez_2.trans (nI_add (7 * k) 6)
                refine na_iald hx hb hK hP 1 0 rfl rfl (show 7 * k + 6 < 56 by omega) (by decide) dX2_keeps_150 ?_
                refine lv_i2l hx hb dX2_keeps_151 rfl ?_
                refine W.lcmp hx hb dX2_keeps_152 ?_
                refine lv_if_gt (tgt := 160) hx hb dX2_keeps_153 (by decide) (fun c3 => ?_) (fun c3 => ?_)
                · rw [lg_cmp_gt] at c3
                  refine lv_iconst (v := nI 0) hx hb dX2_keeps_160 (by decide) ?_
                  refine lv_istore (lv' := [(7, .int (nI 0)), (11, .int (nI i)), (9, .long (smM nm k x1 x2 x3 y1 y2 y3 i)), (8, .int (nI k)), (0, .ref m0), (1, .int x1), (2, .int x2), (3, .int x3), (4, .int y1), (5, .int y2), (6, .int y3)]) hx hb dX2_keeps_161 hl (by decide) rfl (fun ls hl => ?_)
                  refine lv_iinc (v := nI (k + 1)) (lv' := [(8, .int (nI (k + 1))), (7, .int (nI 0)), (11, .int (nI i)), (9, .long (smM nm k x1 x2 x3 y1 y2 y3 i)), (0, .ref m0), (1, .int x1), (2, .int x2), (3, .int x3), (4, .int y1), (5, .int y2), (6, .int y3)]) hx hb dX2_keeps_163 hl (k := 3) rfl (nI_1 _) (by decide) rfl (fun ls hl => ?_)
                  refine lv_goto (tgt := 6) hx hb dX2_keeps_166 (by decide) ?_
                  exact ih (k + 1) 0 ls (by omega) (Or.inr ⟨rfl, fun q => Int64.not_lt.mpr (q k (by omega)) c3⟩) (lv_sub hl [0, 1, 4, 5, 6, 7, 8, 9, 10] rfl)
                · rw [lg_cmp_gt] at c3
                  refine lv_iconst (v := nI 1) hx hb dX2_keeps_156 (by decide) ?_
                  refine lv_goto (tgt := 161) hx hb dX2_keeps_157 (by decide) ?_
                  refine lv_istore (lv' := [(7, .int (nI 1)), (11, .int (nI i)), (9, .long (smM nm k x1 x2 x3 y1 y2 y3 i)), (8, .int (nI k)), (0, .ref m0), (1, .int x1), (2, .int x2), (3, .int x3), (4, .int y1), (5, .int y2), (6, .int y3)]) hx hb dX2_keeps_161 hl (by decide) rfl (fun ls hl => ?_)
                  refine lv_iinc (v := nI (k + 1)) (lv' := [(8, .int (nI (k + 1))), (7, .int (nI 1)), (11, .int (nI i)), (9, .long (smM nm k x1 x2 x3 y1 y2 y3 i)), (0, .ref m0), (1, .int x1), (2, .int x2), (3, .int x3), (4, .int y1), (5, .int y2), (6, .int y3)]) hx hb dX2_keeps_163 hl (k := 3) rfl (nI_1 _) (by decide) rfl (fun ls hl => ?_)
                  refine lv_goto (tgt := 6) hx hb dX2_keeps_166 (by decide) ?_
                  exact ih (k + 1) 1 ls (by omega) (Or.inl ⟨rfl, fun i9 hi9 => by
                    by_cases e9 : i9 = k
                    · subst e9; exact Int64.not_lt.mp c3
                    · exact hz i9 (by omega)⟩) (lv_sub hl [0, 1, 4, 5, 6, 7, 8, 9, 10] rfl)
              · refine lv_iload hx hb dX2_keeps_131 (lv_at hl 3 rfl) ?_
                refine lv_if_eq (tgt := 160) hx hb dX2_keeps_133 (by decide) (fun _ => ?_) (fun c => absurd rfl c)
                refine lv_iconst (v := nI 0) hx hb dX2_keeps_160 (by decide) ?_
                refine lv_istore (lv' := [(7, .int (nI 0)), (11, .int (nI i)), (9, .long (smM nm k x1 x2 x3 y1 y2 y3 i)), (8, .int (nI k)), (0, .ref m0), (1, .int x1), (2, .int x2), (3, .int x3), (4, .int y1), (5, .int y2), (6, .int y3)]) hx hb dX2_keeps_161 hl (by decide) rfl (fun ls hl => ?_)
                refine lv_iinc (v := nI (k + 1)) (lv' := [(8, .int (nI (k + 1))), (7, .int (nI 0)), (11, .int (nI i)), (9, .long (smM nm k x1 x2 x3 y1 y2 y3 i)), (0, .ref m0), (1, .int x1), (2, .int x2), (3, .int x3), (4, .int y1), (5, .int y2), (6, .int y3)]) hx hb dX2_keeps_163 hl (k := 3) rfl (nI_1 _) (by decide) rfl (fun ls hl => ?_)
                refine lv_goto (tgt := 6) hx hb dX2_keeps_166 (by decide) ?_
                exact ih (k + 1) 0 ls (by omega) (Or.inr ⟨rfl, fun q => hz (fun i9 hi9 => q i9 (by omega))⟩) (lv_sub hl [0, 1, 4, 5, 6, 7, 8, 9, 10] rfl)
            · exact absurd (nI_le (by omega) (by omega)) c2
          | succ d2 ih2 =>
            intro i ls hi2 hl
            refine lv_iload hx hb dX2_keeps_21 (lv_at hl 0 rfl) ?_
            refine lv_aload_n hx hb dX2_keeps_23 rfl (lv_at hl 4 rfl) ?_
            refine va_get (D := (dC, dI)) (ci := 2) (v := .int (nI vn)) (C := RX2) (T := TX2) (N := 19) hx hb hts (fun _ h => List.mem_cons_of_mem _ (List.mem_append_right _ h)) hown hK hP 0 rfl rfl 0 (by decide) (hts (.fieldLink RX2 7 "RankFinderModel" "n" "I") (List.mem_of_getElem? (i := 2) rfl)) (fun _ h9 => h9) rfl dX2_keeps_24 ?_
            refine lv_icmp_ge (tgt := 131) hx hb dX2_keeps_27 (by decide) (fun c2 => ?_) (fun c2 => ?_)
            · exact absurd c2 (nI_ge (by omega) (by omega))
            · rcases (by omega : i = 0 ∨ i = 1 ∨ i = 2) with rfl | rfl | rfl
              · refine lv_iload hx hb dX2_keeps_30 (lv_at hl 0 rfl) ?_
                refine lv_if_ne (tgt := 40) hx hb dX2_keeps_32 (by decide) (fun c => absurd rfl c) (fun _ => ?_)
                refine lv_iload_n hx hb dX2_keeps_35 rfl (lv_at hl 5 rfl) ?_
                refine lv_i2l hx hb dX2_keeps_36 rfl ?_
                refine lv_goto (tgt := 53) hx hb dX2_keeps_37 (by decide) ?_
                refine lv_lstore (lv' := [(12, .long (Int32.toInt64 x1)), (11, .int (nI 0)), (9, .long (smM nm k x1 x2 x3 y1 y2 y3 0)), (8, .int (nI k)), (7, .int f9), (0, .ref m0), (1, .int x1), (2, .int x2), (3, .int x3), (4, .int y1), (5, .int y2), (6, .int y3)]) hx hb dX2_keeps_53 hl (by decide) rfl (fun ls hl => ?_)
                refine lv_iload hx hb dX2_keeps_55 (lv_at hl 1 rfl) ?_
                refine lv_if_ne (tgt := 66) hx hb dX2_keeps_57 (by decide) (fun c => absurd rfl c) (fun _ => ?_)
                refine lv_iload hx hb dX2_keeps_60 (lv_at hl 9 rfl) ?_
                refine lv_i2l hx hb dX2_keeps_62 rfl ?_
                refine lv_goto (tgt := 81) hx hb dX2_keeps_63 (by decide) ?_
                refine lv_lstore (lv' := [(14, .long (Int32.toInt64 y1)), (12, .long (Int32.toInt64 x1)), (11, .int (nI 0)), (9, .long (smM nm k x1 x2 x3 y1 y2 y3 0)), (8, .int (nI k)), (7, .int f9), (0, .ref m0), (1, .int x1), (2, .int x2), (3, .int x3), (4, .int y1), (5, .int y2), (6, .int y3)]) hx hb dX2_keeps_81 hl (by decide) rfl (fun ls hl => ?_)
                refine lv_lload hx hb dX2_keeps_83 (lv_at hl 3 rfl) ?_
                refine lv_aload_n hx hb dX2_keeps_85 rfl (lv_at hl 6 rfl) ?_
                refine va_get (D := (dC, dI)) (ci := 2) (v := .ref aN) (C := RX2) (T := TX2) (N := 19) hx hb hts (fun _ h => List.mem_cons_of_mem _ (List.mem_append_right _ h)) hown hK hP 0 rfl rfl 2 (by decide) (hts (.fieldLink RX2 13 "RankFinderModel" "numbers" "[I") (List.mem_of_getElem? (i := 3) rfl)) (fun _ h9 => h9) rfl dX2_keeps_86 ?_
                refine lv_bipush (v := nI 7) hx hb dX2_keeps_89 (by decide) ?_
                refine lv_iload hx hb dX2_keeps_91 (lv_at hl 4 rfl) ?_
                refine lv_imul hx hb dX2_keeps_93 ?_
                refine lv_topi (fun z_1 ez_1 => ?_)
                obtain rfl : z_1 = nI (7 * k) := ez_1.trans (pk_mul 7 k)
                refine lv_iload hx hb dX2_keeps_94 (lv_at hl 2 rfl) ?_
                refine lv_iadd hx hb dX2_keeps_96 ?_
                refine lv_topi (fun z_2 ez_2 => ?_)
                obtain rfl : z_2 = nI ((7 * k) + 0) := ez_2.trans (nI_add (7 * k) 0)
                refine na_iald hx hb hK hP 1 0 rfl rfl (show 7 * k + 0 < 56 by omega) (by decide) dX2_keeps_97 ?_
                refine lv_i2l hx hb dX2_keeps_98 rfl ?_
                refine lv_lload hx hb dX2_keeps_99 (lv_at hl 1 rfl) ?_
                refine lv_lmul hx hb dX2_keeps_101 ?_
                refine lv_aload_n hx hb dX2_keeps_102 rfl (lv_at hl 6 rfl) ?_
                refine va_get (D := (dC, dI)) (ci := 2) (v := .ref aN) (C := RX2) (T := TX2) (N := 19) hx hb hts (fun _ h => List.mem_cons_of_mem _ (List.mem_append_right _ h)) hown hK hP 0 rfl rfl 2 (by decide) (hts (.fieldLink RX2 13 "RankFinderModel" "numbers" "[I") (List.mem_of_getElem? (i := 3) rfl)) (fun _ h9 => h9) rfl dX2_keeps_103 ?_
                refine lv_bipush (v := nI 7) hx hb dX2_keeps_106 (by decide) ?_
                refine lv_iload hx hb dX2_keeps_108 (lv_at hl 4 rfl) ?_
                refine lv_imul hx hb dX2_keeps_110 ?_
                refine lv_topi (fun z_3 ez_3 => ?_)
                obtain rfl : z_3 = nI (7 * k) := ez_3.trans (pk_mul 7 k)
                refine lv_iconst (v := nI 3) hx hb dX2_keeps_111 (by decide) ?_
                refine lv_iadd hx hb dX2_keeps_112 ?_
                refine lv_topi (fun z_4 ez_4 => ?_)
                obtain rfl : z_4 = nI ((7 * k) + 3) := ez_4.trans (nI_add (7 * k) 3)
                refine lv_iload hx hb dX2_keeps_113 (lv_at hl 2 rfl) ?_
                refine lv_iadd hx hb dX2_keeps_115 ?_
                refine lv_topi (fun z_5 ez_5 => ?_)
                obtain rfl : z_5 = nI (((7 * k) + 3) + 0) := ez_5.trans (nI_add ((7 * k) + 3) 0)
                refine na_iald hx hb hK hP 1 0 rfl rfl (show 7 * k + 3 + 0 < 56 by omega) (by decide) dX2_keeps_116 ?_
                refine lv_i2l hx hb dX2_keeps_117 rfl ?_
                refine lv_lload hx hb dX2_keeps_118 (lv_at hl 0 rfl) ?_
                refine lv_lmul hx hb dX2_keeps_120 ?_
                refine lv_ladd hx hb dX2_keeps_121 ?_
                refine lv_ladd hx hb dX2_keeps_122 ?_
                refine lv_lstore (lv' := [(9, .long ((smM nm k x1 x2 x3 y1 y2 y3 0) + (((Int32.toInt64 (nm ((7 * k) + 0))) * (Int32.toInt64 x1)) + ((Int32.toInt64 (nm (((7 * k) + 3) + 0))) * (Int32.toInt64 y1))))), (14, .long (Int32.toInt64 y1)), (12, .long (Int32.toInt64 x1)), (11, .int (nI 0)), (8, .int (nI k)), (7, .int f9), (0, .ref m0), (1, .int x1), (2, .int x2), (3, .int x3), (4, .int y1), (5, .int y2), (6, .int y3)]) hx hb dX2_keeps_123 hl (by decide) rfl (fun ls hl => ?_)
                refine lv_iinc (v := nI (0 + 1)) (lv' := [(11, .int (nI (0 + 1))), (9, .long ((smM nm k x1 x2 x3 y1 y2 y3 0) + (((Int32.toInt64 (nm ((7 * k) + 0))) * (Int32.toInt64 x1)) + ((Int32.toInt64 (nm (((7 * k) + 3) + 0))) * (Int32.toInt64 y1))))), (14, .long (Int32.toInt64 y1)), (12, .long (Int32.toInt64 x1)), (8, .int (nI k)), (7, .int f9), (0, .ref m0), (1, .int x1), (2, .int x2), (3, .int x3), (4, .int y1), (5, .int y2), (6, .int y3)]) hx hb dX2_keeps_125 hl (k := 3) rfl (nI_1 _) (by decide) rfl (fun ls hl => ?_)
                refine lv_goto (tgt := 21) hx hb dX2_keeps_128 (by decide) ?_
                exact ih2 (0 + 1) ls (by omega) (lv_sub hl [0, 1, 4, 5, 6, 7, 8, 9, 10, 11, 12] rfl)
              · refine lv_iload hx hb dX2_keeps_30 (lv_at hl 0 rfl) ?_
                refine lv_if_ne (tgt := 40) hx hb dX2_keeps_32 (by decide) (fun _ => ?_) (fun c => absurd c (by decide))
                refine lv_iload hx hb dX2_keeps_40 (lv_at hl 0 rfl) ?_
                refine lv_iconst (v := nI 1) hx hb dX2_keeps_42 (by decide) ?_
                refine lv_icmp_ne (tgt := 51) hx hb dX2_keeps_43 (by decide) (fun c => absurd rfl c) (fun _ => ?_)
                refine lv_iload_n hx hb dX2_keeps_46 rfl (lv_at hl 6 rfl) ?_
                refine lv_i2l hx hb dX2_keeps_47 rfl ?_
                refine lv_goto (tgt := 53) hx hb dX2_keeps_48 (by decide) ?_
                refine lv_lstore (lv' := [(12, .long (Int32.toInt64 x2)), (11, .int (nI 1)), (9, .long (smM nm k x1 x2 x3 y1 y2 y3 1)), (8, .int (nI k)), (7, .int f9), (0, .ref m0), (1, .int x1), (2, .int x2), (3, .int x3), (4, .int y1), (5, .int y2), (6, .int y3)]) hx hb dX2_keeps_53 hl (by decide) rfl (fun ls hl => ?_)
                refine lv_iload hx hb dX2_keeps_55 (lv_at hl 1 rfl) ?_
                refine lv_if_ne (tgt := 66) hx hb dX2_keeps_57 (by decide) (fun _ => ?_) (fun c => absurd c (by decide))
                refine lv_iload hx hb dX2_keeps_66 (lv_at hl 1 rfl) ?_
                refine lv_iconst (v := nI 1) hx hb dX2_keeps_68 (by decide) ?_
                refine lv_icmp_ne (tgt := 78) hx hb dX2_keeps_69 (by decide) (fun c => absurd rfl c) (fun _ => ?_)
                refine lv_iload hx hb dX2_keeps_72 (lv_at hl 10 rfl) ?_
                refine lv_i2l hx hb dX2_keeps_74 rfl ?_
                refine lv_goto (tgt := 81) hx hb dX2_keeps_75 (by decide) ?_
                refine lv_lstore (lv' := [(14, .long (Int32.toInt64 y2)), (12, .long (Int32.toInt64 x2)), (11, .int (nI 1)), (9, .long (smM nm k x1 x2 x3 y1 y2 y3 1)), (8, .int (nI k)), (7, .int f9), (0, .ref m0), (1, .int x1), (2, .int x2), (3, .int x3), (4, .int y1), (5, .int y2), (6, .int y3)]) hx hb dX2_keeps_81 hl (by decide) rfl (fun ls hl => ?_)
                refine lv_lload hx hb dX2_keeps_83 (lv_at hl 3 rfl) ?_
                refine lv_aload_n hx hb dX2_keeps_85 rfl (lv_at hl 6 rfl) ?_
                refine va_get (D := (dC, dI)) (ci := 2) (v := .ref aN) (C := RX2) (T := TX2) (N := 19) hx hb hts (fun _ h => List.mem_cons_of_mem _ (List.mem_append_right _ h)) hown hK hP 0 rfl rfl 2 (by decide) (hts (.fieldLink RX2 13 "RankFinderModel" "numbers" "[I") (List.mem_of_getElem? (i := 3) rfl)) (fun _ h9 => h9) rfl dX2_keeps_86 ?_
                refine lv_bipush (v := nI 7) hx hb dX2_keeps_89 (by decide) ?_
                refine lv_iload hx hb dX2_keeps_91 (lv_at hl 4 rfl) ?_
                refine lv_imul hx hb dX2_keeps_93 ?_
                refine lv_topi (fun z_6 ez_6 => ?_)
                obtain rfl : z_6 = nI (7 * k) := ez_6.trans (pk_mul 7 k)
                refine lv_iload hx hb dX2_keeps_94 (lv_at hl 2 rfl) ?_
                refine lv_iadd hx hb dX2_keeps_96 ?_
                refine lv_topi (fun z_7 ez_7 => ?_)
                obtain rfl : z_7 = nI ((7 * k) + 1) := ez_7.trans (nI_add (7 * k) 1)
                refine na_iald hx hb hK hP 1 0 rfl rfl (show 7 * k + 1 < 56 by omega) (by decide) dX2_keeps_97 ?_
                refine lv_i2l hx hb dX2_keeps_98 rfl ?_
                refine lv_lload hx hb dX2_keeps_99 (lv_at hl 1 rfl) ?_
                refine lv_lmul hx hb dX2_keeps_101 ?_
                refine lv_aload_n hx hb dX2_keeps_102 rfl (lv_at hl 6 rfl) ?_
                refine va_get (D := (dC, dI)) (ci := 2) (v := .ref aN) (C := RX2) (T := TX2) (N := 19) hx hb hts (fun _ h => List.mem_cons_of_mem _ (List.mem_append_right _ h)) hown hK hP 0 rfl rfl 2 (by decide) (hts (.fieldLink RX2 13 "RankFinderModel" "numbers" "[I") (List.mem_of_getElem? (i := 3) rfl)) (fun _ h9 => h9) rfl dX2_keeps_103 ?_
                refine lv_bipush (v := nI 7) hx hb dX2_keeps_106 (by decide) ?_
                refine lv_iload hx hb dX2_keeps_108 (lv_at hl 4 rfl) ?_
                refine lv_imul hx hb dX2_keeps_110 ?_
                refine lv_topi (fun z_8 ez_8 => ?_)
                obtain rfl : z_8 = nI (7 * k) := ez_8.trans (pk_mul 7 k)
                refine lv_iconst (v := nI 3) hx hb dX2_keeps_111 (by decide) ?_
                refine lv_iadd hx hb dX2_keeps_112 ?_
                refine lv_topi (fun z_9 ez_9 => ?_)
                obtain rfl : z_9 = nI ((7 * k) + 3) := ez_9.trans (nI_add (7 * k) 3)
                refine lv_iload hx hb dX2_keeps_113 (lv_at hl 2 rfl) ?_
                refine lv_iadd hx hb dX2_keeps_115 ?_
                refine lv_topi (fun z_10 ez_10 => ?_)
                obtain rfl : z_10 = nI (((7 * k) + 3) + 1) := ez_10.trans (nI_add ((7 * k) + 3) 1)
                refine na_iald hx hb hK hP 1 0 rfl rfl (show 7 * k + 3 + 1 < 56 by omega) (by decide) dX2_keeps_116 ?_
                refine lv_i2l hx hb dX2_keeps_117 rfl ?_
                refine lv_lload hx hb dX2_keeps_118 (lv_at hl 0 rfl) ?_
                refine lv_lmul hx hb dX2_keeps_120 ?_
                refine lv_ladd hx hb dX2_keeps_121 ?_
                refine lv_ladd hx hb dX2_keeps_122 ?_
                refine lv_lstore (lv' := [(9, .long ((smM nm k x1 x2 x3 y1 y2 y3 1) + (((Int32.toInt64 (nm ((7 * k) + 1))) * (Int32.toInt64 x2)) + ((Int32.toInt64 (nm (((7 * k) + 3) + 1))) * (Int32.toInt64 y2))))), (14, .long (Int32.toInt64 y2)), (12, .long (Int32.toInt64 x2)), (11, .int (nI 1)), (8, .int (nI k)), (7, .int f9), (0, .ref m0), (1, .int x1), (2, .int x2), (3, .int x3), (4, .int y1), (5, .int y2), (6, .int y3)]) hx hb dX2_keeps_123 hl (by decide) rfl (fun ls hl => ?_)
                refine lv_iinc (v := nI (1 + 1)) (lv' := [(11, .int (nI (1 + 1))), (9, .long ((smM nm k x1 x2 x3 y1 y2 y3 1) + (((Int32.toInt64 (nm ((7 * k) + 1))) * (Int32.toInt64 x2)) + ((Int32.toInt64 (nm (((7 * k) + 3) + 1))) * (Int32.toInt64 y2))))), (14, .long (Int32.toInt64 y2)), (12, .long (Int32.toInt64 x2)), (8, .int (nI k)), (7, .int f9), (0, .ref m0), (1, .int x1), (2, .int x2), (3, .int x3), (4, .int y1), (5, .int y2), (6, .int y3)]) hx hb dX2_keeps_125 hl (k := 3) rfl (nI_1 _) (by decide) rfl (fun ls hl => ?_)
                refine lv_goto (tgt := 21) hx hb dX2_keeps_128 (by decide) ?_
                exact ih2 (1 + 1) ls (by omega) (lv_sub hl [0, 1, 4, 5, 6, 7, 8, 9, 10, 11, 12] rfl)
              · refine lv_iload hx hb dX2_keeps_30 (lv_at hl 0 rfl) ?_
                refine lv_if_ne (tgt := 40) hx hb dX2_keeps_32 (by decide) (fun _ => ?_) (fun c => absurd c (by decide))
                refine lv_iload hx hb dX2_keeps_40 (lv_at hl 0 rfl) ?_
                refine lv_iconst (v := nI 1) hx hb dX2_keeps_42 (by decide) ?_
                refine lv_icmp_ne (tgt := 51) hx hb dX2_keeps_43 (by decide) (fun _ => ?_) (fun c => absurd c (by decide))
                refine lv_iload_n hx hb dX2_keeps_51 rfl (lv_at hl 7 rfl) ?_
                refine lv_i2l hx hb dX2_keeps_52 rfl ?_
                refine lv_lstore (lv' := [(12, .long (Int32.toInt64 x3)), (11, .int (nI 2)), (9, .long (smM nm k x1 x2 x3 y1 y2 y3 2)), (8, .int (nI k)), (7, .int f9), (0, .ref m0), (1, .int x1), (2, .int x2), (3, .int x3), (4, .int y1), (5, .int y2), (6, .int y3)]) hx hb dX2_keeps_53 hl (by decide) rfl (fun ls hl => ?_)
                refine lv_iload hx hb dX2_keeps_55 (lv_at hl 1 rfl) ?_
                refine lv_if_ne (tgt := 66) hx hb dX2_keeps_57 (by decide) (fun _ => ?_) (fun c => absurd c (by decide))
                refine lv_iload hx hb dX2_keeps_66 (lv_at hl 1 rfl) ?_
                refine lv_iconst (v := nI 1) hx hb dX2_keeps_68 (by decide) ?_
                refine lv_icmp_ne (tgt := 78) hx hb dX2_keeps_69 (by decide) (fun _ => ?_) (fun c => absurd c (by decide))
                refine lv_iload hx hb dX2_keeps_78 (lv_at hl 11 rfl) ?_
                refine lv_i2l hx hb dX2_keeps_80 rfl ?_
                refine lv_lstore (lv' := [(14, .long (Int32.toInt64 y3)), (12, .long (Int32.toInt64 x3)), (11, .int (nI 2)), (9, .long (smM nm k x1 x2 x3 y1 y2 y3 2)), (8, .int (nI k)), (7, .int f9), (0, .ref m0), (1, .int x1), (2, .int x2), (3, .int x3), (4, .int y1), (5, .int y2), (6, .int y3)]) hx hb dX2_keeps_81 hl (by decide) rfl (fun ls hl => ?_)
                refine lv_lload hx hb dX2_keeps_83 (lv_at hl 3 rfl) ?_
                refine lv_aload_n hx hb dX2_keeps_85 rfl (lv_at hl 6 rfl) ?_
                refine va_get (D := (dC, dI)) (ci := 2) (v := .ref aN) (C := RX2) (T := TX2) (N := 19) hx hb hts (fun _ h => List.mem_cons_of_mem _ (List.mem_append_right _ h)) hown hK hP 0 rfl rfl 2 (by decide) (hts (.fieldLink RX2 13 "RankFinderModel" "numbers" "[I") (List.mem_of_getElem? (i := 3) rfl)) (fun _ h9 => h9) rfl dX2_keeps_86 ?_
                refine lv_bipush (v := nI 7) hx hb dX2_keeps_89 (by decide) ?_
                refine lv_iload hx hb dX2_keeps_91 (lv_at hl 4 rfl) ?_
                refine lv_imul hx hb dX2_keeps_93 ?_
                refine lv_topi (fun z_11 ez_11 => ?_)
                obtain rfl : z_11 = nI (7 * k) := ez_11.trans (pk_mul 7 k)
                refine lv_iload hx hb dX2_keeps_94 (lv_at hl 2 rfl) ?_
                refine lv_iadd hx hb dX2_keeps_96 ?_
                refine lv_topi (fun z_12 ez_12 => ?_)
                obtain rfl : z_12 = nI ((7 * k) + 2) := ez_12.trans (nI_add (7 * k) 2)
                refine na_iald hx hb hK hP 1 0 rfl rfl (show 7 * k + 2 < 56 by omega) (by decide) dX2_keeps_97 ?_
                refine lv_i2l hx hb dX2_keeps_98 rfl ?_
                refine lv_lload hx hb dX2_keeps_99 (lv_at hl 1 rfl) ?_
                refine lv_lmul hx hb dX2_keeps_101 ?_
                refine lv_aload_n hx hb dX2_keeps_102 rfl (lv_at hl 6 rfl) ?_
                refine va_get (D := (dC, dI)) (ci := 2) (v := .ref aN) (C := RX2) (T := TX2) (N := 19) hx hb hts (fun _ h => List.mem_cons_of_mem _ (List.mem_append_right _ h)) hown hK hP 0 rfl rfl 2 (by decide) (hts (.fieldLink RX2 13 "RankFinderModel" "numbers" "[I") (List.mem_of_getElem? (i := 3) rfl)) (fun _ h9 => h9) rfl dX2_keeps_103 ?_
                refine lv_bipush (v := nI 7) hx hb dX2_keeps_106 (by decide) ?_
                refine lv_iload hx hb dX2_keeps_108 (lv_at hl 4 rfl) ?_
                refine lv_imul hx hb dX2_keeps_110 ?_
                refine lv_topi (fun z_13 ez_13 => ?_)
                obtain rfl : z_13 = nI (7 * k) := ez_13.trans (pk_mul 7 k)
                refine lv_iconst (v := nI 3) hx hb dX2_keeps_111 (by decide) ?_
                refine lv_iadd hx hb dX2_keeps_112 ?_
                refine lv_topi (fun z_14 ez_14 => ?_)
                obtain rfl : z_14 = nI ((7 * k) + 3) := ez_14.trans (nI_add (7 * k) 3)
                refine lv_iload hx hb dX2_keeps_113 (lv_at hl 2 rfl) ?_
                refine lv_iadd hx hb dX2_keeps_115 ?_
                refine lv_topi (fun z_15 ez_15 => ?_)
                obtain rfl : z_15 = nI (((7 * k) + 3) + 2) := ez_15.trans (nI_add ((7 * k) + 3) 2)
                refine na_iald hx hb hK hP 1 0 rfl rfl (show 7 * k + 3 + 2 < 56 by omega) (by decide) dX2_keeps_116 ?_
                refine lv_i2l hx hb dX2_keeps_117 rfl ?_
                refine lv_lload hx hb dX2_keeps_118 (lv_at hl 0 rfl) ?_
                refine lv_lmul hx hb dX2_keeps_120 ?_
                refine lv_ladd hx hb dX2_keeps_121 ?_
                refine lv_ladd hx hb dX2_keeps_122 ?_
                refine lv_lstore (lv' := [(9, .long ((smM nm k x1 x2 x3 y1 y2 y3 2) + (((Int32.toInt64 (nm ((7 * k) + 2))) * (Int32.toInt64 x3)) + ((Int32.toInt64 (nm (((7 * k) + 3) + 2))) * (Int32.toInt64 y3))))), (14, .long (Int32.toInt64 y3)), (12, .long (Int32.toInt64 x3)), (11, .int (nI 2)), (8, .int (nI k)), (7, .int f9), (0, .ref m0), (1, .int x1), (2, .int x2), (3, .int x3), (4, .int y1), (5, .int y2), (6, .int y3)]) hx hb dX2_keeps_123 hl (by decide) rfl (fun ls hl => ?_)
                refine lv_iinc (v := nI (2 + 1)) (lv' := [(11, .int (nI (2 + 1))), (9, .long ((smM nm k x1 x2 x3 y1 y2 y3 2) + (((Int32.toInt64 (nm ((7 * k) + 2))) * (Int32.toInt64 x3)) + ((Int32.toInt64 (nm (((7 * k) + 3) + 2))) * (Int32.toInt64 y3))))), (14, .long (Int32.toInt64 y3)), (12, .long (Int32.toInt64 x3)), (8, .int (nI k)), (7, .int f9), (0, .ref m0), (1, .int x1), (2, .int x2), (3, .int x3), (4, .int y1), (5, .int y2), (6, .int y3)]) hx hb dX2_keeps_125 hl (k := 3) rfl (nI_1 _) (by decide) rfl (fun ls hl => ?_)
                refine lv_goto (tgt := 21) hx hb dX2_keeps_128 (by decide) ?_
                exact ih2 (2 + 1) ls (by omega) (lv_sub hl [0, 1, 4, 5, 6, 7, 8, 9, 10, 11, 12] rfl)
        exact inner vn 0 ls (by omega) (lv_sub hl [0, 1, 2, 3, 4, 5, 6, 7, 8, 9, 10] rfl)
  exact loop ct 0 1 ls (by omega) (Or.inl ⟨rfl, fun i hi => by omega⟩) (lv_sub hl [0, 1, 2, 3, 4, 5, 6, 7, 8] rfl)
