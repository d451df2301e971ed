/-! ===== RankFinder: commonFactor, ranks, least ===== -/
theorem abs_lN {a : Int64} (h : -9223372036854775808 < a.toInt) : (if 0 < a then a else -a) = lN a.toInt.natAbs := by
  have h1 := a.toInt_lt
  apply Int64.toInt_inj.mp
  rw [pk_lT (by omega)]
  split
  · rename_i q
    have := Int64.lt_iff_toInt_lt.mp q
    rw [show (0 : Int64).toInt = 0 from rfl] at this
    omega
  · rename_i q
    have : ¬ (0 : Int64).toInt < a.toInt := fun q2 => q (Int64.lt_iff_toInt_lt.mpr q2)
    rw [show (0 : Int64).toInt = 0 from rfl] at this
    rw [neg_int h]
    omega
set_option maxHeartbeats 1000000 in
set_option maxRecDepth 100000 in
/-- commonFactor(a, b) -/
theorem c_X1_commonFactor (l : Launch) (dC : Nat → ClassId) (dI : Nat → Nat → Nat) (sz : Nat) (a b : Int64) (ha : -9223372036854775808 < a.toInt) (hb9 : 0 < b.toInt) : Met l yX1_commonFactor wsX1_commonFactor ({ frames := 1, cells := 0, slots := 0, locals := 40 }) (va_Pc [.long a, .long b] (fun U => U.heap.size = sz ∧ va_P (dC, dI) vwCl ([] : va_W) U.heap ∧ va_K (dC, dI) vwCl [] U ∧ va_D (fun _ => True) ([] : va_W))) (va_Ql (fun (x : Int64) (v : Unit) => x = lN (Nat.gcd a.toInt.natAbs b.toInt.natAbs)) (fun v t => va_P (dC, dI) vwCl ([] : va_W) t.heap ∧ va_K (dC, dI) vwCl [] t ∧ va_D (va_A ([] : va_W) sz) ([] : va_W)) (va_A ([] : va_W) sz)) 0 0 (va_A ([] : va_W) sz) := by
  refine Met.ofW (cc := cX1_commonFactor) (maxL := 11) (ret := (some .long)) (by decide) rfl ?_
  intro p e s m args below meth c s₁ B hml hv
  obtain ⟨rfl, hsz, hP, hK, hD0⟩ := hv
  have hx := B.exec
  have hb := B.bytes
  have hr := B.returns
  have hts := atoms_spec (ws := wsX1_commonFactor) B.pre
  have hown : s.vm.findClass RX1 = some m.cls := findClass_of_methodNamed B.named
  subst hsz
  have hD := hD0.self (sz := s.heap.size)
  clear hD0
  generalize hAe : va_A ([] : va_W) s.heap.size = A at hD ⊢
  have hA : ∀ q : Nat, s.heap.size ≤ q → A q := fun q h => by rw [← hAe]; exact Or.inr h
  have hl := lv_entry ([.long a, .long b]) (n := 11) (Nat.le_of_ble_eq_true rfl)
  rw [lg_entry_eq]
  generalize (lg_sl ([.long a, .long b]) ++ List.replicate (11 - (lg_sl ([.long a, .long b])).length) Slot.unset).toArray = ls at hl ⊢
  have hl : lv_has ls 11 [(0, .long a), (2, .long b)] := hl
  have hP : va_P (dC, dI) vwCl ([] : va_W) s.heap := hP
  obtain ⟨H, hH⟩ : ∃ H, H = s.heap := ⟨_, rfl⟩
  have hS : va_S A s.heap H [] := by rw [hH]; exact va_S.rf
  rw [← hH] at hP ⊢
  refine lv_lload_n hx hb dX1_commonFactor_0 rfl (lv_at hl 0 rfl) ?_
  refine va_mabs_long hx hb (hml.trans hl.1.symm) hown (hts (.methodLink RX1 112 Lib.MathLoose.abs_long.x) (List.mem_of_getElem? (i := 1) rfl)) (hts (.static Lib.MathLoose.abs_long.x) (List.mem_of_getElem? (i := 2) rfl)) (hts (.initialized "java/lang/Math") (List.mem_of_getElem? (i := 3) rfl)) (hts (.code Lib.MathLoose.abs_long.x Lib.MathLoose.abs_long.code 2 (some .long)) (List.mem_of_getElem? (i := 4) rfl)) (Nat.le_of_ble_eq_true rfl) (Nat.le_of_ble_eq_true rfl) (Nat.zero_le _) (Nat.zero_le _) dX1_commonFactor_1 ?_
  rw [abs_lN ha]
  refine lv_lstore (lv' := [(4, .long (lN a.toInt.natAbs)), (0, .long a), (2, .long b)]) hx hb dX1_commonFactor_4 hl (by decide) rfl (fun ls hl => ?_)
  refine lv_lload_n hx hb dX1_commonFactor_6 rfl (lv_at hl 2 rfl) ?_
  refine va_mabs_long hx hb (hml.trans hl.1.symm) hown (hts (.methodLink RX1 112 Lib.MathLoose.abs_long.x) (List.mem_of_getElem? (i := 1) rfl)) (hts (.static Lib.MathLoose.abs_long.x) (List.mem_of_getElem? (i := 2) rfl)) (hts (.initialized "java/lang/Math") (List.mem_of_getElem? (i := 3) rfl)) (hts (.code Lib.MathLoose.abs_long.x Lib.MathLoose.abs_long.code 2 (some .long)) (List.mem_of_getElem? (i := 4) rfl)) (Nat.le_of_ble_eq_true rfl) (Nat.le_of_ble_eq_true rfl) (Nat.zero_le _) (Nat.zero_le _) dX1_commonFactor_7 ?_
  rw [abs_lN (a := b) (by omega)]
  refine lv_lstore (lv' := [(6, .long (lN b.toInt.natAbs)), (4, .long (lN a.toInt.natAbs)), (0, .long a), (2, .long b)]) hx hb dX1_commonFactor_10 hl (by decide) rfl (fun ls hl => ?_)
  refine lv_iconst (v := nI 0) hx hb dX1_commonFactor_12 (by decide) ?_
  refine lv_istore (lv' := [(8, .int (nI 0)), (6, .long (lN b.toInt.natAbs)), (4, .long (lN a.toInt.natAbs)), (0, .long a), (2, .long b)]) hx hb dX1_commonFactor_13 hl (by decide) rfl (fun ls hl => ?_)
  have hl1 := a.toInt_lt
  have hl2 := b.toInt_lt
  have loop : ∀ (d k z y : Nat) (ls : Array Slot), k + d = 1000 → z < 2 ^ 63 → y < 2 ^ 63 → 0 < z → (k = 0 ∨ (y < z ∧ z * y * 2 ^ k < 2 ^ 128)) → Nat.gcd z y = Nat.gcd a.toInt.natAbs b.toInt.natAbs → lv_has ls 11 [(8, .int (nI k)), (6, .long (lN y)), (4, .long (lN z)), (0, .long a), (2, .long b)] → W p l e (headSpec wsX1_commonFactor ({ frames := 1, cells := 0, slots := 0, locals := 40 })).room s m #[.long a, .long b] below meth c H [] 0 0 (MQ below (va_Ql (fun (x : Int64) (v : Unit) => x = lN (Nat.gcd a.toInt.natAbs b.toInt.natAbs)) (fun v t => va_P (dC, dI) vwCl ([] : va_W) t.heap ∧ va_K (dC, dI) vwCl [] t ∧ va_D A ([] : va_W)) A) #[.long a, .long b] s 0 0 A) (F0 m 15 ls []) := by
    clear hl
    intro d
    induction d with
    | zero =>
      intro k z y ls hk hz hy hz0 hi hg hl
      refine lv_iload hx hb dX1_commonFactor_15 (lv_at hl 0 rfl) ?_
      refine lv_sipush (v := nI 1000) hx hb dX1_commonFactor_17 (by decide) ?_
      refine lv_icmp_ge (tgt := 51) hx hb dX1_commonFactor_20 (by decide) (fun c1 => ?_) (fun c1 => ?_)
      · have hy0 : y = 0 := by
          rcases hi with q | ⟨q1, q2⟩
          · omega
          · apply Classical.byContradiction
            intro q3
            have e1 : 1 ≤ z * y := Nat.mul_pos hz0 (by omega)
            have e2 : 1 * 2 ^ k ≤ z * y * 2 ^ k := Nat.mul_le_mul_right _ e1
            have e3 : 2 ^ 128 ≤ 2 ^ k := Nat.pow_le_pow_right (by omega) (by omega)
            omega
        subst hy0
        refine lv_lload hx hb dX1_commonFactor_51 (lv_at hl 2 rfl) ?_
        refine lv_lconst (v := 1) hx hb dX1_commonFactor_53 (by decide) ?_
        refine va_mmax_long hx hb (hml.trans hl.1.symm) hown (hts (.methodLink RX1 118 Lib.MathLoose.max_long.x) (List.mem_of_getElem? (i := 5) rfl)) (hts (.static Lib.MathLoose.max_long.x) (List.mem_of_getElem? (i := 6) rfl)) (hts (.initialized "java/lang/Math") (List.mem_of_getElem? (i := 3) rfl)) (hts (.code Lib.MathLoose.max_long.x Lib.MathLoose.max_long.code 4 (some .long)) (List.mem_of_getElem? (i := 7) rfl)) (Nat.le_of_ble_eq_true rfl) (Nat.le_of_ble_eq_true rfl) (Nat.zero_le _) (Nat.zero_le _) dX1_commonFactor_54 ?_
        rw [show (if (1 : Int64) < lN z then lN z else 1) = lN z from by
          by_cases q : 1 < z
          · exact if_pos ((pk_lLT (a := 1) (by omega) hz).mpr q)
          · rw [show z = 1 by omega]; rfl]
        exact W.lret (v := (lN z)) hx hb hr (fun t ht hW => ⟨⟨(lN z), (), rfl, by rw [← hg]; simp, by rw [ht]; exact hP, va_K.moved hW.alike hK, hD⟩, hS.F ht⟩) hS.2.2 dX1_commonFactor_57
      · exact absurd (nI_le (by omega) (by omega)) c1
    | succ d ih =>
      intro k z y ls hk hz hy hz0 hi hg hl
      refine lv_iload hx hb dX1_commonFactor_15 (lv_at hl 0 rfl) ?_
      refine lv_sipush (v := nI 1000) hx hb dX1_commonFactor_17 (by decide) ?_
      refine lv_icmp_ge (tgt := 51) hx hb dX1_commonFactor_20 (by decide) (fun c1 => ?_) (fun c1 => ?_)
      · exact absurd c1 (nI_ge (by omega) (by omega))
      · refine lv_lload hx hb dX1_commonFactor_23 (lv_at hl 1 rfl) ?_
        refine lv_lconst (v := 0) hx hb dX1_commonFactor_25 (by decide) ?_
        refine W.lcmp hx hb dX1_commonFactor_26 ?_
        refine lv_if_eq (tgt := 51) hx hb dX1_commonFactor_27 (by decide) (fun c2 => ?_) (fun c2 => ?_)
        · rw [lg_cmp_eq] at c2
          have hy0 : y = 0 := (pk_lEQ (b := 0) hy (by omega)).mp c2
          subst hy0
          refine lv_lload hx hb dX1_commonFactor_51 (lv_at hl 2 rfl) ?_
          refine lv_lconst (v := 1) hx hb dX1_commonFactor_53 (by decide) ?_
          refine va_mmax_long hx hb (hml.trans hl.1.symm) hown (hts (.methodLink RX1 118 Lib.MathLoose.max_long.x) (List.mem_of_getElem? (i := 5) rfl)) (hts (.static Lib.MathLoose.max_long.x) (List.mem_of_getElem? (i := 6) rfl)) (hts (.initialized "java/lang/Math") (List.mem_of_getElem? (i := 3) rfl)) (hts (.code Lib.MathLoose.max_long.x Lib.MathLoose.max_long.code 4 (some .long)) (List.mem_of_getElem? (i := 7) rfl)) (Nat.le_of_ble_eq_true rfl) (Nat.le_of_ble_eq_true rfl) (Nat.zero_le _) (Nat.zero_le _) dX1_commonFactor_54 ?_
          rw [show (if (1 : Int64) < lN z then lN z else 1) = lN z from by
            by_cases q : 1 < z
            · exact if_pos ((pk_lLT (a := 1) (by omega) hz).mpr q)
            · rw [show z = 1 by omega]; rfl]
          exact W.lret (v := (lN z)) hx hb hr (fun t ht hW => ⟨⟨(lN z), (), rfl, by rw [← hg]; simp, by rw [ht]; exact hP, va_K.moved hW.alike hK, hD⟩, hS.F ht⟩) hS.2.2 dX1_commonFactor_57
        · rw [lg_cmp_eq] at c2
          have hy0 : 0 < y := Nat.pos_of_ne_zero (fun q => c2 (by rw [q]; rfl))
          refine lv_lload hx hb dX1_commonFactor_30 (lv_at hl 2 rfl) ?_
          refine lv_lload hx hb dX1_commonFactor_32 (lv_at hl 1 rfl) ?_
          refine lv_lrem hx hb dX1_commonFactor_34 (fun q => c2 q) ?_
          refine lv_topl (fun z_1 ez_1 => ?_)
          obtain rfl : z_1 = lN (z % y) := ez_1.trans (pk_lRem hz hy0 hy)
          refine lv_lstore (lv' := [(9, .long (lN (z % y))), (8, .int (nI k)), (6, .long (lN y)), (4, .long (lN z)), (0, .long a), (2, .long b)]) hx hb dX1_commonFactor_35 hl (by decide) rfl (fun ls hl => ?_)
          refine lv_lload hx hb dX1_commonFactor_37 (lv_at hl 2 rfl) ?_
          refine lv_lstore (lv' := [(4, .long (lN y)), (9, .long (lN (z % y))), (8, .int (nI k)), (6, .long (lN y)), (0, .long a), (2, .long b)]) hx hb dX1_commonFactor_39 hl (by decide) rfl (fun ls hl => ?_)
          refine lv_lload hx hb dX1_commonFactor_41 (lv_at hl 1 rfl) ?_
          refine lv_lstore (lv' := [(6, .long (lN (z % y))), (4, .long (lN y)), (9, .long (lN (z % y))), (8, .int (nI k)), (0, .long a), (2, .long b)]) hx hb dX1_commonFactor_43 hl (by decide) rfl (fun ls hl => ?_)
          refine lv_iinc (v := nI (k + 1)) (lv' := [(8, .int (nI (k + 1))), (6, .long (lN (z % y))), (4, .long (lN y)), (9, .long (lN (z % y))), (0, .long a), (2, .long b)]) hx hb dX1_commonFactor_45 hl (k := 3) rfl (nI_1 _) (by decide) rfl (fun ls hl => ?_)
          refine lv_goto (tgt := 15) hx hb dX1_commonFactor_48 (by decide) ?_
          have hlt : z % y < y := Nat.mod_lt _ hy0
          refine ih (k + 1) y (z % y) ls (by omega) hy (by omega) hy0 (Or.inr ⟨hlt, ?_⟩) (by rw [Nat.gcd_comm y, ← Nat.gcd_rec, Nat.gcd_comm]; exact hg) (lv_sub hl [0, 1, 2, 4, 5] rfl)
          rcases hi with q | ⟨q1, q2⟩
          · subst q
            have e1 : y * (z % y) ≤ y * y := Nat.mul_le_mul_left _ (by omega)
            have e2 : y * y ≤ 2 ^ 63 * 2 ^ 63 := Nat.mul_le_mul (by omega) (by omega)
            omega
          · have e1 : 2 * (z % y) ≤ z := by
              have := Nat.mod_add_div z y
              have e3 : 1 ≤ z / y := Nat.div_pos (by omega) hy0
              have e4 : y * 1 ≤ y * (z / y) := Nat.mul_le_mul_left _ e3
              omega
            have e2 : y * (z % y) * 2 ^ (k + 1) ≤ z * y * 2 ^ k := by
              rw [Nat.pow_succ, show y * (z % y) * (2 ^ k * 2) = y * (2 * (z % y)) * 2 ^ k by grind, Nat.mul_comm z y]
              exact Nat.mul_le_mul_right _ (Nat.mul_le_mul_left _ e1)
            omega
  by_cases h0 : 0 < a.toInt.natAbs
  · exact loop 1000 0 a.toInt.natAbs b.toInt.natAbs ls (by omega) (by omega) (by omega) h0 (Or.inl rfl) rfl (lv_sub hl [0, 1, 2, 3, 4] rfl)
  · have e0 : a.toInt.natAbs = 0 := by omega
    rw [e0] at hl
    refine lv_iload hx hb dX1_commonFactor_15 (lv_at hl 0 rfl) ?_
    refine lv_sipush (v := nI 1000) hx hb dX1_commonFactor_17 (by decide) ?_
    refine lv_icmp_ge (tgt := 51) hx hb dX1_commonFactor_20 (by decide) (fun c1 => ?_) (fun c1 => ?_)
    · exact absurd c1 (nI_ge (by omega) (by omega))
    · refine lv_lload hx hb dX1_commonFactor_23 (lv_at hl 1 rfl) ?_
      refine lv_lconst (v := 0) hx hb dX1_commonFactor_25 (by decide) ?_
      refine W.lcmp hx hb dX1_commonFactor_26 ?_
      refine lv_if_eq (tgt := 51) hx hb dX1_commonFactor_27 (by decide) (fun c2 => ?_) (fun c2 => ?_)
      · rw [lg_cmp_eq] at c2
        exact absurd ((pk_lEQ (b := 0) (by omega) (by omega)).mp c2) (by omega)
      · refine lv_lload hx hb dX1_commonFactor_30 (lv_at hl 2 rfl) ?_
        refine lv_lload hx hb dX1_commonFactor_32 (lv_at hl 1 rfl) ?_
        rw [lg_cmp_eq] at c2
        refine lv_lrem hx hb dX1_commonFactor_34 (fun q => c2 q) ?_
        refine lv_topl (fun z_1 ez_1 => ?_)
        obtain rfl : z_1 = lN 0 := ez_1.trans ((pk_lRem (by omega) (by omega) (by omega)).trans (by rw [Nat.zero_mod]))
        refine lv_lstore (lv' := [(9, .long (lN 0)), (8, .int (nI 0)), (6, .long (lN b.toInt.natAbs)), (4, .long (lN 0)), (0, .long a), (2, .long b)]) hx hb dX1_commonFactor_35 hl (by decide) rfl (fun ls hl => ?_)
        refine lv_lload hx hb dX1_commonFactor_37 (lv_at hl 2 rfl) ?_
        refine lv_lstore (lv' := [(4, .long (lN b.toInt.natAbs)), (9, .long (lN 0)), (8, .int (nI 0)), (6, .long (lN b.toInt.natAbs)), (0, .long a), (2, .long b)]) hx hb dX1_commonFactor_39 hl (by decide) rfl (fun ls hl => ?_)
        refine lv_lload hx hb dX1_commonFactor_41 (lv_at hl 1 rfl) ?_
        refine lv_lstore (lv' := [(6, .long (lN 0)), (4, .long (lN b.toInt.natAbs)), (9, .long (lN 0)), (8, .int (nI 0)), (0, .long a), (2, .long b)]) hx hb dX1_commonFactor_43 hl (by decide) rfl (fun ls hl => ?_)
        refine lv_iinc (v := nI (0 + 1)) (lv' := [(8, .int (nI (0 + 1))), (6, .long (lN 0)), (4, .long (lN b.toInt.natAbs)), (9, .long (lN 0)), (0, .long a), (2, .long b)]) hx hb dX1_commonFactor_45 hl (k := 3) rfl (nI_1 _) (by decide) rfl (fun ls hl => ?_)
        refine lv_goto (tgt := 15) hx hb dX1_commonFactor_48 (by decide) ?_
        exact loop 999 1 b.toInt.natAbs 0 ls (by omega) (by omega) (by omega) (by omega) (Or.inr ⟨by omega, by simp⟩) (by rw [e0]; simp) (lv_sub hl [0, 1, 2, 4, 5] rfl)
