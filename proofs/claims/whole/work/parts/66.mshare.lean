/-! ===== the reference: share ===== -/
theorem sh_no {Y b g : Nat} (h : 2 * (Y % g) + b < g) : (2 * Y + b) % g = 2 * (Y % g) + b ∧ (2 * Y + b) / g = 2 * (Y / g) := by
  have e : 2 * Y + b = (2 * (Y % g) + b) + g * (2 * (Y / g)) := by have := Nat.mod_add_div Y g; grind
  constructor
  · rw [e, Nat.add_mul_mod_self_left, Nat.mod_eq_of_lt h]
  · rw [e, Nat.add_mul_div_left _ _ (by omega), Nat.div_eq_of_lt h]; omega
theorem sh_yes {Y b g : Nat} (h : g ≤ 2 * (Y % g) + b) (h2 : 2 * (Y % g) + b < 2 * g) : (2 * Y + b) % g = 2 * (Y % g) + b - g ∧ (2 * Y + b) / g = 2 * (Y / g) + 1 := by
  have e : 2 * Y + b = (2 * (Y % g) + b - g) + g * (2 * (Y / g) + 1) := by
    have := Nat.mod_add_div Y g
    have e2 : g * (2 * (Y / g) + 1) = 2 * (g * (Y / g)) + g := by grind
    omega
  have h3 : 2 * (Y % g) + b - g < g := by omega
  constructor
  · rw [e, Nat.add_mul_mod_self_left, Nat.mod_eq_of_lt h3]
  · rw [e, Nat.add_mul_div_left _ _ (by omega), Nat.div_eq_of_lt h3]; omega
theorem sh_bit (X k : Nat) : X / 2 ^ k = 2 * (X / 2 ^ (k + 1)) + X / 2 ^ k % 2 := by
  rw [Nat.pow_succ, ← Nat.div_div_eq_div_mul]; omega
theorem uN_and1 (x : Int64) : uN (x &&& 1) = uN x % 2 := by
  show (x.toUInt64 &&& Int64.toUInt64 1).toNat = _
  rw [UInt64.toNat_and]
  exact Nat.and_two_pow_sub_one_eq_mod _ 1
theorem sh_lo {h l : Int64} {k : Nat} (hk : k < 64) : uN (ur l (nI k) &&& 1) = w2 h l / 2 ^ k % 2 := by
  rw [uN_and1, ur_N _ hk]
  unfold w2
  rw [show (18446744073709551616 : Nat) = 2 ^ k * (2 * 2 ^ (63 - k)) by rw [← Nat.pow_succ', ← Nat.pow_add, show k + (63 - k + 1) = 64 by omega]]
  rw [show uN h * (2 ^ k * (2 * 2 ^ (63 - k))) + uN l = uN l + 2 ^ k * (2 * (uN h * 2 ^ (63 - k))) by grind, Nat.add_mul_div_left _ _ (Nat.two_pow_pos _)]
  omega
theorem sh_hi {h l : Int64} {k : Nat} (hk : k < 64) : uN (ur h (nI k) &&& 1) = w2 h l / 2 ^ (k + 64) % 2 := by
  rw [uN_and1, ur_N _ hk, Nat.pow_add, Nat.mul_comm (2 ^ k), ← Nat.div_div_eq_div_mul]
  congr 2
  unfold w2
  have := uN_lt l
  omega
theorem w2_eqh {h l g k : Int64} (e : w2 h l = w2 g k) : h = g := by
  unfold w2 at e
  have h1 := uN_lt l
  have h2 := uN_lt k
  exact uN_inj (by omega)
set_option maxHeartbeats 1000000 in
set_option maxRecDepth 100000 in
/-- share(high, low) -/
theorem c_X2_share (l : Launch) (dC : Nat → ClassId) (dI : Nat → Nat → Nat) (sz : Nat) (m0 aN aR aX aO aP aH aL aW : Nat) (cI cJ : ClassId) (vn ct : Nat) (nm : Nat → Int32) (tp bt : Int64) (an : Int32) (rw nx : Nat → Int64) (og no : Nat → Int32) (rc nc : Nat) (hgh lws : Nat → Int64) (dh dl fT fB : Int64) (wd : Nat → Int32) (xh xl : Int64) (hg0 : 0 < w2 dh dl) (hg1 : w2 dh dl < 85070591730234615865843651857942052864) : Met l yX2_share wsX2_share ({ frames := 1, cells := 0, slots := 0, locals := 23 }) (va_Pc [.ref m0, .long xh, .long xl] (fun U => U.heap.size = sz ∧ va_P (dC, dI) vwCl (mdW m0 aN aR aX aO aP aH aL aW cI cJ vn ct nm tp bt an rw nx og no rc nc hgh lws dh dl fT fB wd) U.heap ∧ va_K (dC, dI) vwCl [(cI, .int), (cJ, .long)] U ∧ va_D (fun _ => True) (mdW m0 aN aR aX aO aP aH aL aW cI cJ vn ct nm tp bt an rw nx og no rc nc hgh lws dh dl fT fB wd))) (va_Ql (fun (x : Int64) (v : Unit) => uN x = (w2 xh xl / w2 dh dl) % 18446744073709551616) (fun v t => va_P (dC, dI) vwCl (mdW m0 aN aR aX aO aP aH aL aW cI cJ vn ct nm tp bt an rw nx og no rc nc hgh lws dh dl fT fB wd) t.heap ∧ va_K (dC, dI) vwCl [(cI, .int), (cJ, .long)] t ∧ va_D (va_A (mdW m0 aN aR aX aO aP aH aL aW cI cJ vn ct nm tp bt an rw nx og no rc nc hgh lws dh dl fT fB wd) sz) (mdW m0 aN aR aX aO aP aH aL aW cI cJ vn ct nm tp bt an rw nx og no rc nc hgh lws dh dl fT fB wd)) (va_A (mdW m0 aN aR aX aO aP aH aL aW cI cJ vn ct nm tp bt an rw nx og no rc nc hgh lws dh dl fT fB wd) sz)) 0 0 (va_A (mdW m0 aN aR aX aO aP aH aL aW cI cJ vn ct nm tp bt an rw nx og no rc nc hgh lws dh dl fT fB wd) sz) := by
  refine Met.ofW (cc := cX2_share) (maxL := 14) (ret := (some .long)) (by decide) rfl ?_
  intro p e s m args below meth c s₁ B hml hv
  obtain ⟨rfl, hsz, hP, hK, hD0⟩ := hv
  have hx := B.exec
  have hb := B.bytes
  have hr := B.returns
  have hts := atoms_spec (ws := wsX2_share) B.pre
  have hown : s.vm.findClass RX2 = some m.cls := findClass_of_methodNamed B.named
  subst hsz
  have hD := hD0.self (sz := s.heap.size)
  clear hD0
  generalize hAe : va_A (mdW m0 aN aR aX aO aP aH aL aW cI cJ vn ct nm tp bt an rw nx og no rc nc hgh lws dh dl fT fB wd) s.heap.size = A at hD ⊢
  have hA : ∀ q : Nat, s.heap.size ≤ q → A q := fun q h => by rw [← hAe]; exact Or.inr h
  have hl := lv_entry ([.ref m0, .long xh, .long xl]) (n := 14) (Nat.le_of_ble_eq_true rfl)
  rw [lg_entry_eq]
  generalize (lg_sl ([.ref m0, .long xh, .long xl]) ++ List.replicate (14 - (lg_sl ([.ref m0, .long xh, .long xl])).length) Slot.unset).toArray = ls at hl ⊢
  have hl : lv_has ls 14 [(0, .ref m0), (1, .long xh), (3, .long xl)] := hl
  have hP : va_P (dC, dI) vwCl (mdW m0 aN aR aX aO aP aH aL aW cI cJ vn ct nm tp bt an rw nx og no rc nc hgh lws dh dl fT fB wd) s.heap := hP
  obtain ⟨H, hH⟩ : ∃ H, H = s.heap := ⟨_, rfl⟩
  have hS : va_S A s.heap H [] := by rw [hH]; exact va_S.rf
  rw [← hH] at hP ⊢
  refine lv_lconst (v := 0) hx hb dX2_share_0 (by decide) ?_
  refine lv_lstore (lv' := [(5, .long 0), (0, .ref m0), (1, .long xh), (3, .long xl)]) hx hb dX2_share_1 hl (by decide) rfl (fun ls hl => ?_)
  refine lv_lconst (v := 0) hx hb dX2_share_3 (by decide) ?_
  refine lv_lstore (lv' := [(7, .long 0), (5, .long 0), (0, .ref m0), (1, .long xh), (3, .long xl)]) hx hb dX2_share_4 hl (by decide) rfl (fun ls hl => ?_)
  refine lv_lconst (v := 0) hx hb dX2_share_6 (by decide) ?_
  refine lv_lstore (lv' := [(9, .long 0), (7, .long 0), (5, .long 0), (0, .ref m0), (1, .long xh), (3, .long xl)]) hx hb dX2_share_7 hl (by decide) rfl (fun ls hl => ?_)
  refine lv_bipush (v := nI 127) hx hb dX2_share_9 (by decide) ?_
  refine lv_istore (lv' := [(11, .int (nI 127)), (9, .long 0), (7, .long 0), (5, .long 0), (0, .ref m0), (1, .long xh), (3, .long xl)]) hx hb dX2_share_11 hl (by decide) rfl (fun ls hl => ?_)
  obtain ⟨X, hX⟩ : ∃ X, X = w2 xh xl := ⟨_, rfl⟩
  obtain ⟨g, hg⟩ : ∃ g, g = w2 dh dl := ⟨_, rfl⟩
  have loop : ∀ (d : Nat) (k9 : Int32) (rh rl qt : Int64) (H : Heap) (locs : List Loc) (ls : Array Slot), d ≤ 128 → k9 = nI d + (-1) → w2 rh rl = X / 2 ^ d % g → uN qt = X / 2 ^ d / g % 18446744073709551616 → va_P (dC, dI) vwCl (mdW m0 aN aR aX aO aP aH aL aW cI cJ vn ct nm tp bt an rw nx og no rc nc hgh lws dh dl fT fB wd) H → va_K (dC, dI) vwCl [(cI, .int), (cJ, .long)] s → va_D A (mdW m0 aN aR aX aO aP aH aL aW cI cJ vn ct nm tp bt an rw nx og no rc nc hgh lws dh dl fT fB wd) → va_S A s.heap H locs → lv_has ls 14 [(11, .int k9), (9, .long qt), (7, .long rl), (5, .long rh), (0, .ref m0), (1, .long xh), (3, .long xl)] → W p l e (headSpec wsX2_share ({ frames := 1, cells := 0, slots := 0, locals := 23 })).room s m #[.ref m0, .long xh, .long xl] below meth c H locs 0 0 (MQ below (va_Ql (fun (x : Int64) (v : Unit) => uN x = (w2 xh xl / w2 dh dl) % 18446744073709551616) (fun v t => va_P (dC, dI) vwCl (mdW m0 aN aR aX aO aP aH aL aW cI cJ vn ct nm tp bt an rw nx og no rc nc hgh lws dh dl fT fB wd) t.heap ∧ va_K (dC, dI) vwCl [(cI, .int), (cJ, .long)] t ∧ va_D A (mdW m0 aN aR aX aO aP aH aL aW cI cJ vn ct nm tp bt an rw nx og no rc nc hgh lws dh dl fT fB wd)) A) #[.ref m0, .long xh, .long xl] s 0 0 A) (F0 m 13 ls []) := by
    clear hP hK hD hS hl
    intro d
    induction d with
    | zero =>
      intro k9 rh rl qt H locs ls hd9 hk hr9 hq9 hP hK hD hS hl
      subst hk
      refine lv_iload hx hb dX2_share_13 (lv_at hl 0 rfl) ?_
      refine lv_if_lt (tgt := 152) hx hb dX2_share_15 (by decide) (fun c1 => ?_) (fun c1 => ?_)
      · refine lv_lload hx hb dX2_share_152 (lv_at hl 1 rfl) ?_
        exact W.lret (v := qt) hx hb hr (fun t ht hW => ⟨⟨qt, (), rfl, by show uN qt = _; rw [← hX, ← hg, hq9, Nat.pow_zero, Nat.div_one], by rw [ht]; exact hP, va_K.moved hW.alike hK, hD⟩, hS.F ht⟩) hS.2.2 dX2_share_154
      · exact absurd (by decide) c1
    | succ k ih =>
      intro k9 rh rl qt H locs ls hd9 hk hr9 hq9 hP hK hD hS hl
      obtain rfl : k9 = nI k := by rw [hk, show (-1 : Int32) = -(nI 1) from rfl, ← nI_add]; grind
      have hrl : w2 rh rl < g := by rw [hr9]; exact Nat.mod_lt _ (by omega)
      obtain ⟨b, hbe⟩ : ∃ b, b = X / 2 ^ k % 2 := ⟨_, rfl⟩
      have hb2 : b < 2 := by rw [hbe]; exact Nat.mod_lt _ (by decide)
      have hsb := sh_bit X k
      rw [← hbe] at hsb
      have skip : ∀ (rh rl qt : Int64) (H : Heap) (locs : List Loc) (ls : Array Slot), w2 rh rl = X / 2 ^ k % g → uN qt = X / 2 ^ k / g % 18446744073709551616 → va_P (dC, dI) vwCl (mdW m0 aN aR aX aO aP aH aL aW cI cJ vn ct nm tp bt an rw nx og no rc nc hgh lws dh dl fT fB wd) H → va_K (dC, dI) vwCl [(cI, .int), (cJ, .long)] s → va_D A (mdW m0 aN aR aX aO aP aH aL aW cI cJ vn ct nm tp bt an rw nx og no rc nc hgh lws dh dl fT fB wd) → va_S A s.heap H locs → lv_has ls 14 [(11, .int (nI k)), (9, .long qt), (7, .long rl), (5, .long rh), (0, .ref m0), (1, .long xh), (3, .long xl)] → W p l e (headSpec wsX2_share ({ frames := 1, cells := 0, slots := 0, locals := 23 })).room s m #[.ref m0, .long xh, .long xl] below meth c H locs 0 0 (MQ below (va_Ql (fun (x : Int64) (v : Unit) => uN x = (w2 xh xl / w2 dh dl) % 18446744073709551616) (fun v t => va_P (dC, dI) vwCl (mdW m0 aN aR aX aO aP aH aL aW cI cJ vn ct nm tp bt an rw nx og no rc nc hgh lws dh dl fT fB wd) t.heap ∧ va_K (dC, dI) vwCl [(cI, .int), (cJ, .long)] t ∧ va_D A (mdW m0 aN aR aX aO aP aH aL aW cI cJ vn ct nm tp bt an rw nx og no rc nc hgh lws dh dl fT fB wd)) A) #[.ref m0, .long xh, .long xl] s 0 0 A) (F0 m 146 ls []) := by
        clear hP hK hD hS hl hr9 hq9 hrl
        intro rh rl qt H locs ls hr9 hq9 hP hK hD hS hl
        refine lv_iinc (v := (nI k) + (-1)) (lv' := [(11, .int ((nI k) + (-1))), (9, .long qt), (7, .long rl), (5, .long rh), (0, .ref m0), (1, .long xh), (3, .long xl)]) hx hb dX2_share_146 hl (k := 0) rfl rfl (by decide) rfl (fun ls hl => ?_)
        refine lv_goto (tgt := 13) hx hb dX2_share_149 (by decide) ?_
        exact ih (nI k + (-1)) rh rl qt H _ ls (by omega) rfl hr9 hq9 hP hK hD hS (lv_sub hl [0, 1, 2, 3, 4, 5, 6] rfl)
      have take : ∀ (rh rl qt : Int64) (H : Heap) (locs : List Loc) (ls : Array Slot), w2 rh rl = 2 * (X / 2 ^ (k + 1) % g) + b → g ≤ w2 rh rl → w2 rh rl < 2 * g → uN qt = 2 * (X / 2 ^ (k + 1) / g) % 18446744073709551616 → va_P (dC, dI) vwCl (mdW m0 aN aR aX aO aP aH aL aW cI cJ vn ct nm tp bt an rw nx og no rc nc hgh lws dh dl fT fB wd) H → va_K (dC, dI) vwCl [(cI, .int), (cJ, .long)] s → va_D A (mdW m0 aN aR aX aO aP aH aL aW cI cJ vn ct nm tp bt an rw nx og no rc nc hgh lws dh dl fT fB wd) → va_S A s.heap H locs → lv_has ls 14 [(11, .int (nI k)), (9, .long qt), (7, .long rl), (5, .long rh), (0, .ref m0), (1, .long xh), (3, .long xl)] → W p l e (headSpec wsX2_share ({ frames := 1, cells := 0, slots := 0, locals := 23 })).room s m #[.ref m0, .long xh, .long xl] below meth c H locs 0 0 (MQ below (va_Ql (fun (x : Int64) (v : Unit) => uN x = (w2 xh xl / w2 dh dl) % 18446744073709551616) (fun v t => va_P (dC, dI) vwCl (mdW m0 aN aR aX aO aP aH aL aW cI cJ vn ct nm tp bt an rw nx og no rc nc hgh lws dh dl fT fB wd) t.heap ∧ va_K (dC, dI) vwCl [(cI, .int), (cJ, .long)] t ∧ va_D A (mdW m0 aN aR aX aO aP aH aL aW cI cJ vn ct nm tp bt an rw nx og no rc nc hgh lws dh dl fT fB wd)) A) #[.ref m0, .long xh, .long xl] s 0 0 A) (F0 m 104 ls []) := by
        clear hP hK hD hS hl hr9 hq9 hrl
        intro rh rl qt H locs ls hr9 hge hlt hq9 hP hK hD hS hl
        obtain ⟨s1, s2⟩ := sh_yes (Y := X / 2 ^ (k + 1)) (b := b) (g := g) (by omega) (by omega)
        rw [← hsb] at s1 s2
        refine lv_lload hx hb dX2_share_104 (lv_at hl 3 rfl) ?_
        refine lv_aload_n hx hb dX2_share_106 rfl (lv_at hl 4 rfl) ?_
        refine va_get (D := (dC, dI)) (ci := 2) (v := .long dh) (C := RX2) (T := TX2) (N := 19) hx hb hts (fun _ h => List.mem_cons_of_mem _ (List.mem_append_right _ h)) hown hK hP 0 rfl rfl 14 (by decide) (hts (.fieldLink RX2 65 "RankFinderModel" "divisorHigh" "J") (List.mem_of_getElem? (i := 1) rfl)) (fun _ h9 => h9) rfl dX2_share_107 ?_
        refine lv_lsub hx hb dX2_share_110 ?_
        refine lv_lload hx hb dX2_share_111 (lv_at hl 2 rfl) ?_
        refine lv_aload_n hx hb dX2_share_113 rfl (lv_at hl 4 rfl) ?_
        refine va_get (D := (dC, dI)) (ci := 2) (v := .long dl) (C := RX2) (T := TX2) (N := 19) hx hb hts (fun _ h => List.mem_cons_of_mem _ (List.mem_append_right _ h)) hown hK hP 0 rfl rfl 15 (by decide) (hts (.fieldLink RX2 69 "RankFinderModel" "divisorLow" "J") (List.mem_of_getElem? (i := 2) rfl)) (fun _ h9 => h9) rfl dX2_share_114 ?_
        have hFc : ∀ q, va_A ([] : va_W) H.size q → A q := fun q h => va_nilA hS hA q h
        refine va_calli (va_runS (As := [.long rl, .long dl]) (rest := [.long (rh - dh)]) ⟨hx, hb, hml, hown, hts⟩ (c_X2_isBelow l dC dI H.size rl dl) (va_cwS 2 hts gX2_share_X2_isBelow rfl rfl rfl (by decide +kernel) ⟨Nat.le_of_ble_eq_true rfl, Nat.le_of_ble_eq_true rfl⟩) ⟨fun a U g mk q => by obtain ⟨q0, q1, qP, qK, qD⟩ := q; exact ⟨q0, q1, qP, va_K.moved (u := U) (U := U.calling g mk a) (Vm.Alike.refl U.vm) qK, qD⟩, fun U hU hW => ⟨rfl, by rw [hU], va_nilP, va_K.moved hW.alike (hK.sub (tys' := []) [] rfl), va_nilD⟩⟩ rfl rfl hl.1 rfl (lv_room (Nat.le_of_ble_eq_true rfl)) dX2_share_117 ⟨(Nat.zero_le _), (Nat.zero_le _)⟩) hS (fun q _ h => hFc q h) hFc (fun r_117 v9 t H1 locs ht hvm hw hB hz1 hk1 hS => ?_)
        have hP := va_keep hP hk1
        clear hB hk1 hz1 ht hvm hFc
        generalize H1 = H at hP hS ⊢
        rcases hw with ⟨rfl, hq⟩ | ⟨rfl, hq⟩
        · refine lv_if_eq (tgt := 127) hx hb dX2_share_120 (by decide) (fun c => absurd c (by decide)) (fun _ => ?_)
          refine lv_lconst (v := 1) hx hb dX2_share_123 (by decide) ?_
          refine lv_goto (tgt := 128) hx hb dX2_share_124 (by decide) ?_
          refine lv_lsub hx hb dX2_share_128 ?_
          refine lv_lstore (lv' := [(5, .long ((rh - dh) - 1)), (11, .int (nI k)), (9, .long qt), (7, .long rl), (0, .ref m0), (1, .long xh), (3, .long xl)]) hx hb dX2_share_129 hl (by decide) rfl (fun ls hl => ?_)
          refine lv_lload hx hb dX2_share_131 (lv_at hl 3 rfl) ?_
          refine lv_aload_n hx hb dX2_share_133 rfl (lv_at hl 4 rfl) ?_
          refine va_get (D := (dC, dI)) (ci := 2) (v := .long dl) (C := RX2) (T := TX2) (N := 19) hx hb hts (fun _ h => List.mem_cons_of_mem _ (List.mem_append_right _ h)) hown hK hP 0 rfl rfl 15 (by decide) (hts (.fieldLink RX2 69 "RankFinderModel" "divisorLow" "J") (List.mem_of_getElem? (i := 2) rfl)) (fun _ h9 => h9) rfl dX2_share_134 ?_
          refine lv_lsub hx hb dX2_share_137 ?_
          refine lv_lstore (lv' := [(7, .long (rl - dl)), (5, .long ((rh - dh) - 1)), (11, .int (nI k)), (9, .long qt), (0, .ref m0), (1, .long xh), (3, .long xl)]) hx hb dX2_share_138 hl (by decide) rfl (fun ls hl => ?_)
          refine lv_lload hx hb dX2_share_140 (lv_at hl 3 rfl) ?_
          refine lv_lconst (v := 1) hx hb dX2_share_142 (by decide) ?_
          refine lv_ladd hx hb dX2_share_143 ?_
          refine lv_lstore (lv' := [(9, .long (qt + 1)), (7, .long (rl - dl)), (5, .long ((rh - dh) - 1)), (11, .int (nI k)), (0, .ref m0), (1, .long xh), (3, .long xl)]) hx hb dX2_share_144 hl (by decide) rfl (fun ls hl => ?_)
          have e9 : w2 (rh - dh - 1) (rl - dl) = w2 rh rl - w2 dh dl := w2_sub (by omega) (by rw [if_pos hq])
          exact skip (rh - dh - 1) (rl - dl) (qt + 1) H _ ls (by rw [e9, ← hg, hr9, s1]) (by rw [uN_add, hq9, s2, show uN 1 = 1 from rfl]; omega) hP hK hD hS (lv_sub hl [3, 0, 1, 2, 4, 5, 6] rfl)
        · refine lv_if_eq (tgt := 127) hx hb dX2_share_120 (by decide) (fun _ => ?_) (fun c => absurd rfl c)
          refine lv_lconst (v := 0) hx hb dX2_share_127 (by decide) ?_
          refine lv_lsub hx hb dX2_share_128 ?_
          refine lv_lstore (lv' := [(5, .long ((rh - dh) - 0)), (11, .int (nI k)), (9, .long qt), (7, .long rl), (0, .ref m0), (1, .long xh), (3, .long xl)]) hx hb dX2_share_129 hl (by decide) rfl (fun ls hl => ?_)
          refine lv_lload hx hb dX2_share_131 (lv_at hl 3 rfl) ?_
          refine lv_aload_n hx hb dX2_share_133 rfl (lv_at hl 4 rfl) ?_
          refine va_get (D := (dC, dI)) (ci := 2) (v := .long dl) (C := RX2) (T := TX2) (N := 19) hx hb hts (fun _ h => List.mem_cons_of_mem _ (List.mem_append_right _ h)) hown hK hP 0 rfl rfl 15 (by decide) (hts (.fieldLink RX2 69 "RankFinderModel" "divisorLow" "J") (List.mem_of_getElem? (i := 2) rfl)) (fun _ h9 => h9) rfl dX2_share_134 ?_
          refine lv_lsub hx hb dX2_share_137 ?_
          refine lv_lstore (lv' := [(7, .long (rl - dl)), (5, .long ((rh - dh) - 0)), (11, .int (nI k)), (9, .long qt), (0, .ref m0), (1, .long xh), (3, .long xl)]) hx hb dX2_share_138 hl (by decide) rfl (fun ls hl => ?_)
          refine lv_lload hx hb dX2_share_140 (lv_at hl 3 rfl) ?_
          refine lv_lconst (v := 1) hx hb dX2_share_142 (by decide) ?_
          refine lv_ladd hx hb dX2_share_143 ?_
          refine lv_lstore (lv' := [(9, .long (qt + 1)), (7, .long (rl - dl)), (5, .long ((rh - dh) - 0)), (11, .int (nI k)), (0, .ref m0), (1, .long xh), (3, .long xl)]) hx hb dX2_share_144 hl (by decide) rfl (fun ls hl => ?_)
          have e9 : w2 (rh - dh - 0) (rl - dl) = w2 rh rl - w2 dh dl := w2_sub (by omega) (by rw [if_neg hq])
          exact skip (rh - dh - 0) (rl - dl) (qt + 1) H _ ls (by rw [e9, ← hg, hr9, s1]) (by rw [uN_add, hq9, s2, show uN 1 = 1 from rfl]; omega) hP hK hD hS (lv_sub hl [3, 0, 1, 2, 4, 5, 6] rfl)
      have go : ∀ (bt9 : Int64) (ls : Array Slot), uN bt9 = b → lv_has ls 14 [(11, .int (nI k)), (9, .long qt), (7, .long rl), (5, .long rh), (0, .ref m0), (1, .long xh), (3, .long xl)] → W p l e (headSpec wsX2_share ({ frames := 1, cells := 0, slots := 0, locals := 23 })).room s m #[.ref m0, .long xh, .long xl] below meth c H locs 0 0 (MQ below (va_Ql (fun (x : Int64) (v : Unit) => uN x = (w2 xh xl / w2 dh dl) % 18446744073709551616) (fun v t => va_P (dC, dI) vwCl (mdW m0 aN aR aX aO aP aH aL aW cI cJ vn ct nm tp bt an rw nx og no rc nc hgh lws dh dl fT fB wd) t.heap ∧ va_K (dC, dI) vwCl [(cI, .int), (cJ, .long)] t ∧ va_D A (mdW m0 aN aR aX aO aP aH aL aW cI cJ vn ct nm tp bt an rw nx og no rc nc hgh lws dh dl fT fB wd)) A) #[.ref m0, .long xh, .long xl] s 0 0 A) (F0 m 43 ls [.long bt9]) := by
        clear hl
        intro bt9 ls hbt hl
        refine lv_lstore (lv' := [(12, .long bt9), (11, .int (nI k)), (9, .long qt), (7, .long rl), (5, .long rh), (0, .ref m0), (1, .long xh), (3, .long xl)]) hx hb dX2_share_43 hl (by decide) rfl (fun ls hl => ?_)
        refine lv_lload hx hb dX2_share_45 (lv_at hl 4 rfl) ?_
        refine lv_iconst (v := nI 1) hx hb dX2_share_47 (by decide) ?_
        refine lv_lshl hx hb dX2_share_48 rfl ?_
        refine lv_lload hx hb dX2_share_49 (lv_at hl 3 rfl) ?_
        refine lv_bipush (v := nI 63) hx hb dX2_share_51 (by decide) ?_
        refine lv_lushr hx hb dX2_share_53 rfl ?_
        refine lv_lor hx hb dX2_share_54 ?_
        refine lv_lstore (lv' := [(5, .long ((rh <<< (Int32.toInt64 (nI 1) &&& 63)) ||| ((Int64.toUInt64 rl >>> ((Int32.toInt64 (nI 63)).toUInt64 &&& Int64.toUInt64 63)).toInt64))), (12, .long bt9), (11, .int (nI k)), (9, .long qt), (7, .long rl), (0, .ref m0), (1, .long xh), (3, .long xl)]) hx hb dX2_share_55 hl (by decide) rfl (fun ls hl => ?_)
        refine lv_lload hx hb dX2_share_57 (lv_at hl 4 rfl) ?_
        refine lv_iconst (v := nI 1) hx hb dX2_share_59 (by decide) ?_
        refine lv_lshl hx hb dX2_share_60 rfl ?_
        refine lv_lload hx hb dX2_share_61 (lv_at hl 1 rfl) ?_
        refine lv_lor hx hb dX2_share_63 ?_
        refine lv_lstore (lv' := [(7, .long ((rl <<< (Int32.toInt64 (nI 1) &&& 63)) ||| bt9)), (5, .long ((rh <<< (Int32.toInt64 (nI 1) &&& 63)) ||| ((Int64.toUInt64 rl >>> ((Int32.toInt64 (nI 63)).toUInt64 &&& Int64.toUInt64 63)).toInt64))), (12, .long bt9), (11, .int (nI k)), (9, .long qt), (0, .ref m0), (1, .long xh), (3, .long xl)]) hx hb dX2_share_64 hl (by decide) rfl (fun ls hl => ?_)
        refine lv_lload hx hb dX2_share_66 (lv_at hl 4 rfl) ?_
        refine lv_iconst (v := nI 1) hx hb dX2_share_68 (by decide) ?_
        refine lv_lshl hx hb dX2_share_69 rfl ?_
        refine lv_lstore (lv' := [(9, .long (qt <<< (Int32.toInt64 (nI 1) &&& 63))), (7, .long ((rl <<< (Int32.toInt64 (nI 1) &&& 63)) ||| bt9)), (5, .long ((rh <<< (Int32.toInt64 (nI 1) &&& 63)) ||| ((Int64.toUInt64 rl >>> ((Int32.toInt64 (nI 63)).toUInt64 &&& Int64.toUInt64 63)).toInt64))), (12, .long bt9), (11, .int (nI k)), (0, .ref m0), (1, .long xh), (3, .long xl)]) hx hb dX2_share_70 hl (by decide) rfl (fun ls hl => ?_)
        have e1 : w2 (sl rh (nI 1) ||| ur rl (nI 63)) (sl rl (nI 1) ||| bt9) = 2 * (X / 2 ^ (k + 1) % g) + b := by rw [w2_dblb (by omega) (by omega), hr9, hbt]
        have e2 : uN (sl qt (nI 1)) = 2 * (X / 2 ^ (k + 1) / g) % 18446744073709551616 := by rw [sl_N _ (by decide), hq9]; omega
        have e3 : w2 (sl rh (nI 1) ||| ur rl (nI 63)) (sl rl (nI 1) ||| bt9) < 2 * g := by rw [e1]; omega
        have hl : lv_has ls 14 [(9, .long (sl qt (nI 1))), (7, .long (sl rl (nI 1) ||| bt9)), (5, .long (sl rh (nI 1) ||| ur rl (nI 63))), (12, .long bt9), (11, .int (nI k)), (0, .ref m0), (1, .long xh), (3, .long xl)] := hl
        generalize (sl rh (nI 1) ||| ur rl (nI 63)) = rh2, (sl rl (nI 1) ||| bt9) = rl2, (sl qt (nI 1)) = qt2 at e1 e2 e3 hl ⊢
        have sk9 : w2 rh2 rl2 < g → 2 * (X / 2 ^ (k + 1) % g) + b = X / 2 ^ k % g ∧ 2 * (X / 2 ^ (k + 1) / g) % 18446744073709551616 = X / 2 ^ k / g % 18446744073709551616 := fun q => by
          obtain ⟨s1, s2⟩ := sh_no (Y := X / 2 ^ (k + 1)) (b := b) (g := g) (by omega)
          rw [← hsb] at s1 s2
          rw [s1, s2]; exact ⟨rfl, rfl⟩
        have bb1 : w2 rh2 rl2 < 170141183460469231731687303715884105728 := by omega
        have bb2 : w2 dh dl < 170141183460469231731687303715884105728 := by omega
        refine lv_lload hx hb dX2_share_72 (lv_at hl 2 rfl) ?_
        refine lv_aload_n hx hb dX2_share_74 rfl (lv_at hl 5 rfl) ?_
        refine va_get (D := (dC, dI)) (ci := 2) (v := .long dh) (C := RX2) (T := TX2) (N := 19) hx hb hts (fun _ h => List.mem_cons_of_mem _ (List.mem_append_right _ h)) hown hK hP 0 rfl rfl 14 (by decide) (hts (.fieldLink RX2 65 "RankFinderModel" "divisorHigh" "J") (List.mem_of_getElem? (i := 1) rfl)) (fun _ h9 => h9) rfl dX2_share_75 ?_
        refine W.lcmp hx hb dX2_share_78 ?_
        refine lv_if_gt (tgt := 104) hx hb dX2_share_79 (by decide) (fun c2 => ?_) (fun c2 => ?_)
        · rw [lg_cmp_gt] at c2
          exact take rh2 rl2 qt2 H _ ls e1 (by rw [hg]; exact Nat.le_of_lt (w2_lt1 bb2 bb1 c2)) e3 e2 hP hK hD hS (lv_sub hl [4, 0, 1, 2, 5, 6, 7] rfl)
        · rw [lg_cmp_gt] at c2
          refine lv_lload hx hb dX2_share_82 (lv_at hl 2 rfl) ?_
          refine lv_aload_n hx hb dX2_share_84 rfl (lv_at hl 5 rfl) ?_
          refine va_get (D := (dC, dI)) (ci := 2) (v := .long dh) (C := RX2) (T := TX2) (N := 19) hx hb hts (fun _ h => List.mem_cons_of_mem _ (List.mem_append_right _ h)) hown hK hP 0 rfl rfl 14 (by decide) (hts (.fieldLink RX2 65 "RankFinderModel" "divisorHigh" "J") (List.mem_of_getElem? (i := 1) rfl)) (fun _ h9 => h9) rfl dX2_share_85 ?_
          refine W.lcmp hx hb dX2_share_88 ?_
          refine lv_if_ne (tgt := 146) hx hb dX2_share_89 (by decide) (fun c3 => ?_) (fun c3 => ?_)
          · rw [lg_cmp_eq] at c3
            exact skip rh2 rl2 qt2 H _ ls (by rw [e1]; exact (sk9 (by rw [hg]; exact Nat.lt_of_le_of_ne (w2_le1 bb2 bb1 c2 (fun e => c3 e.symm)) (fun e => c3 (w2_eqh e)))).1) (by rw [e2]; exact (sk9 (by rw [hg]; exact Nat.lt_of_le_of_ne (w2_le1 bb2 bb1 c2 (fun e => c3 e.symm)) (fun e => c3 (w2_eqh e)))).2) hP hK hD hS (lv_sub hl [4, 0, 1, 2, 5, 6, 7] rfl)
          · rw [lg_cmp_eq] at c3
            refine lv_lload hx hb dX2_share_92 (lv_at hl 1 rfl) ?_
            refine lv_aload_n hx hb dX2_share_94 rfl (lv_at hl 5 rfl) ?_
            refine va_get (D := (dC, dI)) (ci := 2) (v := .long dl) (C := RX2) (T := TX2) (N := 19) hx hb hts (fun _ h => List.mem_cons_of_mem _ (List.mem_append_right _ h)) hown hK hP 0 rfl rfl 15 (by decide) (hts (.fieldLink RX2 69 "RankFinderModel" "divisorLow" "J") (List.mem_of_getElem? (i := 2) rfl)) (fun _ h9 => h9) rfl dX2_share_95 ?_
            have hFc : ∀ q, va_A ([] : va_W) H.size q → A q := fun q h => va_nilA hS hA q h
            refine va_calli (va_runS (As := [.long rl2, .long dl]) (rest := []) ⟨hx, hb, hml, hown, hts⟩ (c_X2_isBelow l dC dI H.size rl2 dl) (va_cwS 2 hts gX2_share_X2_isBelow rfl rfl rfl (by decide +kernel) ⟨Nat.le_of_ble_eq_true rfl, Nat.le_of_ble_eq_true rfl⟩) ⟨fun a U g mk q => by obtain ⟨q0, q1, qP, qK, qD⟩ := q; exact ⟨q0, q1, qP, va_K.moved (u := U) (U := U.calling g mk a) (Vm.Alike.refl U.vm) qK, qD⟩, fun U hU hW => ⟨rfl, by rw [hU], va_nilP, va_K.moved hW.alike (hK.sub (tys' := []) [] rfl), va_nilD⟩⟩ rfl rfl hl.1 rfl (lv_room (Nat.le_of_ble_eq_true rfl)) dX2_share_98 ⟨(Nat.zero_le _), (Nat.zero_le _)⟩) hS (fun q _ h => hFc q h) hFc (fun r_98 v9 t H1 locs ht hvm hw hB hz1 hk1 hS => ?_)
            have hP := va_keep hP hk1
            clear hB hk1 hz1 ht hvm hFc
            generalize H1 = H at hP hS ⊢
            rcases hw with ⟨rfl, hq⟩ | ⟨rfl, hq⟩
            · refine lv_if_ne (tgt := 146) hx hb dX2_share_101 (by decide) (fun _ => ?_) (fun c => absurd c (by decide))
              exact skip rh2 rl2 qt2 H _ ls (by rw [e1]; exact (sk9 (by rw [hg, c3]; exact w2_lt2 hq)).1) (by rw [e2]; exact (sk9 (by rw [hg, c3]; exact w2_lt2 hq)).2) hP hK hD hS (lv_sub hl [4, 0, 1, 2, 5, 6, 7] rfl)
            · refine lv_if_ne (tgt := 146) hx hb dX2_share_101 (by decide) (fun c => absurd rfl c) (fun _ => ?_)
              exact take rh2 rl2 qt2 H _ ls e1 (by rw [hg]; exact by rw [c3]; exact w2_le2 hq) e3 e2 hP hK hD hS (lv_sub hl [4, 0, 1, 2, 5, 6, 7] rfl)
      refine lv_iload hx hb dX2_share_13 (lv_at hl 0 rfl) ?_
      refine lv_if_lt (tgt := 152) hx hb dX2_share_15 (by decide) (fun c1 => ?_) (fun c1 => ?_)
      · exact absurd c1 (nI_pos (by omega))
      · refine lv_iload hx hb dX2_share_18 (lv_at hl 0 rfl) ?_
        refine lv_bipush (v := nI 63) hx hb dX2_share_20 (by decide) ?_
        refine lv_icmp_le (tgt := 37) hx hb dX2_share_22 (by decide) (fun c4 => ?_) (fun c4 => ?_)
        · have hk64 : k < 64 := by
            apply Classical.byContradiction
            intro q
            exact nI_ge (a := 63) (by omega) (by omega) c4
          refine lv_lload_n hx hb dX2_share_37 rfl (lv_at hl 6 rfl) ?_
          refine lv_iload hx hb dX2_share_38 (lv_at hl 0 rfl) ?_
          refine lv_lushr hx hb dX2_share_40 rfl ?_
          refine lv_lconst (v := 1) hx hb dX2_share_41 (by decide) ?_
          refine lv_land hx hb dX2_share_42 ?_
          exact go _ ls (by rw [hbe, hX]; exact sh_lo hk64) (lv_sub hl [0, 1, 2, 3, 4, 5, 6] rfl)
        · have hk64 : 64 ≤ k := by
            apply Classical.byContradiction
            intro q
            exact c4 (nI_le (by omega) (by omega))
          refine lv_lload_n hx hb dX2_share_25 rfl (lv_at hl 5 rfl) ?_
          refine lv_iload hx hb dX2_share_26 (lv_at hl 0 rfl) ?_
          refine lv_bipush (v := nI 64) hx hb dX2_share_28 (by decide) ?_
          refine lv_isub hx hb dX2_share_30 ?_
          refine lv_topi (fun z_1 ez_1 => ?_)
          obtain rfl : z_1 = nI (k - 64) := ez_1.trans (pk_sub (a := k) (b := 64) (by omega))
          refine lv_lushr hx hb dX2_share_31 rfl ?_
          refine lv_lconst (v := 1) hx hb dX2_share_32 (by decide) ?_
          refine lv_land hx hb dX2_share_33 ?_
          refine lv_goto (tgt := 43) hx hb dX2_share_34 (by decide) ?_
          exact go _ ls (by rw [hbe, hX]; rw [show k = k - 64 + 64 by omega]; exact sh_hi (by omega)) (lv_sub hl [0, 1, 2, 3, 4, 5, 6] rfl)
  have hXb : X < 2 ^ 128 := by rw [hX]; unfold w2; have h1 := uN_lt xh; have h2 := uN_lt xl; omega
  exact loop 128 (nI 127) 0 0 0 H _ ls (by omega) rfl (by rw [Nat.div_eq_of_lt hXb, Nat.zero_mod]; rfl) (by rw [Nat.div_eq_of_lt hXb, Nat.zero_div]; rfl) hP hK hD hS (lv_sub hl [0, 1, 2, 3, 4, 5, 6] rfl)
