/-! ===== the reference: rule, keeps, rows ===== -/
def nmF (nm : Nat → Int32) (k : Nat) (a0 a1 a2 b0 b1 b2 d : Int32) : Nat → Int32 := upd (upd (upd (upd (upd (upd (upd nm (7 * k) a0) (7 * k + 1) a1) (7 * k + 2) a2) (7 * k + 3) b0) (7 * k + 4) b1) (7 * k + 5) b2) (7 * k + 6) d
def pik (x1 x2 x3 : Int32) (i : Nat) : Int64 := if i = 0 then x1.toInt64 else if i = 1 then x2.toInt64 else x3.toInt64
def smM (nm : Nat → Int32) (k : Nat) (x1 x2 x3 y1 y2 y3 : Int32) : Nat → Int64
  | 0 => 0
  | i + 1 => smM nm k x1 x2 x3 y1 y2 y3 i + ((nm (7 * k + i)).toInt64 * pik x1 x2 x3 i + (nm (7 * k + 3 + i)).toInt64 * pik y1 y2 y3 i)
def kpM (nm : Nat → Int32) (vn k : Nat) (x1 x2 x3 y1 y2 y3 : Int32) : Prop := smM nm k x1 x2 x3 y1 y2 y3 vn ≤ (nm (7 * k + 6)).toInt64
/-- a row of zeros, up to place j -/
def zeF (f : Nat → Int64) (r j : Nat) : Nat → Int64 := fun a => if 11 * r ≤ a ∧ a < 11 * r + j then 0 else f a
theorem zeF_0 (f : Nat → Int64) (r : Nat) : zeF f r 0 = f := by funext a; unfold zeF; rw [if_neg (by omega)]
theorem zeF_s (f : Nat → Int64) (r j : Nat) : vp_updL (zeF f r j) (11 * r + j) 0 = zeF f r (j + 1) := by
  funext a; unfold vp_updL zeF
  by_cases e : a = 11 * r + j
  · subst e; simp
  · rw [if_neg e]
    by_cases q : 11 * r ≤ a ∧ a < 11 * r + j
    · rw [if_pos q, if_pos (by omega)]
    · rw [if_neg q, if_neg (by omega)]
def bitI (k : Nat) : Int32 := nI 1 <<< (nI k &&& 31)
/-- a row carried over, up to place j -/
def caF (f g : Nat → Int64) (k c j : Nat) : Nat → Int64 := fun a => if 11 * c ≤ a ∧ a < 11 * c + j then f (11 * k + (a - 11 * c)) else g a
theorem caF_0 (f g : Nat → Int64) (k c : Nat) : caF f g k c 0 = g := by funext a; unfold caF; rw [if_neg (by omega)]
theorem caF_s (f g : Nat → Int64) (k c j : Nat) : vp_updL (caF f g k c j) (11 * c + j) (f (11 * k + j)) = caF f g k c (j + 1) := by
  funext a; unfold vp_updL caF
  by_cases e : a = 11 * c + j
  · subst e; simp
  · rw [if_neg e]
    by_cases q : 11 * c ≤ a ∧ a < 11 * c + j
    · rw [if_pos q, if_pos (by omega)]
    · rw [if_neg q, if_neg (by omega)]
/-- the upper word of a b + c d -/
def mkH (a b c d : Int64) : Int64 := hpF a b + hpF c d + (if uN (a * b + c * d) < uN (a * b) then 1 else 0)
def ovI (og : Nat → Int32) (a b k : Nat) : Int32 := og k &&& ((og a ||| og b) ^^^ (-1))
set_option maxHeartbeats 1000000 in
set_option maxRecDepth 100000 in
/-- rule(..) -/
theorem c_X2_rule (l : Launch) (dC : Nat → ClassId) (dI : Nat → Nat → Nat) (sz : Nat) (m0 aN aR aX aO aP aH aL aW : Nat) (cI cJ : ClassId) (vn ct : Nat) (nm : Nat → Int32) (tp bt : Int64) (an : Int32) (rw nx : Nat → Int64) (og no : Nat → Int32) (rc nc : Nat) (hgh lws : Nat → Int64) (dh dl fT fB : Int64) (wd : Nat → Int32) (a0 a1 a2 b0 b1 b2 d : Int32) (hc : ct ≤ 8) : Met l yX2_rule wsX2_rule ({ frames := 1, cells := 0, slots := 0, locals := 21 }) (va_Pc [.ref m0, .int a0, .int a1, .int a2, .int b0, .int b1, .int b2, .int d] (fun U => U.heap.size = sz ∧ va_P (dC, dI) vwCl (mdW m0 aN aR aX aO aP aH aL aW cI cJ vn ct nm tp bt an rw nx og no rc nc hgh lws dh dl fT fB wd) U.heap ∧ va_K (dC, dI) vwCl [(cI, .int), (cJ, .long)] U ∧ va_D (fun _ => True) (mdW m0 aN aR aX aO aP aH aL aW cI cJ vn ct nm tp bt an rw nx og no rc nc hgh lws dh dl fT fB wd))) (va_Qi (fun (x : Int32) (v : Nat × (Nat → Int32)) => (ct < 8 ∧ okR a0 a1 a2 b0 b1 b2 d ∧ x = nI ct ∧ v = (ct + 1, nmF nm ct a0 a1 a2 b0 b1 b2 d)) ∨ (x = -1 ∧ ¬ (ct < 8 ∧ okR a0 a1 a2 b0 b1 b2 d) ∧ v = (ct, nm))) (fun v t => va_P (dC, dI) vwCl (mdW m0 aN aR aX aO aP aH aL aW cI cJ vn v.1 v.2 tp bt an rw nx og no rc nc hgh lws dh dl fT fB wd) t.heap ∧ va_K (dC, dI) vwCl [(cI, .int), (cJ, .long)] t ∧ va_D (va_A (mdW m0 aN aR aX aO aP aH aL aW cI cJ vn ct nm tp bt an rw nx og no rc nc hgh lws dh dl fT fB wd) sz) (mdW m0 aN aR aX aO aP aH aL aW cI cJ vn v.1 v.2 tp bt an rw nx og no rc nc hgh lws dh dl fT fB wd)) (va_A (mdW m0 aN aR aX aO aP aH aL aW cI cJ vn ct nm tp bt an rw nx og no rc nc hgh lws dh dl fT fB wd) sz)) 0 0 (va_A (mdW m0 aN aR aX aO aP aH aL aW cI cJ vn ct nm tp bt an rw nx og no rc nc hgh lws dh dl fT fB wd) sz) := by
  refine Met.ofW (cc := cX2_rule) (maxL := 10) (ret := (some .int)) (by decide) rfl ?_
  intro p e s m args below meth c s₁ B hml hv
  obtain ⟨rfl, hsz, hP, hK, hD0⟩ := hv
  have hx := B.exec
  have hb := B.bytes
  have hr := B.returns
  have hts := atoms_spec (ws := wsX2_rule) B.pre
  have hown : s.vm.findClass RX2 = some m.cls := findClass_of_methodNamed B.named
  subst hsz
  have hD := hD0.self (sz := s.heap.size)
  clear hD0
  generalize hAe : va_A (mdW m0 aN aR aX aO aP aH aL aW cI cJ vn ct nm tp bt an rw nx og no rc nc hgh lws dh dl fT fB wd) s.heap.size = A at hD ⊢
  have hA : ∀ q : Nat, s.heap.size ≤ q → A q := fun q h => by rw [← hAe]; exact Or.inr h
  have hl := lv_entry ([.ref m0, .int a0, .int a1, .int a2, .int b0, .int b1, .int b2, .int d]) (n := 10) (Nat.le_of_ble_eq_true rfl)
  rw [lg_entry_eq]
  generalize (lg_sl ([.ref m0, .int a0, .int a1, .int a2, .int b0, .int b1, .int b2, .int d]) ++ List.replicate (10 - (lg_sl ([.ref m0, .int a0, .int a1, .int a2, .int b0, .int b1, .int b2, .int d])).length) Slot.unset).toArray = ls at hl ⊢
  have hl : lv_has ls 10 [(0, .ref m0), (1, .int a0), (2, .int a1), (3, .int a2), (4, .int b0), (5, .int b1), (6, .int b2), (7, .int d)] := hl
  have hP : va_P (dC, dI) vwCl (mdW m0 aN aR aX aO aP aH aL aW cI cJ vn ct nm tp bt an rw nx og no rc nc hgh lws dh dl fT fB wd) s.heap := hP
  obtain ⟨H, hH⟩ : ∃ H, H = s.heap := ⟨_, rfl⟩
  have hS : va_S A s.heap H [] := by rw [hH]; exact va_S.rf
  rw [← hH] at hP ⊢
  have behind : ∀ (f9 : Int32) (H : Heap) (locs : List Loc) (ls : Array Slot), ((f9 = 1 ∧ okR a0 a1 a2 b0 b1 b2 d) ∨ (f9 = 0 ∧ ¬ okR a0 a1 a2 b0 b1 b2 d)) → va_P (dC, dI) vwCl (mdW m0 aN aR aX aO aP aH aL aW cI cJ vn ct nm tp bt an rw nx og no rc nc hgh lws dh dl fT fB wd) H → va_K (dC, dI) vwCl [(cI, .int), (cJ, .long)] s → va_D A (mdW m0 aN aR aX aO aP aH aL aW cI cJ vn ct nm tp bt an rw nx og no rc nc hgh lws dh dl fT fB wd) → va_S A s.heap H locs → lv_has ls 10 [(8, .int f9), (0, .ref m0), (1, .int a0), (2, .int a1), (3, .int a2), (4, .int b0), (5, .int b1), (6, .int b2), (7, .int d)] → W p l e (headSpec wsX2_rule ({ frames := 1, cells := 0, slots := 0, locals := 21 })).room s m #[.ref m0, .int a0, .int a1, .int a2, .int b0, .int b1, .int b2, .int d] below meth c H locs 0 0 (MQ below (va_Qi (fun (x : Int32) (v : Nat × (Nat → Int32)) => (ct < 8 ∧ okR a0 a1 a2 b0 b1 b2 d ∧ x = nI ct ∧ v = (ct + 1, nmF nm ct a0 a1 a2 b0 b1 b2 d)) ∨ (x = -1 ∧ ¬ (ct < 8 ∧ okR a0 a1 a2 b0 b1 b2 d) ∧ v = (ct, nm))) (fun v t => va_P (dC, dI) vwCl (mdW m0 aN aR aX aO aP aH aL aW cI cJ vn v.1 v.2 tp bt an rw nx og no rc nc hgh lws dh dl fT fB wd) t.heap ∧ va_K (dC, dI) vwCl [(cI, .int), (cJ, .long)] t ∧ va_D A (mdW m0 aN aR aX aO aP aH aL aW cI cJ vn v.1 v.2 tp bt an rw nx og no rc nc hgh lws dh dl fT fB wd)) A) #[.ref m0, .int a0, .int a1, .int a2, .int b0, .int b1, .int b2, .int d] s 0 0 A) (F0 m 74 ls []) := by
    clear hP hK hD hS hl
    intro f9 H locs ls hf hP hK hD hS hl
    refine lv_aload_n hx hb dX2_rule_74 rfl (lv_at hl 1 rfl) ?_
    refine va_get (D := (dC, dI)) (ci := 2) (v := .int (nI ct)) (C := RX2) (T := TX2) (N := 19) hx hb hts (fun _ h => List.mem_cons_of_mem _ (List.mem_append_right _ h)) hown hK hP 0 rfl rfl 1 (by decide) (hts (.fieldLink RX2 39 "RankFinderModel" "count" "I") (List.mem_of_getElem? (i := 1) rfl)) (fun _ h9 => h9) rfl dX2_rule_75 ?_
    refine lv_bipush (v := nI 8) hx hb dX2_rule_78 (by decide) ?_
    refine lv_icmp_eq (tgt := 88) hx hb dX2_rule_80 (by decide) (fun c1 => ?_) (fun c1 => ?_)
    · have e8 : ct = 8 := nI_inj (by omega) (by omega) c1
      refine lv_iconst (v := (-1)) hx hb dX2_rule_88 (by decide) ?_
      exact W.iret (v := (-1)) hx hb hr (fun t ht hW => ⟨⟨(-1), (ct, nm), rfl, Or.inr ⟨rfl, fun q => by have := q.1; omega, rfl⟩, by rw [ht]; exact hP, va_K.moved hW.alike hK, hD⟩, hS.F ht⟩) hS.2.2 dX2_rule_89
    · have hc8 : ct < 8 := by
        have : ct ≠ 8 := fun e => c1 (by rw [e])
        omega
      rcases hf with ⟨rfl, hok⟩ | ⟨rfl, hok⟩
      · refine lv_iload hx hb dX2_rule_83 (lv_at hl 0 rfl) ?_
        refine lv_if_ne (tgt := 90) hx hb dX2_rule_85 (by decide) (fun _ => ?_) (fun c => absurd c (by decide))
        refine lv_bipush (v := nI 7) hx hb dX2_rule_90 (by decide) ?_
        refine lv_aload_n hx hb dX2_rule_92 rfl (lv_at hl 1 rfl) ?_
        refine va_get (D := (dC, dI)) (ci := 2) (v := .int (nI ct)) (C := RX2) (T := TX2) (N := 19) hx hb hts (fun _ h => List.mem_cons_of_mem _ (List.mem_append_right _ h)) hown hK hP 0 rfl rfl 1 (by decide) (hts (.fieldLink RX2 39 "RankFinderModel" "count" "I") (List.mem_of_getElem? (i := 1) rfl)) (fun _ h9 => h9) rfl dX2_rule_93 ?_
        refine lv_imul hx hb dX2_rule_96 ?_
        refine lv_topi (fun z_1 ez_1 => ?_)
        obtain rfl : z_1 = nI (7 * ct) := ez_1.trans (pk_mul 7 ct)
        refine lv_istore (lv' := [(9, .int (nI (7 * ct))), (8, .int 1), (0, .ref m0), (1, .int a0), (2, .int a1), (3, .int a2), (4, .int b0), (5, .int b1), (6, .int b2), (7, .int d)]) hx hb dX2_rule_97 hl (by decide) rfl (fun ls hl => ?_)
        refine lv_aload_n hx hb dX2_rule_99 rfl (lv_at hl 2 rfl) ?_
        refine va_get (D := (dC, dI)) (ci := 2) (v := .ref aN) (C := RX2) (T := TX2) (N := 19) hx hb hts (fun _ h => List.mem_cons_of_mem _ (List.mem_append_right _ h)) hown hK hP 0 rfl rfl 2 (by decide) (hts (.fieldLink RX2 13 "RankFinderModel" "numbers" "[I") (List.mem_of_getElem? (i := 2) rfl)) (fun _ h9 => h9) rfl dX2_rule_100 ?_
        refine lv_iload hx hb dX2_rule_103 (lv_at hl 0 rfl) ?_
        refine lv_iload_n hx hb dX2_rule_105 rfl (lv_at hl 3 rfl) ?_
        refine na_iast hx hb hK hP hD hS 1 0 rfl rfl (show 7 * ct < 56 by omega) (by decide) dX2_rule_106 (fun H locs hP hD hS => ?_)
        have hP : va_P (dC, dI) vwCl (mdW m0 aN aR aX aO aP aH aL aW cI cJ vn ct (upd nm (7 * ct) a0) tp bt an rw nx og no rc nc hgh lws dh dl fT fB wd) H := hP
        have hD : va_D A (mdW m0 aN aR aX aO aP aH aL aW cI cJ vn ct (upd nm (7 * ct) a0) tp bt an rw nx og no rc nc hgh lws dh dl fT fB wd) := hD
        refine lv_aload_n hx hb dX2_rule_107 rfl (lv_at hl 2 rfl) ?_
        refine va_get (D := (dC, dI)) (ci := 2) (v := .ref aN) (C := RX2) (T := TX2) (N := 19) hx hb hts (fun _ h => List.mem_cons_of_mem _ (List.mem_append_right _ h)) hown hK hP 0 rfl rfl 2 (by decide) (hts (.fieldLink RX2 13 "RankFinderModel" "numbers" "[I") (List.mem_of_getElem? (i := 2) rfl)) (fun _ h9 => h9) rfl dX2_rule_108 ?_
        refine lv_iload hx hb dX2_rule_111 (lv_at hl 0 rfl) ?_
        refine lv_iconst (v := nI 1) hx hb dX2_rule_113 (by decide) ?_
        refine lv_iadd hx hb dX2_rule_114 ?_
        refine lv_topi (fun z_2 ez_2 => ?_)
        obtain rfl : z_2 = nI ((7 * ct) + 1) := ez_2.trans (nI_add (7 * ct) 1)
        refine lv_iload_n hx hb dX2_rule_115 rfl (lv_at hl 4 rfl) ?_
        refine na_iast hx hb hK hP hD hS 1 0 rfl rfl (show 7 * ct + 1 < 56 by omega) (by decide) dX2_rule_116 (fun H locs hP hD hS => ?_)
        have hP : va_P (dC, dI) vwCl (mdW m0 aN aR aX aO aP aH aL aW cI cJ vn ct (upd (upd nm (7 * ct) a0) ((7 * ct) + 1) a1) tp bt an rw nx og no rc nc hgh lws dh dl fT fB wd) H := hP
        have hD : va_D A (mdW m0 aN aR aX aO aP aH aL aW cI cJ vn ct (upd (upd nm (7 * ct) a0) ((7 * ct) + 1) a1) tp bt an rw nx og no rc nc hgh lws dh dl fT fB wd) := hD
        refine lv_aload_n hx hb dX2_rule_117 rfl (lv_at hl 2 rfl) ?_
        refine va_get (D := (dC, dI)) (ci := 2) (v := .ref aN) (C := RX2) (T := TX2) (N := 19) hx hb hts (fun _ h => List.mem_cons_of_mem _ (List.mem_append_right _ h)) hown hK hP 0 rfl rfl 2 (by decide) (hts (.fieldLink RX2 13 "RankFinderModel" "numbers" "[I") (List.mem_of_getElem? (i := 2) rfl)) (fun _ h9 => h9) rfl dX2_rule_118 ?_
        refine lv_iload hx hb dX2_rule_121 (lv_at hl 0 rfl) ?_
        refine lv_iconst (v := nI 2) hx hb dX2_rule_123 (by decide) ?_
        refine lv_iadd hx hb dX2_rule_124 ?_
        refine lv_topi (fun z_3 ez_3 => ?_)
        obtain rfl : z_3 = nI ((7 * ct) + 2) := ez_3.trans (nI_add (7 * ct) 2)
        refine lv_iload_n hx hb dX2_rule_125 rfl (lv_at hl 5 rfl) ?_
        refine na_iast hx hb hK hP hD hS 1 0 rfl rfl (show 7 * ct + 2 < 56 by omega) (by decide) dX2_rule_126 (fun H locs hP hD hS => ?_)
        have hP : va_P (dC, dI) vwCl (mdW m0 aN aR aX aO aP aH aL aW cI cJ vn ct (upd (upd (upd nm (7 * ct) a0) ((7 * ct) + 1) a1) ((7 * ct) + 2) a2) tp bt an rw nx og no rc nc hgh lws dh dl fT fB wd) H := hP
        have hD : va_D A (mdW m0 aN aR aX aO aP aH aL aW cI cJ vn ct (upd (upd (upd nm (7 * ct) a0) ((7 * ct) + 1) a1) ((7 * ct) + 2) a2) tp bt an rw nx og no rc nc hgh lws dh dl fT fB wd) := hD
        refine lv_aload_n hx hb dX2_rule_127 rfl (lv_at hl 2 rfl) ?_
        refine va_get (D := (dC, dI)) (ci := 2) (v := .ref aN) (C := RX2) (T := TX2) (N := 19) hx hb hts (fun _ h => List.mem_cons_of_mem _ (List.mem_append_right _ h)) hown hK hP 0 rfl rfl 2 (by decide) (hts (.fieldLink RX2 13 "RankFinderModel" "numbers" "[I") (List.mem_of_getElem? (i := 2) rfl)) (fun _ h9 => h9) rfl dX2_rule_128 ?_
        refine lv_iload hx hb dX2_rule_131 (lv_at hl 0 rfl) ?_
        refine lv_iconst (v := nI 3) hx hb dX2_rule_133 (by decide) ?_
        refine lv_iadd hx hb dX2_rule_134 ?_
        refine lv_topi (fun z_4 ez_4 => ?_)
        obtain rfl : z_4 = nI ((7 * ct) + 3) := ez_4.trans (nI_add (7 * ct) 3)
        refine lv_iload hx hb dX2_rule_135 (lv_at hl 6 rfl) ?_
        refine na_iast hx hb hK hP hD hS 1 0 rfl rfl (show 7 * ct + 3 < 56 by omega) (by decide) dX2_rule_137 (fun H locs hP hD hS => ?_)
        have hP : va_P (dC, dI) vwCl (mdW m0 aN aR aX aO aP aH aL aW cI cJ vn ct (upd (upd (upd (upd nm (7 * ct) a0) ((7 * ct) + 1) a1) ((7 * ct) + 2) a2) ((7 * ct) + 3) b0) tp bt an rw nx og no rc nc hgh lws dh dl fT fB wd) H := hP
        have hD : va_D A (mdW m0 aN aR aX aO aP aH aL aW cI cJ vn ct (upd (upd (upd (upd nm (7 * ct) a0) ((7 * ct) + 1) a1) ((7 * ct) + 2) a2) ((7 * ct) + 3) b0) tp bt an rw nx og no rc nc hgh lws dh dl fT fB wd) := hD
        refine lv_aload_n hx hb dX2_rule_138 rfl (lv_at hl 2 rfl) ?_
        refine va_get (D := (dC, dI)) (ci := 2) (v := .ref aN) (C := RX2) (T := TX2) (N := 19) hx hb hts (fun _ h => List.mem_cons_of_mem _ (List.mem_append_right _ h)) hown hK hP 0 rfl rfl 2 (by decide) (hts (.fieldLink RX2 13 "RankFinderModel" "numbers" "[I") (List.mem_of_getElem? (i := 2) rfl)) (fun _ h9 => h9) rfl dX2_rule_139 ?_
        refine lv_iload hx hb dX2_rule_142 (lv_at hl 0 rfl) ?_
        refine lv_iconst (v := nI 4) hx hb dX2_rule_144 (by decide) ?_
        refine lv_iadd hx hb dX2_rule_145 ?_
        refine lv_topi (fun z_5 ez_5 => ?_)
        obtain rfl : z_5 = nI ((7 * ct) + 4) := ez_5.trans (nI_add (7 * ct) 4)
        refine lv_iload hx hb dX2_rule_146 (lv_at hl 7 rfl) ?_
        refine na_iast hx hb hK hP hD hS 1 0 rfl rfl (show 7 * ct + 4 < 56 by omega) (by decide) dX2_rule_148 (fun H locs hP hD hS => ?_)
        have hP : va_P (dC, dI) vwCl (mdW m0 aN aR aX aO aP aH aL aW cI cJ vn ct (upd (upd (upd (upd (upd nm (7 * ct) a0) ((7 * ct) + 1) a1) ((7 * ct) + 2) a2) ((7 * ct) + 3) b0) ((7 * ct) + 4) b1) tp bt an rw nx og no rc nc hgh lws dh dl fT fB wd) H := hP
        have hD : va_D A (mdW m0 aN aR aX aO aP aH aL aW cI cJ vn ct (upd (upd (upd (upd (upd nm (7 * ct) a0) ((7 * ct) + 1) a1) ((7 * ct) + 2) a2) ((7 * ct) + 3) b0) ((7 * ct) + 4) b1) tp bt an rw nx og no rc nc hgh lws dh dl fT fB wd) := hD
        refine lv_aload_n hx hb dX2_rule_149 rfl (lv_at hl 2 rfl) ?_
        refine va_get (D := (dC, dI)) (ci := 2) (v := .ref aN) (C := RX2) (T := TX2) (N := 19) hx hb hts (fun _ h => List.mem_cons_of_mem _ (List.mem_append_right _ h)) hown hK hP 0 rfl rfl 2 (by decide) (hts (.fieldLink RX2 13 "RankFinderModel" "numbers" "[I") (List.mem_of_getElem? (i := 2) rfl)) (fun _ h9 => h9) rfl dX2_rule_150 ?_
        refine lv_iload hx hb dX2_rule_153 (lv_at hl 0 rfl) ?_
        refine lv_iconst (v := nI 5) hx hb dX2_rule_155 (by decide) ?_
        refine lv_iadd hx hb dX2_rule_156 ?_
        refine lv_topi (fun z_6 ez_6 => ?_)
        obtain rfl : z_6 = nI ((7 * ct) + 5) := ez_6.trans (nI_add (7 * ct) 5)
        refine lv_iload hx hb dX2_rule_157 (lv_at hl 8 rfl) ?_
        refine na_iast hx hb hK hP hD hS 1 0 rfl rfl (show 7 * ct + 5 < 56 by omega) (by decide) dX2_rule_159 (fun H locs hP hD hS => ?_)
        have hP : va_P (dC, dI) vwCl (mdW m0 aN aR aX aO aP aH aL aW cI cJ vn ct (upd (upd (upd (upd (upd (upd nm (7 * ct) a0) ((7 * ct) + 1) a1) ((7 * ct) + 2) a2) ((7 * ct) + 3) b0) ((7 * ct) + 4) b1) ((7 * ct) + 5) b2) tp bt an rw nx og no rc nc hgh lws dh dl fT fB wd) H := hP
        have hD : va_D A (mdW m0 aN aR aX aO aP aH aL aW cI cJ vn ct (upd (upd (upd (upd (upd (upd nm (7 * ct) a0) ((7 * ct) + 1) a1) ((7 * ct) + 2) a2) ((7 * ct) + 3) b0) ((7 * ct) + 4) b1) ((7 * ct) + 5) b2) tp bt an rw nx og no rc nc hgh lws dh dl fT fB wd) := hD
        refine lv_aload_n hx hb dX2_rule_160 rfl (lv_at hl 2 rfl) ?_
        refine va_get (D := (dC, dI)) (ci := 2) (v := .ref aN) (C := RX2) (T := TX2) (N := 19) hx hb hts (fun _ h => List.mem_cons_of_mem _ (List.mem_append_right _ h)) hown hK hP 0 rfl rfl 2 (by decide) (hts (.fieldLink RX2 13 "RankFinderModel" "numbers" "[I") (List.mem_of_getElem? (i := 2) rfl)) (fun _ h9 => h9) rfl dX2_rule_161 ?_
        refine lv_iload hx hb dX2_rule_164 (lv_at hl 0 rfl) ?_
        refine lv_bipush (v := nI 6) hx hb dX2_rule_166 (by decide) ?_
        refine lv_iadd hx hb dX2_rule_168 ?_
        refine lv_topi (fun z_7 ez_7 => ?_)
        obtain rfl : z_7 = nI ((7 * ct) + 6) := ez_7.trans (nI_add (7 * ct) 6)
        refine lv_iload hx hb dX2_rule_169 (lv_at hl 9 rfl) ?_
        refine na_iast hx hb hK hP hD hS 1 0 rfl rfl (show 7 * ct + 6 < 56 by omega) (by decide) dX2_rule_171 (fun H locs hP hD hS => ?_)
        have hP : va_P (dC, dI) vwCl (mdW m0 aN aR aX aO aP aH aL aW cI cJ vn ct (upd (upd (upd (upd (upd (upd (upd nm (7 * ct) a0) ((7 * ct) + 1) a1) ((7 * ct) + 2) a2) ((7 * ct) + 3) b0) ((7 * ct) + 4) b1) ((7 * ct) + 5) b2) ((7 * ct) + 6) d) tp bt an rw nx og no rc nc hgh lws dh dl fT fB wd) H := hP
        have hD : va_D A (mdW m0 aN aR aX aO aP aH aL aW cI cJ vn ct (upd (upd (upd (upd (upd (upd (upd nm (7 * ct) a0) ((7 * ct) + 1) a1) ((7 * ct) + 2) a2) ((7 * ct) + 3) b0) ((7 * ct) + 4) b1) ((7 * ct) + 5) b2) ((7 * ct) + 6) d) tp bt an rw nx og no rc nc hgh lws dh dl fT fB wd) := hD
        refine lv_aload_n hx hb dX2_rule_172 rfl (lv_at hl 2 rfl) ?_
        refine lv_dup hx hb dX2_rule_173 rfl ?_
        refine va_get (D := (dC, dI)) (ci := 2) (v := .int (nI ct)) (C := RX2) (T := TX2) (N := 19) hx hb hts (fun _ h => List.mem_cons_of_mem _ (List.mem_append_right _ h)) hown hK hP 0 rfl rfl 1 (by decide) (hts (.fieldLink RX2 39 "RankFinderModel" "count" "I") (List.mem_of_getElem? (i := 1) rfl)) (fun _ h9 => h9) rfl dX2_rule_174 ?_
        refine lv_iconst (v := nI 1) hx hb dX2_rule_177 (by decide) ?_
        refine lv_iadd hx hb dX2_rule_178 ?_
        refine lv_topi (fun z_8 ez_8 => ?_)
        obtain rfl : z_8 = nI (ct + 1) := ez_8.trans (nI_add ct 1)
        refine va_put (D := (dC, dI)) (ci := 2) (v := .int (nI (ct + 1))) (ty := .int) (C := RX2) (T := TX2) (N := 19) hx hb hts (fun _ h => List.mem_cons_of_mem _ (List.mem_append_right _ h)) tyX2 tyX2_ok nmX2 hown hK hP hD hS 0 rfl rfl 1 (by decide) (hts (.fieldLink RX2 39 "RankFinderModel" "count" "I") (List.mem_of_getElem? (i := 1) rfl)) (fun _ h9 => h9) rfl (by decide +kernel) rfl rfl (Nat.le_of_ble_eq_true rfl) dX2_rule_179 (fun H locs hP hD hS => ?_)
        have hP : va_P (dC, dI) vwCl (mdW m0 aN aR aX aO aP aH aL aW cI cJ vn (ct + 1) (upd (upd (upd (upd (upd (upd (upd nm (7 * ct) a0) ((7 * ct) + 1) a1) ((7 * ct) + 2) a2) ((7 * ct) + 3) b0) ((7 * ct) + 4) b1) ((7 * ct) + 5) b2) ((7 * ct) + 6) d) tp bt an rw nx og no rc nc hgh lws dh dl fT fB wd) H := hP
        have hD : va_D A (mdW m0 aN aR aX aO aP aH aL aW cI cJ vn (ct + 1) (upd (upd (upd (upd (upd (upd (upd nm (7 * ct) a0) ((7 * ct) + 1) a1) ((7 * ct) + 2) a2) ((7 * ct) + 3) b0) ((7 * ct) + 4) b1) ((7 * ct) + 5) b2) ((7 * ct) + 6) d) tp bt an rw nx og no rc nc hgh lws dh dl fT fB wd) := hD
        refine lv_aload_n hx hb dX2_rule_182 rfl (lv_at hl 2 rfl) ?_
        refine va_get (D := (dC, dI)) (ci := 2) (v := .int (nI (ct + 1))) (C := RX2) (T := TX2) (N := 19) hx hb hts (fun _ h => List.mem_cons_of_mem _ (List.mem_append_right _ h)) hown hK hP 0 rfl rfl 1 (by decide) (hts (.fieldLink RX2 39 "RankFinderModel" "count" "I") (List.mem_of_getElem? (i := 1) rfl)) (fun _ h9 => h9) rfl dX2_rule_183 ?_
        refine lv_iconst (v := nI 1) hx hb dX2_rule_186 (by decide) ?_
        refine lv_isub hx hb dX2_rule_187 ?_
        refine lv_topi (fun z_9 ez_9 => ?_)
        obtain rfl : z_9 = nI ct := ez_9.trans (pk_sub (a := ct + 1) (b := 1) (by omega))
        exact W.iret (v := (nI ct)) hx hb hr (fun t ht hW => ⟨⟨(nI ct), (ct + 1, nmF nm ct a0 a1 a2 b0 b1 b2 d), rfl, Or.inl ⟨hc8, hok, rfl, rfl⟩, by rw [ht]; exact hP, va_K.moved hW.alike hK, hD⟩, hS.F ht⟩) hS.2.2 dX2_rule_188
      · refine lv_iload hx hb dX2_rule_83 (lv_at hl 0 rfl) ?_
        refine lv_if_ne (tgt := 90) hx hb dX2_rule_85 (by decide) (fun c => absurd rfl c) (fun _ => ?_)
        refine lv_iconst (v := (-1)) hx hb dX2_rule_88 (by decide) ?_
        exact W.iret (v := (-1)) hx hb hr (fun t ht hW => ⟨⟨(-1), (ct, nm), rfl, Or.inr ⟨rfl, fun q => hok q.2, rfl⟩, by rw [ht]; exact hP, va_K.moved hW.alike hK, hD⟩, hS.F ht⟩) hS.2.2 dX2_rule_89
  refine lv_iload_n hx hb dX2_rule_0 rfl (lv_at hl 1 rfl) ?_
  refine lv_bipush (v := nI 9) hx hb dX2_rule_1 (by decide) ?_
  have hFc : ∀ q, va_A ([] : va_W) H.size q → A q := fun q h => va_nilA hS hA q h
  refine va_calli (va_runS (As := [.int a0, .int (nI 9)]) (rest := []) ⟨hx, hb, hml, hown, hts⟩ (c_X2_isSmall l dC dI H.size a0 (nI 9)) (va_cwS 2 hts gX2_rule_X2_isSmall rfl rfl rfl (by decide +kernel) ⟨Nat.le_of_ble_eq_true rfl, Nat.le_of_ble_eq_true rfl⟩) ⟨fun a U g mk q => by obtain ⟨q0, q1, qP, qK, qD⟩ := q; exact ⟨q0, q1, qP, va_K.moved (u := U) (U := U.calling g mk a) (Vm.Alike.refl U.vm) qK, qD⟩, fun U hU hW => ⟨rfl, by rw [hU], va_nilP, va_K.moved hW.alike (hK.sub (tys' := []) [] rfl), va_nilD⟩⟩ rfl rfl hl.1 rfl (lv_room (Nat.le_of_ble_eq_true rfl)) dX2_rule_3 ⟨(Nat.zero_le _), (Nat.zero_le _)⟩) hS (fun q _ h => hFc q h) hFc (fun r_3 v9 t H1 locs ht hvm hw hB hz1 hk1 hS => ?_)
  have hP := va_keep hP hk1
  clear hB hk1 hz1 ht hvm hFc
  generalize H1 = H at hP hS ⊢
  rcases hw with ⟨rfl, h0⟩ | ⟨rfl, h0⟩
  · refine lv_if_eq (tgt := 71) hx hb dX2_rule_6 (by decide) (fun c => absurd c (by decide)) (fun _ => ?_)
    refine lv_iload_n hx hb dX2_rule_9 rfl (lv_at hl 2 rfl) ?_
    refine lv_bipush (v := nI 9) hx hb dX2_rule_10 (by decide) ?_
    have hFc : ∀ q, va_A ([] : va_W) H.size q → A q := fun q h => va_nilA hS hA q h
    refine va_calli (va_runS (As := [.int a1, .int (nI 9)]) (rest := []) ⟨hx, hb, hml, hown, hts⟩ (c_X2_isSmall l dC dI H.size a1 (nI 9)) (va_cwS 2 hts gX2_rule_X2_isSmall rfl rfl rfl (by decide +kernel) ⟨Nat.le_of_ble_eq_true rfl, Nat.le_of_ble_eq_true rfl⟩) ⟨fun a U g mk q => by obtain ⟨q0, q1, qP, qK, qD⟩ := q; exact ⟨q0, q1, qP, va_K.moved (u := U) (U := U.calling g mk a) (Vm.Alike.refl U.vm) qK, qD⟩, fun U hU hW => ⟨rfl, by rw [hU], va_nilP, va_K.moved hW.alike (hK.sub (tys' := []) [] rfl), va_nilD⟩⟩ rfl rfl hl.1 rfl (lv_room (Nat.le_of_ble_eq_true rfl)) dX2_rule_12 ⟨(Nat.zero_le _), (Nat.zero_le _)⟩) hS (fun q _ h => hFc q h) hFc (fun r_12 v9 t H1 locs ht hvm hw hB hz1 hk1 hS => ?_)
    have hP := va_keep hP hk1
    clear hB hk1 hz1 ht hvm hFc
    generalize H1 = H at hP hS ⊢
    rcases hw with ⟨rfl, h1⟩ | ⟨rfl, h1⟩
    · refine lv_if_eq (tgt := 71) hx hb dX2_rule_15 (by decide) (fun c => absurd c (by decide)) (fun _ => ?_)
      refine lv_iload_n hx hb dX2_rule_18 rfl (lv_at hl 3 rfl) ?_
      refine lv_bipush (v := nI 9) hx hb dX2_rule_19 (by decide) ?_
      have hFc : ∀ q, va_A ([] : va_W) H.size q → A q := fun q h => va_nilA hS hA q h
      refine va_calli (va_runS (As := [.int a2, .int (nI 9)]) (rest := []) ⟨hx, hb, hml, hown, hts⟩ (c_X2_isSmall l dC dI H.size a2 (nI 9)) (va_cwS 2 hts gX2_rule_X2_isSmall rfl rfl rfl (by decide +kernel) ⟨Nat.le_of_ble_eq_true rfl, Nat.le_of_ble_eq_true rfl⟩) ⟨fun a U g mk q => by obtain ⟨q0, q1, qP, qK, qD⟩ := q; exact ⟨q0, q1, qP, va_K.moved (u := U) (U := U.calling g mk a) (Vm.Alike.refl U.vm) qK, qD⟩, fun U hU hW => ⟨rfl, by rw [hU], va_nilP, va_K.moved hW.alike (hK.sub (tys' := []) [] rfl), va_nilD⟩⟩ rfl rfl hl.1 rfl (lv_room (Nat.le_of_ble_eq_true rfl)) dX2_rule_21 ⟨(Nat.zero_le _), (Nat.zero_le _)⟩) hS (fun q _ h => hFc q h) hFc (fun r_21 v9 t H1 locs ht hvm hw hB hz1 hk1 hS => ?_)
      have hP := va_keep hP hk1
      clear hB hk1 hz1 ht hvm hFc
      generalize H1 = H at hP hS ⊢
      rcases hw with ⟨rfl, h2⟩ | ⟨rfl, h2⟩
      · refine lv_if_eq (tgt := 71) hx hb dX2_rule_24 (by decide) (fun c => absurd c (by decide)) (fun _ => ?_)
        refine lv_iload hx hb dX2_rule_27 (lv_at hl 4 rfl) ?_
        refine lv_bipush (v := nI 9) hx hb dX2_rule_29 (by decide) ?_
        have hFc : ∀ q, va_A ([] : va_W) H.size q → A q := fun q h => va_nilA hS hA q h
        refine va_calli (va_runS (As := [.int b0, .int (nI 9)]) (rest := []) ⟨hx, hb, hml, hown, hts⟩ (c_X2_isSmall l dC dI H.size b0 (nI 9)) (va_cwS 2 hts gX2_rule_X2_isSmall rfl rfl rfl (by decide +kernel) ⟨Nat.le_of_ble_eq_true rfl, Nat.le_of_ble_eq_true rfl⟩) ⟨fun a U g mk q => by obtain ⟨q0, q1, qP, qK, qD⟩ := q; exact ⟨q0, q1, qP, va_K.moved (u := U) (U := U.calling g mk a) (Vm.Alike.refl U.vm) qK, qD⟩, fun U hU hW => ⟨rfl, by rw [hU], va_nilP, va_K.moved hW.alike (hK.sub (tys' := []) [] rfl), va_nilD⟩⟩ rfl rfl hl.1 rfl (lv_room (Nat.le_of_ble_eq_true rfl)) dX2_rule_31 ⟨(Nat.zero_le _), (Nat.zero_le _)⟩) hS (fun q _ h => hFc q h) hFc (fun r_31 v9 t H1 locs ht hvm hw hB hz1 hk1 hS => ?_)
        have hP := va_keep hP hk1
        clear hB hk1 hz1 ht hvm hFc
        generalize H1 = H at hP hS ⊢
        rcases hw with ⟨rfl, h3⟩ | ⟨rfl, h3⟩
        · refine lv_if_eq (tgt := 71) hx hb dX2_rule_34 (by decide) (fun c => absurd c (by decide)) (fun _ => ?_)
          refine lv_iload hx hb dX2_rule_37 (lv_at hl 5 rfl) ?_
          refine lv_bipush (v := nI 9) hx hb dX2_rule_39 (by decide) ?_
          have hFc : ∀ q, va_A ([] : va_W) H.size q → A q := fun q h => va_nilA hS hA q h
          refine va_calli (va_runS (As := [.int b1, .int (nI 9)]) (rest := []) ⟨hx, hb, hml, hown, hts⟩ (c_X2_isSmall l dC dI H.size b1 (nI 9)) (va_cwS 2 hts gX2_rule_X2_isSmall rfl rfl rfl (by decide +kernel) ⟨Nat.le_of_ble_eq_true rfl, Nat.le_of_ble_eq_true rfl⟩) ⟨fun a U g mk q => by obtain ⟨q0, q1, qP, qK, qD⟩ := q; exact ⟨q0, q1, qP, va_K.moved (u := U) (U := U.calling g mk a) (Vm.Alike.refl U.vm) qK, qD⟩, fun U hU hW => ⟨rfl, by rw [hU], va_nilP, va_K.moved hW.alike (hK.sub (tys' := []) [] rfl), va_nilD⟩⟩ rfl rfl hl.1 rfl (lv_room (Nat.le_of_ble_eq_true rfl)) dX2_rule_41 ⟨(Nat.zero_le _), (Nat.zero_le _)⟩) hS (fun q _ h => hFc q h) hFc (fun r_41 v9 t H1 locs ht hvm hw hB hz1 hk1 hS => ?_)
          have hP := va_keep hP hk1
          clear hB hk1 hz1 ht hvm hFc
          generalize H1 = H at hP hS ⊢
          rcases hw with ⟨rfl, h4⟩ | ⟨rfl, h4⟩
          · refine lv_if_eq (tgt := 71) hx hb dX2_rule_44 (by decide) (fun c => absurd c (by decide)) (fun _ => ?_)
            refine lv_iload hx hb dX2_rule_47 (lv_at hl 6 rfl) ?_
            refine lv_bipush (v := nI 9) hx hb dX2_rule_49 (by decide) ?_
            have hFc : ∀ q, va_A ([] : va_W) H.size q → A q := fun q h => va_nilA hS hA q h
            refine va_calli (va_runS (As := [.int b2, .int (nI 9)]) (rest := []) ⟨hx, hb, hml, hown, hts⟩ (c_X2_isSmall l dC dI H.size b2 (nI 9)) (va_cwS 2 hts gX2_rule_X2_isSmall rfl rfl rfl (by decide +kernel) ⟨Nat.le_of_ble_eq_true rfl, Nat.le_of_ble_eq_true rfl⟩) ⟨fun a U g mk q => by obtain ⟨q0, q1, qP, qK, qD⟩ := q; exact ⟨q0, q1, qP, va_K.moved (u := U) (U := U.calling g mk a) (Vm.Alike.refl U.vm) qK, qD⟩, fun U hU hW => ⟨rfl, by rw [hU], va_nilP, va_K.moved hW.alike (hK.sub (tys' := []) [] rfl), va_nilD⟩⟩ rfl rfl hl.1 rfl (lv_room (Nat.le_of_ble_eq_true rfl)) dX2_rule_51 ⟨(Nat.zero_le _), (Nat.zero_le _)⟩) hS (fun q _ h => hFc q h) hFc (fun r_51 v9 t H1 locs ht hvm hw hB hz1 hk1 hS => ?_)
            have hP := va_keep hP hk1
            clear hB hk1 hz1 ht hvm hFc
            generalize H1 = H at hP hS ⊢
            rcases hw with ⟨rfl, h5⟩ | ⟨rfl, h5⟩
            · refine lv_if_eq (tgt := 71) hx hb dX2_rule_54 (by decide) (fun c => absurd c (by decide)) (fun _ => ?_)
              refine lv_iload hx hb dX2_rule_57 (lv_at hl 7 rfl) ?_
              refine lv_bipush (v := nI 99) hx hb dX2_rule_59 (by decide) ?_
              have hFc : ∀ q, va_A ([] : va_W) H.size q → A q := fun q h => va_nilA hS hA q h
              refine va_calli (va_runS (As := [.int d, .int (nI 99)]) (rest := []) ⟨hx, hb, hml, hown, hts⟩ (c_X2_isSmall l dC dI H.size d (nI 99)) (va_cwS 2 hts gX2_rule_X2_isSmall rfl rfl rfl (by decide +kernel) ⟨Nat.le_of_ble_eq_true rfl, Nat.le_of_ble_eq_true rfl⟩) ⟨fun a U g mk q => by obtain ⟨q0, q1, qP, qK, qD⟩ := q; exact ⟨q0, q1, qP, va_K.moved (u := U) (U := U.calling g mk a) (Vm.Alike.refl U.vm) qK, qD⟩, fun U hU hW => ⟨rfl, by rw [hU], va_nilP, va_K.moved hW.alike (hK.sub (tys' := []) [] rfl), va_nilD⟩⟩ rfl rfl hl.1 rfl (lv_room (Nat.le_of_ble_eq_true rfl)) dX2_rule_61 ⟨(Nat.zero_le _), (Nat.zero_le _)⟩) hS (fun q _ h => hFc q h) hFc (fun r_61 v9 t H1 locs ht hvm hw hB hz1 hk1 hS => ?_)
              have hP := va_keep hP hk1
              clear hB hk1 hz1 ht hvm hFc
              generalize H1 = H at hP hS ⊢
              rcases hw with ⟨rfl, h6⟩ | ⟨rfl, h6⟩
              · refine lv_if_eq (tgt := 71) hx hb dX2_rule_64 (by decide) (fun c => absurd c (by decide)) (fun _ => ?_)
                refine lv_iconst (v := nI 1) hx hb dX2_rule_67 (by decide) ?_
                refine lv_goto (tgt := 72) hx hb dX2_rule_68 (by decide) ?_
                refine lv_istore (lv' := [(8, .int (nI 1)), (0, .ref m0), (1, .int a0), (2, .int a1), (3, .int a2), (4, .int b0), (5, .int b1), (6, .int b2), (7, .int d)]) hx hb dX2_rule_72 hl (by decide) rfl (fun ls hl => ?_)
                exact behind 1 H _ ls (Or.inl ⟨rfl, ⟨h0, h1, h2⟩, ⟨h3, h4, h5⟩, h6⟩) hP hK hD hS (lv_sub hl [0, 1, 2, 3, 4, 5, 6, 7, 8] rfl)
              · refine lv_if_eq (tgt := 71) hx hb dX2_rule_64 (by decide) (fun _ => ?_) (fun c => absurd rfl c)
                refine lv_iconst (v := nI 0) hx hb dX2_rule_71 (by decide) ?_
                refine lv_istore (lv' := [(8, .int (nI 0)), (0, .ref m0), (1, .int a0), (2, .int a1), (3, .int a2), (4, .int b0), (5, .int b1), (6, .int b2), (7, .int d)]) hx hb dX2_rule_72 hl (by decide) rfl (fun ls hl => ?_)
                exact behind 0 H _ ls (Or.inr ⟨rfl, fun q => h6 q.2.2⟩) hP hK hD hS (lv_sub hl [0, 1, 2, 3, 4, 5, 6, 7, 8] rfl)
            · refine lv_if_eq (tgt := 71) hx hb dX2_rule_54 (by decide) (fun _ => ?_) (fun c => absurd rfl c)
              refine lv_iconst (v := nI 0) hx hb dX2_rule_71 (by decide) ?_
              refine lv_istore (lv' := [(8, .int (nI 0)), (0, .ref m0), (1, .int a0), (2, .int a1), (3, .int a2), (4, .int b0), (5, .int b1), (6, .int b2), (7, .int d)]) hx hb dX2_rule_72 hl (by decide) rfl (fun ls hl => ?_)
              exact behind 0 H _ ls (Or.inr ⟨rfl, fun q => h5 q.2.1.2.2⟩) hP hK hD hS (lv_sub hl [0, 1, 2, 3, 4, 5, 6, 7, 8] rfl)
          · refine lv_if_eq (tgt := 71) hx hb dX2_rule_44 (by decide) (fun _ => ?_) (fun c => absurd rfl c)
            refine lv_iconst (v := nI 0) hx hb dX2_rule_71 (by decide) ?_
            refine lv_istore (lv' := [(8, .int (nI 0)), (0, .ref m0), (1, .int a0), (2, .int a1), (3, .int a2), (4, .int b0), (5, .int b1), (6, .int b2), (7, .int d)]) hx hb dX2_rule_72 hl (by decide) rfl (fun ls hl => ?_)
            exact behind 0 H _ ls (Or.inr ⟨rfl, fun q => h4 q.2.1.2.1⟩) hP hK hD hS (lv_sub hl [0, 1, 2, 3, 4, 5, 6, 7, 8] rfl)
        · refine lv_if_eq (tgt := 71) hx hb dX2_rule_34 (by decide) (fun _ => ?_) (fun c => absurd rfl c)
          refine lv_iconst (v := nI 0) hx hb dX2_rule_71 (by decide) ?_
          refine lv_istore (lv' := [(8, .int (nI 0)), (0, .ref m0), (1, .int a0), (2, .int a1), (3, .int a2), (4, .int b0), (5, .int b1), (6, .int b2), (7, .int d)]) hx hb dX2_rule_72 hl (by decide) rfl (fun ls hl => ?_)
          exact behind 0 H _ ls (Or.inr ⟨rfl, fun q => h3 q.2.1.1⟩) hP hK hD hS (lv_sub hl [0, 1, 2, 3, 4, 5, 6, 7, 8] rfl)
      · refine lv_if_eq (tgt := 71) hx hb dX2_rule_24 (by decide) (fun _ => ?_) (fun c => absurd rfl c)
        refine lv_iconst (v := nI 0) hx hb dX2_rule_71 (by decide) ?_
        refine lv_istore (lv' := [(8, .int (nI 0)), (0, .ref m0), (1, .int a0), (2, .int a1), (3, .int a2), (4, .int b0), (5, .int b1), (6, .int b2), (7, .int d)]) hx hb dX2_rule_72 hl (by decide) rfl (fun ls hl => ?_)
        exact behind 0 H _ ls (Or.inr ⟨rfl, fun q => h2 q.1.2.2⟩) hP hK hD hS (lv_sub hl [0, 1, 2, 3, 4, 5, 6, 7, 8] rfl)
    · refine lv_if_eq (tgt := 71) hx hb dX2_rule_15 (by decide) (fun _ => ?_) (fun c => absurd rfl c)
      refine lv_iconst (v := nI 0) hx hb dX2_rule_71 (by decide) ?_
      refine lv_istore (lv' := [(8, .int (nI 0)), (0, .ref m0), (1, .int a0), (2, .int a1), (3, .int a2), (4, .int b0), (5, .int b1), (6, .int b2), (7, .int d)]) hx hb dX2_rule_72 hl (by decide) rfl (fun ls hl => ?_)
      exact behind 0 H _ ls (Or.inr ⟨rfl, fun q => h1 q.1.2.1⟩) hP hK hD hS (lv_sub hl [0, 1, 2, 3, 4, 5, 6, 7, 8] rfl)
  · refine lv_if_eq (tgt := 71) hx hb dX2_rule_6 (by decide) (fun _ => ?_) (fun c => absurd rfl c)
    refine lv_iconst (v := nI 0) hx hb dX2_rule_71 (by decide) ?_
    refine lv_istore (lv' := [(8, .int (nI 0)), (0, .ref m0), (1, .int a0), (2, .int a1), (3, .int a2), (4, .int b0), (5, .int b1), (6, .int b2), (7, .int d)]) hx hb dX2_rule_72 hl (by decide) rfl (fun ls hl => ?_)
    exact behind 0 H _ ls (Or.inr ⟨rfl, fun q => h0 q.1.1⟩) hP hK hD hS (lv_sub hl [0, 1, 2, 3, 4, 5, 6, 7, 8] rfl)
theorem sz_bit {mk k : Nat} (hm : mk < 65536) (hk : k < 32) : (nI mk >>> (nI k &&& 31)) &&& nI 1 = nI (if mk.testBit k then 1 else 0) := by
  have h1 : ((nI k &&& 31).toBitVec.smod 32).toNat = k := by
    have : ∀ k, k < 32 → ((nI k &&& 31).toBitVec.smod 32).toNat = k := by decide +kernel
    exact this k hk
  rw [pk_shrN (by omega) _ k h1, pk_andN (by have : mk / 2 ^ k ≤ mk := Nat.div_le_self _ _; omega) 1 (by decide)]
  congr 1
  rw [Nat.testBit_eq_decide_div_mod_eq]
  rcases Nat.mod_two_eq_zero_or_one (mk / 2 ^ k) with e | e
  · rw [show 2 ^ 1 = 2 from rfl, e]; rfl
  · rw [show 2 ^ 1 = 2 from rfl, e]; rfl
set_option maxHeartbeats 1000000 in
set_option maxRecDepth 100000 in
/-- size(set) -/
theorem c_X2_size (l : Launch) (dC : Nat → ClassId) (dI : Nat → Nat → Nat) (sz : Nat) (mk : Nat) (hm : mk < 65536) : Met l yX2_size wsX2_size ({ frames := 0, cells := 0, slots := 0, locals := 0 }) (va_Pc [.int (nI mk)] (fun U => U.heap.size = sz ∧ va_P (dC, dI) vwCl ([] : va_W) U.heap ∧ va_K (dC, dI) vwCl [] U ∧ va_D (fun _ => True) ([] : va_W))) (va_Qi (fun (x : Int32) (v : Unit) => x = nI (ct (fun k => mk.testBit k) 16)) (fun v t => va_P (dC, dI) vwCl ([] : va_W) t.heap ∧ va_K (dC, dI) vwCl [] t ∧ va_D (va_A ([] : va_W) sz) ([] : va_W)) (va_A ([] : va_W) sz)) 0 0 (va_A ([] : va_W) sz) := by
  refine Met.ofW (cc := cX2_size) (maxL := 3) (ret := (some .int)) (by decide) rfl ?_
  intro p e s m args below meth c s₁ B hml hv
  obtain ⟨rfl, hsz, hP, hK, hD0⟩ := hv
  have hx := B.exec
  have hb := B.bytes
  have hr := B.returns
  have hts := atoms_spec (ws := wsX2_size) B.pre
  have hown : s.vm.findClass RX2 = some m.cls := findClass_of_methodNamed B.named
  subst hsz
  have hD := hD0.self (sz := s.heap.size)
  clear hD0
  generalize hAe : va_A ([] : va_W) s.heap.size = A at hD ⊢
  have hA : ∀ q : Nat, s.heap.size ≤ q → A q := fun q h => by rw [← hAe]; exact Or.inr h
  have hl := lv_entry ([.int (nI mk)]) (n := 3) (Nat.le_of_ble_eq_true rfl)
  rw [lg_entry_eq]
  generalize (lg_sl ([.int (nI mk)]) ++ List.replicate (3 - (lg_sl ([.int (nI mk)])).length) Slot.unset).toArray = ls at hl ⊢
  have hl : lv_has ls 3 [(0, .int (nI mk))] := hl
  have hP : va_P (dC, dI) vwCl ([] : va_W) s.heap := hP
  obtain ⟨H, hH⟩ : ∃ H, H = s.heap := ⟨_, rfl⟩
  have hS : va_S A s.heap H [] := by rw [hH]; exact va_S.rf
  rw [← hH] at hP ⊢
  refine lv_iconst (v := nI 0) hx hb dX2_size_0 (by decide) ?_
  refine lv_istore_n (lv' := [(1, .int (nI 0)), (0, .int (nI mk))]) hx hb dX2_size_1 rfl hl (by decide) rfl (fun ls hl => ?_)
  refine lv_iconst (v := nI 0) hx hb dX2_size_2 (by decide) ?_
  refine lv_istore_n (lv' := [(2, .int (nI 0)), (1, .int (nI 0)), (0, .int (nI mk))]) hx hb dX2_size_3 rfl hl (by decide) rfl (fun ls hl => ?_)
  have loop : ∀ (d k : Nat) (ls : Array Slot), k + d = 16 → lv_has ls 3 [(2, .int (nI k)), (1, .int (nI (ct (fun k => mk.testBit k) k))), (0, .int (nI mk))] → W p l e (headSpec wsX2_size ({ frames := 0, cells := 0, slots := 0, locals := 0 })).room s m #[.int (nI mk)] below meth c H [] 0 0 (MQ below (va_Qi (fun (x : Int32) (v : Unit) => x = nI (ct (fun k => mk.testBit k) 16)) (fun v t => va_P (dC, dI) vwCl ([] : va_W) t.heap ∧ va_K (dC, dI) vwCl [] t ∧ va_D A ([] : va_W)) A) #[.int (nI mk)] s 0 0 A) (F0 m 4 ls []) := by
    clear hl
    intro d
    induction d with
    | zero =>
      intro k ls hk hl
      refine lv_iload_n hx hb dX2_size_4 rfl (lv_at hl 0 rfl) ?_
      refine lv_bipush (v := nI 16) hx hb dX2_size_5 (by decide) ?_
      refine lv_icmp_ge (tgt := 24) hx hb dX2_size_7 (by decide) (fun c1 => ?_) (fun c1 => ?_)
      · obtain rfl : k = 16 := by omega
        refine lv_iload_n hx hb dX2_size_24 rfl (lv_at hl 1 rfl) ?_
        exact W.iret (v := (nI (ct (fun k => mk.testBit k) 16))) hx hb hr (fun t ht hW => ⟨⟨(nI (ct (fun k => mk.testBit k) 16)), (), rfl, rfl, by rw [ht]; exact hP, va_K.moved hW.alike hK, hD⟩, hS.F ht⟩) hS.2.2 dX2_size_25
      · exact absurd (nI_le (by omega) (by omega)) c1
    | succ d ih =>
      intro k ls hk hl
      refine lv_iload_n hx hb dX2_size_4 rfl (lv_at hl 0 rfl) ?_
      refine lv_bipush (v := nI 16) hx hb dX2_size_5 (by decide) ?_
      refine lv_icmp_ge (tgt := 24) hx hb dX2_size_7 (by decide) (fun c1 => ?_) (fun c1 => ?_)
      · exact absurd c1 (nI_ge (by omega) (by omega))
      · refine lv_iload_n hx hb dX2_size_10 rfl (lv_at hl 1 rfl) ?_
        refine lv_iload_n hx hb dX2_size_11 rfl (lv_at hl 2 rfl) ?_
        refine lv_iload_n hx hb dX2_size_12 rfl (lv_at hl 0 rfl) ?_
        refine lv_ishr hx hb dX2_size_13 ?_
        refine lv_iconst (v := nI 1) hx hb dX2_size_14 (by decide) ?_
        refine lv_iand hx hb dX2_size_15 ?_
        refine lv_topi (fun z_1 ez_1 => ?_)
        obtain rfl : z_1 = nI (if mk.testBit k then 1 else 0) := ez_1.trans (sz_bit hm (by omega))
        refine lv_iadd hx hb dX2_size_16 ?_
        refine lv_topi (fun z_2 ez_2 => ?_)
        obtain rfl : z_2 = nI ((ct (fun k => mk.testBit k) k) + (if mk.testBit k then 1 else 0)) := ez_2.trans (nI_add (ct (fun k => mk.testBit k) k) (if mk.testBit k then 1 else 0))
        refine lv_istore_n (lv' := [(1, .int (nI ((ct (fun k => mk.testBit k) k) + (if mk.testBit k then 1 else 0)))), (2, .int (nI k)), (0, .int (nI mk))]) hx hb dX2_size_17 rfl hl (by decide) rfl (fun ls hl => ?_)
        refine lv_iinc (v := nI (k + 1)) (lv' := [(2, .int (nI (k + 1))), (1, .int (nI ((ct (fun k => mk.testBit k) k) + (if mk.testBit k then 1 else 0)))), (0, .int (nI mk))]) hx hb dX2_size_18 hl (k := 1) rfl (nI_1 _) (by decide) rfl (fun ls hl => ?_)
        refine lv_goto (tgt := 4) hx hb dX2_size_21 (by decide) ?_
        exact ih (k + 1) ls (by omega) (lv_sub hl [0, 1, 2] rfl)
  exact loop 16 0 ls (by omega) (lv_sub hl [0, 1, 2] rfl)
set_option maxHeartbeats 1000000 in
set_option maxRecDepth 100000 in
/-- areBeside(a, b) -/
theorem c_X2_areBeside (l : Launch) (dC : Nat → ClassId) (dI : Nat → Nat → Nat) (sz : Nat) (m0 aN aR aX aO aP aH aL aW : Nat) (cI cJ : ClassId) (vn ct : Nat) (nm : Nat → Int32) (tp bt : Int64) (an : Int32) (rw nx : Nat → Int64) (og no : Nat → Int32) (rc nc : Nat) (hgh lws : Nat → Int64) (dh dl fT fB : Int64) (wd : Nat → Int32) (a b : Nat) (hrc : rc ≤ 1200) (ha : a < rc) (hb9 : b < rc) : Met l yX2_areBeside wsX2_areBeside ({ frames := 0, cells := 0, slots := 0, locals := 0 }) (va_Pc [.ref m0, .int (nI a), .int (nI b)] (fun U => U.heap.size = sz ∧ va_P (dC, dI) vwCl (mdW m0 aN aR aX aO aP aH aL aW cI cJ vn ct nm tp bt an rw nx og no rc nc hgh lws dh dl fT fB wd) U.heap ∧ va_K (dC, dI) vwCl [(cI, .int), (cJ, .long)] U ∧ va_D (fun _ => True) (mdW m0 aN aR aX aO aP aH aL aW cI cJ vn ct nm tp bt an rw nx og no rc nc hgh lws dh dl fT fB wd))) (va_Qi (fun (x : Int32) (v : Unit) => (x = 1 ∧ ∀ k, k < rc → k ≠ a → k ≠ b → ovI og a b k ≠ 0) ∨ (x = 0 ∧ ¬ ∀ k, k < rc → k ≠ a → k ≠ b → ovI og a b k ≠ 0)) (fun v t => va_P (dC, dI) vwCl (mdW m0 aN aR aX aO aP aH aL aW cI cJ vn ct nm tp bt an rw nx og no rc nc hgh lws dh dl fT fB wd) t.heap ∧ va_K (dC, dI) vwCl [(cI, .int), (cJ, .long)] t ∧ va_D (va_A (mdW m0 aN aR aX aO aP aH aL aW cI cJ vn ct nm tp bt an rw nx og no rc nc hgh lws dh dl fT fB wd) sz) (mdW m0 aN aR aX aO aP aH aL aW cI cJ vn ct nm tp bt an rw nx og no rc nc hgh lws dh dl fT fB wd)) (va_A (mdW m0 aN aR aX aO aP aH aL aW cI cJ vn ct nm tp bt an rw nx og no rc nc hgh lws dh dl fT fB wd) sz)) 0 0 (va_A (mdW m0 aN aR aX aO aP aH aL aW cI cJ vn ct nm tp bt an rw nx og no rc nc hgh lws dh dl fT fB wd) sz) := by
  refine Met.ofW (cc := cX2_areBeside) (maxL := 5) (ret := (some .boolean)) (by decide) rfl ?_
  intro p e s m args below meth c s₁ B hml hv
  obtain ⟨rfl, hsz, hP, hK, hD0⟩ := hv
  have hx := B.exec
  have hb := B.bytes
  have hr := B.returns
  have hts := atoms_spec (ws := wsX2_areBeside) B.pre
  have hown : s.vm.findClass RX2 = some m.cls := findClass_of_methodNamed B.named
  subst hsz
  have hD := hD0.self (sz := s.heap.size)
  clear hD0
  generalize hAe : va_A (mdW m0 aN aR aX aO aP aH aL aW cI cJ vn ct nm tp bt an rw nx og no rc nc hgh lws dh dl fT fB wd) s.heap.size = A at hD ⊢
  have hA : ∀ q : Nat, s.heap.size ≤ q → A q := fun q h => by rw [← hAe]; exact Or.inr h
  have hl := lv_entry ([.ref m0, .int (nI a), .int (nI b)]) (n := 5) (Nat.le_of_ble_eq_true rfl)
  rw [lg_entry_eq]
  generalize (lg_sl ([.ref m0, .int (nI a), .int (nI b)]) ++ List.replicate (5 - (lg_sl ([.ref m0, .int (nI a), .int (nI b)])).length) Slot.unset).toArray = ls at hl ⊢
  have hl : lv_has ls 5 [(0, .ref m0), (1, .int (nI a)), (2, .int (nI b))] := hl
  have hP : va_P (dC, dI) vwCl (mdW m0 aN aR aX aO aP aH aL aW cI cJ vn ct nm tp bt an rw nx og no rc nc hgh lws dh dl fT fB wd) s.heap := hP
  obtain ⟨H, hH⟩ : ∃ H, H = s.heap := ⟨_, rfl⟩
  have hS : va_S A s.heap H [] := by rw [hH]; exact va_S.rf
  rw [← hH] at hP ⊢
  refine lv_aload_n hx hb dX2_areBeside_0 rfl (lv_at hl 0 rfl) ?_
  refine va_get (D := (dC, dI)) (ci := 2) (v := .ref aO) (C := RX2) (T := TX2) (N := 19) hx hb hts (fun _ h => List.mem_cons_of_mem _ (List.mem_append_right _ h)) hown hK hP 0 rfl rfl 8 (by decide) (hts (.fieldLink RX2 24 "RankFinderModel" "origins" "[I") (List.mem_of_getElem? (i := 1) rfl)) (fun _ h9 => h9) rfl dX2_areBeside_1 ?_
  refine lv_iload_n hx hb dX2_areBeside_4 rfl (lv_at hl 1 rfl) ?_
  refine na_iald hx hb hK hP 4 0 rfl rfl (show a < 1200 by omega) (by decide) dX2_areBeside_5 ?_
  refine lv_aload_n hx hb dX2_areBeside_6 rfl (lv_at hl 0 rfl) ?_
  refine va_get (D := (dC, dI)) (ci := 2) (v := .ref aO) (C := RX2) (T := TX2) (N := 19) hx hb hts (fun _ h => List.mem_cons_of_mem _ (List.mem_append_right _ h)) hown hK hP 0 rfl rfl 8 (by decide) (hts (.fieldLink RX2 24 "RankFinderModel" "origins" "[I") (List.mem_of_getElem? (i := 1) rfl)) (fun _ h9 => h9) rfl dX2_areBeside_7 ?_
  refine lv_iload_n hx hb dX2_areBeside_10 rfl (lv_at hl 2 rfl) ?_
  refine na_iald hx hb hK hP 4 0 rfl rfl (show b < 1200 by omega) (by decide) dX2_areBeside_11 ?_
  refine lv_ior hx hb dX2_areBeside_12 ?_
  refine lv_istore_n (lv' := [(3, .int ((og a) ||| (og b))), (0, .ref m0), (1, .int (nI a)), (2, .int (nI b))]) hx hb dX2_areBeside_13 rfl hl (by decide) rfl (fun ls hl => ?_)
  refine lv_iconst (v := nI 0) hx hb dX2_areBeside_14 (by decide) ?_
  refine lv_istore (lv' := [(4, .int (nI 0)), (3, .int ((og a) ||| (og b))), (0, .ref m0), (1, .int (nI a)), (2, .int (nI b))]) hx hb dX2_areBeside_15 hl (by decide) rfl (fun ls hl => ?_)
  have loop : ∀ (d k : Nat) (ls : Array Slot), k + d = rc → (∀ i, i < k → i ≠ a → i ≠ b → ovI og a b i ≠ 0) → lv_has ls 5 [(4, .int (nI k)), (3, .int (og a ||| og b)), (0, .ref m0), (1, .int (nI a)), (2, .int (nI b))] → W p l e (headSpec wsX2_areBeside ({ frames := 0, cells := 0, slots := 0, locals := 0 })).room s m #[.ref m0, .int (nI a), .int (nI b)] below meth c H [] 0 0 (MQ below (va_Qi (fun (x : Int32) (v : Unit) => (x = 1 ∧ ∀ k, k < rc → k ≠ a → k ≠ b → ovI og a b k ≠ 0) ∨ (x = 0 ∧ ¬ ∀ k, k < rc → k ≠ a → k ≠ b → ovI og a b k ≠ 0)) (fun v t => va_P (dC, dI) vwCl (mdW m0 aN aR aX aO aP aH aL aW cI cJ vn ct nm tp bt an rw nx og no rc nc hgh lws dh dl fT fB wd) t.heap ∧ va_K (dC, dI) vwCl [(cI, .int), (cJ, .long)] t ∧ va_D A (mdW m0 aN aR aX aO aP aH aL aW cI cJ vn ct nm tp bt an rw nx og no rc nc hgh lws dh dl fT fB wd)) A) #[.ref m0, .int (nI a), .int (nI b)] s 0 0 A) (F0 m 17 ls []) := by
    clear hl
    intro d
    induction d with
    | zero =>
      intro k ls hk hz hl
      refine lv_iload hx hb dX2_areBeside_17 (lv_at hl 0 rfl) ?_
      refine lv_aload_n hx hb dX2_areBeside_19 rfl (lv_at hl 2 rfl) ?_
      refine va_get (D := (dC, dI)) (ci := 2) (v := .int (nI rc)) (C := RX2) (T := TX2) (N := 19) hx hb hts (fun _ h => List.mem_cons_of_mem _ (List.mem_append_right _ h)) hown hK hP 0 rfl rfl 10 (by decide) (hts (.fieldLink RX2 46 "RankFinderModel" "rowCount" "I") (List.mem_of_getElem? (i := 2) rfl)) (fun _ h9 => h9) rfl dX2_areBeside_20 ?_
      refine lv_icmp_ge (tgt := 60) hx hb dX2_areBeside_23 (by decide) (fun c1 => ?_) (fun c1 => ?_)
      · refine lv_iconst (v := nI 1) hx hb dX2_areBeside_60 (by decide) ?_
        exact W.zret (v := (nI 1)) hx hb hr (by rfl) (fun t ht hW => ⟨⟨(nI 1), (), rfl, Or.inl ⟨rfl, fun i hi => hz i (by omega)⟩, by rw [ht]; exact hP, va_K.moved hW.alike hK, hD⟩, hS.F ht⟩) hS.2.2 dX2_areBeside_61
      · exact absurd (nI_le (by omega) (by omega)) c1
    | succ d ih =>
      intro k ls hk hz hl
      refine lv_iload hx hb dX2_areBeside_17 (lv_at hl 0 rfl) ?_
      refine lv_aload_n hx hb dX2_areBeside_19 rfl (lv_at hl 2 rfl) ?_
      refine va_get (D := (dC, dI)) (ci := 2) (v := .int (nI rc)) (C := RX2) (T := TX2) (N := 19) hx hb hts (fun _ h => List.mem_cons_of_mem _ (List.mem_append_right _ h)) hown hK hP 0 rfl rfl 10 (by decide) (hts (.fieldLink RX2 46 "RankFinderModel" "rowCount" "I") (List.mem_of_getElem? (i := 2) rfl)) (fun _ h9 => h9) rfl dX2_areBeside_20 ?_
      refine lv_icmp_ge (tgt := 60) hx hb dX2_areBeside_23 (by decide) (fun c1 => ?_) (fun c1 => ?_)
      · exact absurd c1 (nI_ge (by omega) (by omega))
      · refine lv_iload hx hb dX2_areBeside_26 (lv_at hl 0 rfl) ?_
        refine lv_iload_n hx hb dX2_areBeside_28 rfl (lv_at hl 3 rfl) ?_
        refine lv_icmp_eq (tgt := 54) hx hb dX2_areBeside_29 (by decide) (fun c2 => ?_) (fun c2 => ?_)
        · refine lv_iinc (v := nI (k + 1)) (lv' := [(4, .int (nI (k + 1))), (3, .int (og a ||| og b)), (0, .ref m0), (1, .int (nI a)), (2, .int (nI b))]) hx hb dX2_areBeside_54 hl (k := 0) rfl (nI_1 _) (by decide) rfl (fun ls hl => ?_)
          refine lv_goto (tgt := 17) hx hb dX2_areBeside_57 (by decide) ?_
          exact ih (k + 1) ls (by omega) (fun i hi q1 q2 => by
            by_cases e9 : i = k
            · subst e9; exact absurd (nI_inj (by omega) (by omega) c2) q1
            · exact hz i (by omega) q1 q2) (lv_sub hl [0, 1, 2, 3, 4] rfl)
        · refine lv_iload hx hb dX2_areBeside_32 (lv_at hl 0 rfl) ?_
          refine lv_iload_n hx hb dX2_areBeside_34 rfl (lv_at hl 4 rfl) ?_
          refine lv_icmp_eq (tgt := 54) hx hb dX2_areBeside_35 (by decide) (fun c3 => ?_) (fun c3 => ?_)
          · refine lv_iinc (v := nI (k + 1)) (lv' := [(4, .int (nI (k + 1))), (3, .int (og a ||| og b)), (0, .ref m0), (1, .int (nI a)), (2, .int (nI b))]) hx hb dX2_areBeside_54 hl (k := 0) rfl (nI_1 _) (by decide) rfl (fun ls hl => ?_)
            refine lv_goto (tgt := 17) hx hb dX2_areBeside_57 (by decide) ?_
            exact ih (k + 1) ls (by omega) (fun i hi q1 q2 => by
              by_cases e9 : i = k
              · subst e9; exact absurd (nI_inj (by omega) (by omega) c3) q2
              · exact hz i (by omega) q1 q2) (lv_sub hl [0, 1, 2, 3, 4] rfl)
          · refine lv_aload_n hx hb dX2_areBeside_38 rfl (lv_at hl 2 rfl) ?_
            refine va_get (D := (dC, dI)) (ci := 2) (v := .ref aO) (C := RX2) (T := TX2) (N := 19) hx hb hts (fun _ h => List.mem_cons_of_mem _ (List.mem_append_right _ h)) hown hK hP 0 rfl rfl 8 (by decide) (hts (.fieldLink RX2 24 "RankFinderModel" "origins" "[I") (List.mem_of_getElem? (i := 1) rfl)) (fun _ h9 => h9) rfl dX2_areBeside_39 ?_
            refine lv_iload hx hb dX2_areBeside_42 (lv_at hl 0 rfl) ?_
            refine na_iald hx hb hK hP 4 0 rfl rfl (show k < 1200 by omega) (by decide) dX2_areBeside_44 ?_
            refine lv_iload_n hx hb dX2_areBeside_45 rfl (lv_at hl 1 rfl) ?_
            refine lv_iconst (v := (-1)) hx hb dX2_areBeside_46 (by decide) ?_
            refine lv_ixor hx hb dX2_areBeside_47 ?_
            refine lv_iand hx hb dX2_areBeside_48 ?_
            refine lv_if_ne (tgt := 54) hx hb dX2_areBeside_49 (by decide) (fun c4 => ?_) (fun c4 => ?_)
            · refine lv_iinc (v := nI (k + 1)) (lv' := [(4, .int (nI (k + 1))), (3, .int (og a ||| og b)), (0, .ref m0), (1, .int (nI a)), (2, .int (nI b))]) hx hb dX2_areBeside_54 hl (k := 0) rfl (nI_1 _) (by decide) rfl (fun ls hl => ?_)
              refine lv_goto (tgt := 17) hx hb dX2_areBeside_57 (by decide) ?_
              exact ih (k + 1) ls (by omega) (fun i hi q1 q2 => by
                by_cases e9 : i = k
                · subst e9; exact c4
                · exact hz i (by omega) q1 q2) (lv_sub hl [0, 1, 2, 3, 4] rfl)
            · refine lv_iconst (v := nI 0) hx hb dX2_areBeside_52 (by decide) ?_
              exact W.zret (v := (nI 0)) hx hb hr (by rfl) (fun t ht hW => ⟨⟨(nI 0), (), rfl, Or.inr ⟨rfl, fun q => q k (by omega) (fun e => c2 (by rw [e])) (fun e => c3 (by rw [e])) c4⟩, by rw [ht]; exact hP, va_K.moved hW.alike hK, hD⟩, hS.F ht⟩) hS.2.2 dX2_areBeside_53
  exact loop rc 0 ls (by omega) (fun i hi => by omega) (lv_sub hl [0, 1, 2, 3, 4] rfl)
set_option maxHeartbeats 1000000 in
set_option maxRecDepth 100000 in
/-- make(pl, a, b, c, d) -/
theorem c_X2_make (l : Launch) (dC : Nat → ClassId) (dI : Nat → Nat → Nat) (sz : Nat) (m0 aN aR aX aO aP aH aL aW : Nat) (cI cJ : ClassId) (vn ct : Nat) (nm : Nat → Int32) (tp bt : Int64) (an : Int32) (rw nx : Nat → Int64) (og no : Nat → Int32) (rc nc : Nat) (hgh lws : Nat → Int64) (dh dl fT fB : Int64) (wd : Nat → Int32) (pl : Nat) (a b c9 d : Int64) (hpl : pl < 11) : Met l yX2_make wsX2_make ({ frames := 1, cells := 0, slots := 0, locals := 35 }) (va_Pc [.ref m0, .int (nI pl), .long a, .long b, .long c9, .long d] (fun U => U.heap.size = sz ∧ va_P (dC, dI) vwCl (mdW m0 aN aR aX aO aP aH aL aW cI cJ vn ct nm tp bt an rw nx og no rc nc hgh lws dh dl fT fB wd) U.heap ∧ va_K (dC, dI) vwCl [(cI, .int), (cJ, .long)] U ∧ va_D (fun _ => True) (mdW m0 aN aR aX aO aP aH aL aW cI cJ vn ct nm tp bt an rw nx og no rc nc hgh lws dh dl fT fB wd))) (va_Qv (fun v : Unit => True) (fun v t => va_P (dC, dI) vwCl (mdW m0 aN aR aX aO aP aH aL aW cI cJ vn ct nm tp bt an rw nx og no rc nc (vp_updL hgh pl (mkH a b c9 d)) (vp_updL lws pl (a * b + c9 * d)) dh dl fT fB wd) t.heap ∧ va_K (dC, dI) vwCl [(cI, .int), (cJ, .long)] t ∧ va_D (va_A (mdW m0 aN aR aX aO aP aH aL aW cI cJ vn ct nm tp bt an rw nx og no rc nc hgh lws dh dl fT fB wd) sz) (mdW m0 aN aR aX aO aP aH aL aW cI cJ vn ct nm tp bt an rw nx og no rc nc (vp_updL hgh pl (mkH a b c9 d)) (vp_updL lws pl (a * b + c9 * d)) dh dl fT fB wd)) (va_A (mdW m0 aN aR aX aO aP aH aL aW cI cJ vn ct nm tp bt an rw nx og no rc nc hgh lws dh dl fT fB wd) sz)) 0 0 (va_A (mdW m0 aN aR aX aO aP aH aL aW cI cJ vn ct nm tp bt an rw nx og no rc nc hgh lws dh dl fT fB wd) sz) := by
  refine Met.ofW (cc := cX2_make) (maxL := 14) (ret := none) (by decide) rfl ?_
  intro p e s m args below meth c s₁ B hml hv
  obtain ⟨rfl, hsz, hP, hK, hD0⟩ := hv
  have hx := B.exec
  have hb := B.bytes
  have hr := B.returns
  have hts := atoms_spec (ws := wsX2_make) B.pre
  have hown : s.vm.findClass RX2 = some m.cls := findClass_of_methodNamed B.named
  subst hsz
  have hD := hD0.self (sz := s.heap.size)
  clear hD0
  generalize hAe : va_A (mdW m0 aN aR aX aO aP aH aL aW cI cJ vn ct nm tp bt an rw nx og no rc nc hgh lws dh dl fT fB wd) s.heap.size = A at hD ⊢
  have hA : ∀ q : Nat, s.heap.size ≤ q → A q := fun q h => by rw [← hAe]; exact Or.inr h
  have hl := lv_entry ([.ref m0, .int (nI pl), .long a, .long b, .long c9, .long d]) (n := 14) (Nat.le_of_ble_eq_true rfl)
  rw [lg_entry_eq]
  generalize (lg_sl ([.ref m0, .int (nI pl), .long a, .long b, .long c9, .long d]) ++ List.replicate (14 - (lg_sl ([.ref m0, .int (nI pl), .long a, .long b, .long c9, .long d])).length) Slot.unset).toArray = ls at hl ⊢
  have hl : lv_has ls 14 [(0, .ref m0), (1, .int (nI pl)), (2, .long a), (4, .long b), (6, .long c9), (8, .long d)] := hl
  have hP : va_P (dC, dI) vwCl (mdW m0 aN aR aX aO aP aH aL aW cI cJ vn ct nm tp bt an rw nx og no rc nc hgh lws dh dl fT fB wd) s.heap := hP
  obtain ⟨H, hH⟩ : ∃ H, H = s.heap := ⟨_, rfl⟩
  have hS : va_S A s.heap H [] := by rw [hH]; exact va_S.rf
  rw [← hH] at hP ⊢
  refine lv_lload_n hx hb dX2_make_0 rfl (lv_at hl 2 rfl) ?_
  refine lv_lload hx hb dX2_make_1 (lv_at hl 3 rfl) ?_
  refine lv_lmul hx hb dX2_make_3 ?_
  refine lv_lstore (lv' := [(10, .long (a * b)), (0, .ref m0), (1, .int (nI pl)), (2, .long a), (4, .long b), (6, .long c9), (8, .long d)]) hx hb dX2_make_4 hl (by decide) rfl (fun ls hl => ?_)
  refine lv_lload hx hb dX2_make_6 (lv_at hl 0 rfl) ?_
  refine lv_lload hx hb dX2_make_8 (lv_at hl 5 rfl) ?_
  refine lv_lload hx hb dX2_make_10 (lv_at hl 6 rfl) ?_
  refine lv_lmul hx hb dX2_make_12 ?_
  refine lv_ladd hx hb dX2_make_13 ?_
  refine lv_lstore (lv' := [(12, .long ((a * b) + (c9 * d))), (10, .long (a * b)), (0, .ref m0), (1, .int (nI pl)), (2, .long a), (4, .long b), (6, .long c9), (8, .long d)]) hx hb dX2_make_14 hl (by decide) rfl (fun ls hl => ?_)
  refine lv_aload_n hx hb dX2_make_16 rfl (lv_at hl 2 rfl) ?_
  refine va_get (D := (dC, dI)) (ci := 2) (v := .ref aH) (C := RX2) (T := TX2) (N := 19) hx hb hts (fun _ h => List.mem_cons_of_mem _ (List.mem_append_right _ h)) hown hK hP 0 rfl rfl 12 (by decide) (hts (.fieldLink RX2 30 "RankFinderModel" "highs" "[J") (List.mem_of_getElem? (i := 1) rfl)) (fun _ h9 => h9) rfl dX2_make_17 ?_
  refine lv_iload_n hx hb dX2_make_20 rfl (lv_at hl 3 rfl) ?_
  refine lv_lload_n hx hb dX2_make_21 rfl (lv_at hl 4 rfl) ?_
  refine lv_lload hx hb dX2_make_22 (lv_at hl 5 rfl) ?_
  have hFc : ∀ q, va_A ([] : va_W) H.size q → A q := fun q h => va_nilA hS hA q h
  refine va_calll (va_runS (As := [.long a, .long b]) (rest := [.int (nI pl), .ref aH]) ⟨hx, hb, hml, hown, hts⟩ (c_X2_high l dC dI H.size a b) (va_cwS 2 hts gX2_make_X2_high rfl rfl rfl (by decide +kernel) ⟨Nat.le_of_ble_eq_true rfl, Nat.le_of_ble_eq_true rfl⟩) ⟨fun a U g mk q => by obtain ⟨q0, q1, qP, qK, qD⟩ := q; exact ⟨q0, q1, qP, va_K.moved (u := U) (U := U.calling g mk a) (Vm.Alike.refl U.vm) qK, qD⟩, fun U hU hW => ⟨rfl, by rw [hU], va_nilP, va_K.moved hW.alike (hK.sub (tys' := []) [] rfl), va_nilD⟩⟩ rfl rfl hl.1 rfl (lv_room (Nat.le_of_ble_eq_true rfl)) dX2_make_24 ⟨(Nat.zero_le _), (Nat.zero_le _)⟩) hS (fun q _ h => hFc q h) hFc (fun r_24 v9 t H1 locs ht hvm hw hB hz1 hk1 hS => ?_)
  have hP := va_keep hP hk1
  clear hB hk1 hz1 ht hvm hFc
  generalize H1 = H at hP hS ⊢
  subst hw
  refine lv_lload hx hb dX2_make_27 (lv_at hl 6 rfl) ?_
  refine lv_lload hx hb dX2_make_29 (lv_at hl 7 rfl) ?_
  have hFc : ∀ q, va_A ([] : va_W) H.size q → A q := fun q h => va_nilA hS hA q h
  refine va_calll (va_runS (As := [.long c9, .long d]) (rest := [.long (hpF a b), .int (nI pl), .ref aH]) ⟨hx, hb, hml, hown, hts⟩ (c_X2_high l dC dI H.size c9 d) (va_cwS 2 hts gX2_make_X2_high rfl rfl rfl (by decide +kernel) ⟨Nat.le_of_ble_eq_true rfl, Nat.le_of_ble_eq_true rfl⟩) ⟨fun a U g mk q => by obtain ⟨q0, q1, qP, qK, qD⟩ := q; exact ⟨q0, q1, qP, va_K.moved (u := U) (U := U.calling g mk a) (Vm.Alike.refl U.vm) qK, qD⟩, fun U hU hW => ⟨rfl, by rw [hU], va_nilP, va_K.moved hW.alike (hK.sub (tys' := []) [] rfl), va_nilD⟩⟩ rfl rfl hl.1 rfl (lv_room (Nat.le_of_ble_eq_true rfl)) dX2_make_31 ⟨(Nat.zero_le _), (Nat.zero_le _)⟩) hS (fun q _ h => hFc q h) hFc (fun r_31 v9 t H1 locs ht hvm hw hB hz1 hk1 hS => ?_)
  have hP := va_keep hP hk1
  clear hB hk1 hz1 ht hvm hFc
  generalize H1 = H at hP hS ⊢
  subst hw
  refine lv_ladd hx hb dX2_make_34 ?_
  refine lv_lload hx hb dX2_make_35 (lv_at hl 0 rfl) ?_
  refine lv_lload hx hb dX2_make_37 (lv_at hl 1 rfl) ?_
  have hFc : ∀ q, va_A ([] : va_W) H.size q → A q := fun q h => va_nilA hS hA q h
  refine va_calli (va_runS (As := [.long ((a * b) + (c9 * d)), .long (a * b)]) (rest := [.long ((hpF a b) + (hpF c9 d)), .int (nI pl), .ref aH]) ⟨hx, hb, hml, hown, hts⟩ (c_X2_isBelow l dC dI H.size (a * b + c9 * d) (a * b)) (va_cwS 2 hts gX2_make_X2_isBelow rfl rfl rfl (by decide +kernel) ⟨Nat.le_of_ble_eq_true rfl, Nat.le_of_ble_eq_true rfl⟩) ⟨fun a U g mk q => by obtain ⟨q0, q1, qP, qK, qD⟩ := q; exact ⟨q0, q1, qP, va_K.moved (u := U) (U := U.calling g mk a) (Vm.Alike.refl U.vm) qK, qD⟩, fun U hU hW => ⟨rfl, by rw [hU], va_nilP, va_K.moved hW.alike (hK.sub (tys' := []) [] rfl), va_nilD⟩⟩ rfl rfl hl.1 rfl (lv_room (Nat.le_of_ble_eq_true rfl)) dX2_make_39 ⟨(Nat.zero_le _), (Nat.zero_le _)⟩) hS (fun q _ h => hFc q h) hFc (fun r_39 v9 t H1 locs ht hvm hw hB hz1 hk1 hS => ?_)
  have hP := va_keep hP hk1
  clear hB hk1 hz1 ht hvm hFc
  generalize H1 = H at hP hS ⊢
  rcases hw with ⟨rfl, hq⟩ | ⟨rfl, hq⟩
  · refine lv_if_eq (tgt := 49) hx hb dX2_make_42 (by decide) (fun c => absurd c (by decide)) (fun _ => ?_)
    refine lv_lconst (v := 1) hx hb dX2_make_45 (by decide) ?_
    refine lv_goto (tgt := 50) hx hb dX2_make_46 (by decide) ?_
    refine lv_ladd hx hb dX2_make_50 ?_
    have e9 : hpF a b + hpF c9 d + 1 = mkH a b c9 d := by unfold mkH; rw [if_pos hq]
    rw [e9]
    refine na_last hx hb hK hP hD hS 6 1 rfl rfl hpl (by decide) dX2_make_51 (fun H locs hP hD hS => ?_)
    have hP : va_P (dC, dI) vwCl (mdW m0 aN aR aX aO aP aH aL aW cI cJ vn ct nm tp bt an rw nx og no rc nc (vp_updL hgh pl (mkH a b c9 d)) lws dh dl fT fB wd) H := hP
    have hD : va_D A (mdW m0 aN aR aX aO aP aH aL aW cI cJ vn ct nm tp bt an rw nx og no rc nc (vp_updL hgh pl (mkH a b c9 d)) lws dh dl fT fB wd) := hD
    refine lv_aload_n hx hb dX2_make_52 rfl (lv_at hl 2 rfl) ?_
    refine va_get (D := (dC, dI)) (ci := 2) (v := .ref aL) (C := RX2) (T := TX2) (N := 19) hx hb hts (fun _ h => List.mem_cons_of_mem _ (List.mem_append_right _ h)) hown hK hP 0 rfl rfl 13 (by decide) (hts (.fieldLink RX2 33 "RankFinderModel" "lows" "[J") (List.mem_of_getElem? (i := 2) rfl)) (fun _ h9 => h9) rfl dX2_make_53 ?_
    refine lv_iload_n hx hb dX2_make_56 rfl (lv_at hl 3 rfl) ?_
    refine lv_lload hx hb dX2_make_57 (lv_at hl 0 rfl) ?_
    refine na_last hx hb hK hP hD hS 7 1 rfl rfl hpl (by decide) dX2_make_59 (fun H locs hP hD hS => ?_)
    have hP : va_P (dC, dI) vwCl (mdW m0 aN aR aX aO aP aH aL aW cI cJ vn ct nm tp bt an rw nx og no rc nc (vp_updL hgh pl (mkH a b c9 d)) (vp_updL lws pl ((a * b) + (c9 * d))) dh dl fT fB wd) H := hP
    have hD : va_D A (mdW m0 aN aR aX aO aP aH aL aW cI cJ vn ct nm tp bt an rw nx og no rc nc (vp_updL hgh pl (mkH a b c9 d)) (vp_updL lws pl ((a * b) + (c9 * d))) dh dl fT fB wd) := hD
    exact W.vret hx hb hr (fun t ht hW => ⟨⟨(), rfl, trivial, by rw [ht]; exact hP, va_K.moved hW.alike hK, hD⟩, hS.F ht⟩) hS.2.2 dX2_make_60
  · refine lv_if_eq (tgt := 49) hx hb dX2_make_42 (by decide) (fun _ => ?_) (fun c => absurd rfl c)
    refine lv_lconst (v := 0) hx hb dX2_make_49 (by decide) ?_
    refine lv_ladd hx hb dX2_make_50 ?_
    have e9 : hpF a b + hpF c9 d + 0 = mkH a b c9 d := by unfold mkH; rw [if_neg hq]
    rw [e9]
    refine na_last hx hb hK hP hD hS 6 1 rfl rfl hpl (by decide) dX2_make_51 (fun H locs hP hD hS => ?_)
    have hP : va_P (dC, dI) vwCl (mdW m0 aN aR aX aO aP aH aL aW cI cJ vn ct nm tp bt an rw nx og no rc nc (vp_updL hgh pl (mkH a b c9 d)) lws dh dl fT fB wd) H := hP
    have hD : va_D A (mdW m0 aN aR aX aO aP aH aL aW cI cJ vn ct nm tp bt an rw nx og no rc nc (vp_updL hgh pl (mkH a b c9 d)) lws dh dl fT fB wd) := hD
    refine lv_aload_n hx hb dX2_make_52 rfl (lv_at hl 2 rfl) ?_
    refine va_get (D := (dC, dI)) (ci := 2) (v := .ref aL) (C := RX2) (T := TX2) (N := 19) hx hb hts (fun _ h => List.mem_cons_of_mem _ (List.mem_append_right _ h)) hown hK hP 0 rfl rfl 13 (by decide) (hts (.fieldLink RX2 33 "RankFinderModel" "lows" "[J") (List.mem_of_getElem? (i := 2) rfl)) (fun _ h9 => h9) rfl dX2_make_53 ?_
    refine lv_iload_n hx hb dX2_make_56 rfl (lv_at hl 3 rfl) ?_
    refine lv_lload hx hb dX2_make_57 (lv_at hl 0 rfl) ?_
    refine na_last hx hb hK hP hD hS 7 1 rfl rfl hpl (by decide) dX2_make_59 (fun H locs hP hD hS => ?_)
    have hP : va_P (dC, dI) vwCl (mdW m0 aN aR aX aO aP aH aL aW cI cJ vn ct nm tp bt an rw nx og no rc nc (vp_updL hgh pl (mkH a b c9 d)) (vp_updL lws pl ((a * b) + (c9 * d))) dh dl fT fB wd) H := hP
    have hD : va_D A (mdW m0 aN aR aX aO aP aH aL aW cI cJ vn ct nm tp bt an rw nx og no rc nc (vp_updL hgh pl (mkH a b c9 d)) (vp_updL lws pl ((a * b) + (c9 * d))) dh dl fT fB wd) := hD
    exact W.vret hx hb hr (fun t ht hW => ⟨⟨(), rfl, trivial, by rw [ht]; exact hP, va_K.moved hW.alike hK, hD⟩, hS.F ht⟩) hS.2.2 dX2_make_60
set_option maxHeartbeats 1000000 in
set_option maxRecDepth 100000 in
/-- carry(k) -/
theorem c_X2_carry (l : Launch) (dC : Nat → ClassId) (dI : Nat → Nat → Nat) (sz : Nat) (m0 aN aR aX aO aP aH aL aW : Nat) (cI cJ : ClassId) (vn ct : Nat) (nm : Nat → Int32) (tp bt : Int64) (an : Int32) (rw nx : Nat → Int64) (og no : Nat → Int32) (rc nc : Nat) (hgh lws : Nat → Int64) (dh dl fT fB : Int64) (wd : Nat → Int32) (k : Nat) (hk9 : k < 1200) (hnc : nc < 1200) : Met l yX2_carry wsX2_carry ({ frames := 0, cells := 0, slots := 0, locals := 0 }) (va_Pc [.ref m0, .int (nI k)] (fun U => U.heap.size = sz ∧ va_P (dC, dI) vwCl (mdW m0 aN aR aX aO aP aH aL aW cI cJ vn ct nm tp bt an rw nx og no rc nc hgh lws dh dl fT fB wd) U.heap ∧ va_K (dC, dI) vwCl [(cI, .int), (cJ, .long)] U ∧ va_D (fun _ => True) (mdW m0 aN aR aX aO aP aH aL aW cI cJ vn ct nm tp bt an rw nx og no rc nc hgh lws dh dl fT fB wd))) (va_Qv (fun v : Unit => True) (fun v t => va_P (dC, dI) vwCl (mdW m0 aN aR aX aO aP aH aL aW cI cJ vn ct nm tp bt an rw (caF rw nx k nc 11) og (upd no nc (og k)) rc (nc + 1) hgh lws dh dl fT fB wd) t.heap ∧ va_K (dC, dI) vwCl [(cI, .int), (cJ, .long)] t ∧ va_D (va_A (mdW m0 aN aR aX aO aP aH aL aW cI cJ vn ct nm tp bt an rw nx og no rc nc hgh lws dh dl fT fB wd) sz) (mdW m0 aN aR aX aO aP aH aL aW cI cJ vn ct nm tp bt an rw (caF rw nx k nc 11) og (upd no nc (og k)) rc (nc + 1) hgh lws dh dl fT fB wd)) (va_A (mdW m0 aN aR aX aO aP aH aL aW cI cJ vn ct nm tp bt an rw nx og no rc nc hgh lws dh dl fT fB wd) sz)) 0 0 (va_A (mdW m0 aN aR aX aO aP aH aL aW cI cJ vn ct nm tp bt an rw nx og no rc nc hgh lws dh dl fT fB wd) sz) := by
  refine Met.ofW (cc := cX2_carry) (maxL := 3) (ret := none) (by decide) rfl ?_
  intro p e s m args below meth c s₁ B hml hv
  obtain ⟨rfl, hsz, hP, hK, hD0⟩ := hv
  have hx := B.exec
  have hb := B.bytes
  have hr := B.returns
  have hts := atoms_spec (ws := wsX2_carry) B.pre
  have hown : s.vm.findClass RX2 = some m.cls := findClass_of_methodNamed B.named
  subst hsz
  have hD := hD0.self (sz := s.heap.size)
  clear hD0
  generalize hAe : va_A (mdW m0 aN aR aX aO aP aH aL aW cI cJ vn ct nm tp bt an rw nx og no rc nc hgh lws dh dl fT fB wd) s.heap.size = A at hD ⊢
  have hA : ∀ q : Nat, s.heap.size ≤ q → A q := fun q h => by rw [← hAe]; exact Or.inr h
  have hl := lv_entry ([.ref m0, .int (nI k)]) (n := 3) (Nat.le_of_ble_eq_true rfl)
  rw [lg_entry_eq]
  generalize (lg_sl ([.ref m0, .int (nI k)]) ++ List.replicate (3 - (lg_sl ([.ref m0, .int (nI k)])).length) Slot.unset).toArray = ls at hl ⊢
  have hl : lv_has ls 3 [(0, .ref m0), (1, .int (nI k))] := hl
  have hP : va_P (dC, dI) vwCl (mdW m0 aN aR aX aO aP aH aL aW cI cJ vn ct nm tp bt an rw nx og no rc nc hgh lws dh dl fT fB wd) s.heap := hP
  obtain ⟨H, hH⟩ : ∃ H, H = s.heap := ⟨_, rfl⟩
  have hS : va_S A s.heap H [] := by rw [hH]; exact va_S.rf
  rw [← hH] at hP ⊢
  refine lv_iconst (v := nI 0) hx hb dX2_carry_0 (by decide) ?_
  refine lv_istore_n (lv' := [(2, .int (nI 0)), (0, .ref m0), (1, .int (nI k))]) hx hb dX2_carry_1 rfl hl (by decide) rfl (fun ls hl => ?_)
  have loop : ∀ (d j : Nat) (H : Heap) (locs : List Loc) (ls : Array Slot), j + d = 11 → va_P (dC, dI) vwCl (mdW m0 aN aR aX aO aP aH aL aW cI cJ vn ct nm tp bt an rw (caF rw nx k nc j) og no rc nc hgh lws dh dl fT fB wd) H → va_K (dC, dI) vwCl [(cI, .int), (cJ, .long)] s → va_D A (mdW m0 aN aR aX aO aP aH aL aW cI cJ vn ct nm tp bt an rw (caF rw nx k nc j) og no rc nc hgh lws dh dl fT fB wd) → va_S A s.heap H locs → lv_has ls 3 [(2, .int (nI j)), (0, .ref m0), (1, .int (nI k))] → W p l e (headSpec wsX2_carry ({ frames := 0, cells := 0, slots := 0, locals := 0 })).room s m #[.ref m0, .int (nI k)] below meth c H locs 0 0 (MQ below (va_Qv (fun v : Unit => True) (fun v t => va_P (dC, dI) vwCl (mdW m0 aN aR aX aO aP aH aL aW cI cJ vn ct nm tp bt an rw (caF rw nx k nc 11) og (upd no nc (og k)) rc (nc + 1) hgh lws dh dl fT fB wd) t.heap ∧ va_K (dC, dI) vwCl [(cI, .int), (cJ, .long)] t ∧ va_D A (mdW m0 aN aR aX aO aP aH aL aW cI cJ vn ct nm tp bt an rw (caF rw nx k nc 11) og (upd no nc (og k)) rc (nc + 1) hgh lws dh dl fT fB wd)) A) #[.ref m0, .int (nI k)] s 0 0 A) (F0 m 2 ls []) := by
    clear hP hK hD hS hl
    intro d
    induction d with
    | zero =>
      intro j H locs ls hj hP hK hD hS hl
      refine lv_iload_n hx hb dX2_carry_2 rfl (lv_at hl 0 rfl) ?_
      refine lv_bipush (v := nI 11) hx hb dX2_carry_3 (by decide) ?_
      refine lv_icmp_ge (tgt := 39) hx hb dX2_carry_5 (by decide) (fun c1 => ?_) (fun c1 => ?_)
      · obtain rfl : j = 11 := by omega
        refine lv_aload_n hx hb dX2_carry_39 rfl (lv_at hl 1 rfl) ?_
        refine va_get (D := (dC, dI)) (ci := 2) (v := .ref aP) (C := RX2) (T := TX2) (N := 19) hx hb hts (fun _ h => List.mem_cons_of_mem _ (List.mem_append_right _ h)) hown hK hP 0 rfl rfl 9 (by decide) (hts (.fieldLink RX2 27 "RankFinderModel" "nextOrigins" "[I") (List.mem_of_getElem? (i := 4) rfl)) (fun _ h9 => h9) rfl dX2_carry_40 ?_
        refine lv_aload_n hx hb dX2_carry_43 rfl (lv_at hl 1 rfl) ?_
        refine va_get (D := (dC, dI)) (ci := 2) (v := .int (nI nc)) (C := RX2) (T := TX2) (N := 19) hx hb hts (fun _ h => List.mem_cons_of_mem _ (List.mem_append_right _ h)) hown hK hP 0 rfl rfl 11 (by decide) (hts (.fieldLink RX2 83 "RankFinderModel" "nextCount" "I") (List.mem_of_getElem? (i := 2) rfl)) (fun _ h9 => h9) rfl dX2_carry_44 ?_
        refine lv_aload_n hx hb dX2_carry_47 rfl (lv_at hl 1 rfl) ?_
        refine va_get (D := (dC, dI)) (ci := 2) (v := .ref aO) (C := RX2) (T := TX2) (N := 19) hx hb hts (fun _ h => List.mem_cons_of_mem _ (List.mem_append_right _ h)) hown hK hP 0 rfl rfl 8 (by decide) (hts (.fieldLink RX2 24 "RankFinderModel" "origins" "[I") (List.mem_of_getElem? (i := 5) rfl)) (fun _ h9 => h9) rfl dX2_carry_48 ?_
        refine lv_iload_n hx hb dX2_carry_51 rfl (lv_at hl 2 rfl) ?_
        refine na_iald hx hb hK hP 4 0 rfl rfl hk9 (by decide) dX2_carry_52 ?_
        refine na_iast hx hb hK hP hD hS 5 0 rfl rfl hnc (by decide) dX2_carry_53 (fun H locs hP hD hS => ?_)
        have hP : va_P (dC, dI) vwCl (mdW m0 aN aR aX aO aP aH aL aW cI cJ vn ct nm tp bt an rw (caF rw nx k nc 11) og (upd no nc (og k)) rc nc hgh lws dh dl fT fB wd) H := hP
        have hD : va_D A (mdW m0 aN aR aX aO aP aH aL aW cI cJ vn ct nm tp bt an rw (caF rw nx k nc 11) og (upd no nc (og k)) rc nc hgh lws dh dl fT fB wd) := hD
        refine lv_aload_n hx hb dX2_carry_54 rfl (lv_at hl 1 rfl) ?_
        refine lv_dup hx hb dX2_carry_55 rfl ?_
        refine va_get (D := (dC, dI)) (ci := 2) (v := .int (nI nc)) (C := RX2) (T := TX2) (N := 19) hx hb hts (fun _ h => List.mem_cons_of_mem _ (List.mem_append_right _ h)) hown hK hP 0 rfl rfl 11 (by decide) (hts (.fieldLink RX2 83 "RankFinderModel" "nextCount" "I") (List.mem_of_getElem? (i := 2) rfl)) (fun _ h9 => h9) rfl dX2_carry_56 ?_
        refine lv_iconst (v := nI 1) hx hb dX2_carry_59 (by decide) ?_
        refine lv_iadd hx hb dX2_carry_60 ?_
        refine lv_topi (fun z_1 ez_1 => ?_)
        obtain rfl : z_1 = nI (nc + 1) := ez_1.trans (nI_add nc 1)
        refine va_put (D := (dC, dI)) (ci := 2) (v := .int (nI (nc + 1))) (ty := .int) (C := RX2) (T := TX2) (N := 19) hx hb hts (fun _ h => List.mem_cons_of_mem _ (List.mem_append_right _ h)) tyX2 tyX2_ok nmX2 hown hK hP hD hS 0 rfl rfl 11 (by decide) (hts (.fieldLink RX2 83 "RankFinderModel" "nextCount" "I") (List.mem_of_getElem? (i := 2) rfl)) (fun _ h9 => h9) rfl (by decide +kernel) rfl rfl (Nat.le_of_ble_eq_true rfl) dX2_carry_61 (fun H locs hP hD hS => ?_)
        have hP : va_P (dC, dI) vwCl (mdW m0 aN aR aX aO aP aH aL aW cI cJ vn ct nm tp bt an rw (caF rw nx k nc 11) og (upd no nc (og k)) rc (nc + 1) hgh lws dh dl fT fB wd) H := hP
        have hD : va_D A (mdW m0 aN aR aX aO aP aH aL aW cI cJ vn ct nm tp bt an rw (caF rw nx k nc 11) og (upd no nc (og k)) rc (nc + 1) hgh lws dh dl fT fB wd) := hD
        exact W.vret hx hb hr (fun t ht hW => ⟨⟨(), rfl, trivial, by rw [ht]; exact hP, va_K.moved hW.alike hK, hD⟩, hS.F ht⟩) hS.2.2 dX2_carry_64
      · exact absurd (nI_le (by omega) (by omega)) c1
    | succ d ih =>
      intro j H locs ls hj hP hK hD hS hl
      refine lv_iload_n hx hb dX2_carry_2 rfl (lv_at hl 0 rfl) ?_
      refine lv_bipush (v := nI 11) hx hb dX2_carry_3 (by decide) ?_
      refine lv_icmp_ge (tgt := 39) hx hb dX2_carry_5 (by decide) (fun c1 => ?_) (fun c1 => ?_)
      · exact absurd c1 (nI_ge (by omega) (by omega))
      · refine lv_aload_n hx hb dX2_carry_8 rfl (lv_at hl 1 rfl) ?_
        refine va_get (D := (dC, dI)) (ci := 2) (v := .ref aX) (C := RX2) (T := TX2) (N := 19) hx hb hts (fun _ h => List.mem_cons_of_mem _ (List.mem_append_right _ h)) hown hK hP 0 rfl rfl 7 (by decide) (hts (.fieldLink RX2 21 "RankFinderModel" "next" "[J") (List.mem_of_getElem? (i := 1) rfl)) (fun _ h9 => h9) rfl dX2_carry_9 ?_
        refine lv_bipush (v := nI 11) hx hb dX2_carry_12 (by decide) ?_
        refine lv_aload_n hx hb dX2_carry_14 rfl (lv_at hl 1 rfl) ?_
        refine va_get (D := (dC, dI)) (ci := 2) (v := .int (nI nc)) (C := RX2) (T := TX2) (N := 19) hx hb hts (fun _ h => List.mem_cons_of_mem _ (List.mem_append_right _ h)) hown hK hP 0 rfl rfl 11 (by decide) (hts (.fieldLink RX2 83 "RankFinderModel" "nextCount" "I") (List.mem_of_getElem? (i := 2) rfl)) (fun _ h9 => h9) rfl dX2_carry_15 ?_
        refine lv_imul hx hb dX2_carry_18 ?_
        refine lv_topi (fun z_1 ez_1 => ?_)
        obtain rfl : z_1 = nI (11 * nc) := ez_1.trans (pk_mul 11 nc)
        refine lv_iload_n hx hb dX2_carry_19 rfl (lv_at hl 0 rfl) ?_
        refine lv_iadd hx hb dX2_carry_20 ?_
        refine lv_topi (fun z_2 ez_2 => ?_)
        obtain rfl : z_2 = nI ((11 * nc) + j) := ez_2.trans (nI_add (11 * nc) j)
        refine lv_aload_n hx hb dX2_carry_21 rfl (lv_at hl 1 rfl) ?_
        refine va_get (D := (dC, dI)) (ci := 2) (v := .ref aR) (C := RX2) (T := TX2) (N := 19) hx hb hts (fun _ h => List.mem_cons_of_mem _ (List.mem_append_right _ h)) hown hK hP 0 rfl rfl 6 (by decide) (hts (.fieldLink RX2 17 "RankFinderModel" "rows" "[J") (List.mem_of_getElem? (i := 3) rfl)) (fun _ h9 => h9) rfl dX2_carry_22 ?_
        refine lv_bipush (v := nI 11) hx hb dX2_carry_25 (by decide) ?_
        refine lv_iload_n hx hb dX2_carry_27 rfl (lv_at hl 2 rfl) ?_
        refine lv_imul hx hb dX2_carry_28 ?_
        refine lv_topi (fun z_3 ez_3 => ?_)
        obtain rfl : z_3 = nI (11 * k) := ez_3.trans (pk_mul 11 k)
        refine lv_iload_n hx hb dX2_carry_29 rfl (lv_at hl 0 rfl) ?_
        refine lv_iadd hx hb dX2_carry_30 ?_
        refine lv_topi (fun z_4 ez_4 => ?_)
        obtain rfl : z_4 = nI ((11 * k) + j) := ez_4.trans (nI_add (11 * k) j)
        refine na_lald hx hb hK hP 2 1 rfl rfl (show 11 * k + j < 13200 by omega) (by decide) dX2_carry_31 ?_
        refine na_last hx hb hK hP hD hS 3 1 rfl rfl (show 11 * nc + j < 13200 by omega) (by decide) dX2_carry_32 (fun H locs hP hD hS => ?_)
        have hP : va_P (dC, dI) vwCl (mdW m0 aN aR aX aO aP aH aL aW cI cJ vn ct nm tp bt an rw (vp_updL (caF rw nx k nc j) ((11 * nc) + j) (rw ((11 * k) + j))) og no rc nc hgh lws dh dl fT fB wd) H := hP
        have hD : va_D A (mdW m0 aN aR aX aO aP aH aL aW cI cJ vn ct nm tp bt an rw (vp_updL (caF rw nx k nc j) ((11 * nc) + j) (rw ((11 * k) + j))) og no rc nc hgh lws dh dl fT fB wd) := hD
        rw [caF_s] at hP hD
        have hP : va_P (dC, dI) vwCl (mdW m0 aN aR aX aO aP aH aL aW cI cJ vn ct nm tp bt an rw (caF rw nx k nc (j + 1)) og no rc nc hgh lws dh dl fT fB wd) H := hP
        have hD : va_D A (mdW m0 aN aR aX aO aP aH aL aW cI cJ vn ct nm tp bt an rw (caF rw nx k nc (j + 1)) og no rc nc hgh lws dh dl fT fB wd) := hD
        refine lv_iinc (v := nI (j + 1)) (lv' := [(2, .int (nI (j + 1))), (0, .ref m0), (1, .int (nI k))]) hx hb dX2_carry_33 hl (k := 0) rfl (nI_1 _) (by decide) rfl (fun ls hl => ?_)
        refine lv_goto (tgt := 2) hx hb dX2_carry_36 (by decide) ?_
        exact ih (j + 1) H _ ls (by omega) hP hK hD hS (lv_sub hl [0, 1, 2] rfl)
  exact loop 11 0 H _ ls (by omega) (by rw [caF_0]; exact hP) hK (by rw [caF_0]; exact hD) hS (lv_sub hl [0, 1, 2] rfl)
set_option maxHeartbeats 1000000 in
set_option maxRecDepth 100000 in
/-- empty() -/
theorem c_X2_empty (l : Launch) (dC : Nat → ClassId) (dI : Nat → Nat → Nat) (sz : Nat) (m0 aN aR aX aO aP aH aL aW : Nat) (cI cJ : ClassId) (vn ct : Nat) (nm : Nat → Int32) (tp bt : Int64) (an : Int32) (rw nx : Nat → Int64) (og no : Nat → Int32) (rc nc : Nat) (hgh lws : Nat → Int64) (dh dl fT fB : Int64) (wd : Nat → Int32) (hrc : rc < 1200) : Met l yX2_empty wsX2_empty ({ frames := 0, cells := 0, slots := 0, locals := 0 }) (va_Pc [.ref m0] (fun U => U.heap.size = sz ∧ va_P (dC, dI) vwCl (mdW m0 aN aR aX aO aP aH aL aW cI cJ vn ct nm tp bt an rw nx og no rc nc hgh lws dh dl fT fB wd) U.heap ∧ va_K (dC, dI) vwCl [(cI, .int), (cJ, .long)] U ∧ va_D (fun _ => True) (mdW m0 aN aR aX aO aP aH aL aW cI cJ vn ct nm tp bt an rw nx og no rc nc hgh lws dh dl fT fB wd))) (va_Qi (fun (x : Int32) (v : Unit) => x = nI (11 * rc)) (fun v t => va_P (dC, dI) vwCl (mdW m0 aN aR aX aO aP aH aL aW cI cJ vn ct nm tp bt an (zeF rw rc 11) nx (upd og rc (bitI rc)) no (rc + 1) nc hgh lws dh dl fT fB wd) t.heap ∧ va_K (dC, dI) vwCl [(cI, .int), (cJ, .long)] t ∧ va_D (va_A (mdW m0 aN aR aX aO aP aH aL aW cI cJ vn ct nm tp bt an rw nx og no rc nc hgh lws dh dl fT fB wd) sz) (mdW m0 aN aR aX aO aP aH aL aW cI cJ vn ct nm tp bt an (zeF rw rc 11) nx (upd og rc (bitI rc)) no (rc + 1) nc hgh lws dh dl fT fB wd)) (va_A (mdW m0 aN aR aX aO aP aH aL aW cI cJ vn ct nm tp bt an rw nx og no rc nc hgh lws dh dl fT fB wd) sz)) 0 0 (va_A (mdW m0 aN aR aX aO aP aH aL aW cI cJ vn ct nm tp bt an rw nx og no rc nc hgh lws dh dl fT fB wd) sz) := by
  refine Met.ofW (cc := cX2_empty) (maxL := 2) (ret := (some .int)) (by decide) rfl ?_
  intro p e s m args below meth c s₁ B hml hv
  obtain ⟨rfl, hsz, hP, hK, hD0⟩ := hv
  have hx := B.exec
  have hb := B.bytes
  have hr := B.returns
  have hts := atoms_spec (ws := wsX2_empty) B.pre
  have hown : s.vm.findClass RX2 = some m.cls := findClass_of_methodNamed B.named
  subst hsz
  have hD := hD0.self (sz := s.heap.size)
  clear hD0
  generalize hAe : va_A (mdW m0 aN aR aX aO aP aH aL aW cI cJ vn ct nm tp bt an rw nx og no rc nc hgh lws dh dl fT fB wd) s.heap.size = A at hD ⊢
  have hA : ∀ q : Nat, s.heap.size ≤ q → A q := fun q h => by rw [← hAe]; exact Or.inr h
  have hl := lv_entry ([.ref m0]) (n := 2) (Nat.le_of_ble_eq_true rfl)
  rw [lg_entry_eq]
  generalize (lg_sl ([.ref m0]) ++ List.replicate (2 - (lg_sl ([.ref m0])).length) Slot.unset).toArray = ls at hl ⊢
  have hl : lv_has ls 2 [(0, .ref m0)] := hl
  have hP : va_P (dC, dI) vwCl (mdW m0 aN aR aX aO aP aH aL aW cI cJ vn ct nm tp bt an rw nx og no rc nc hgh lws dh dl fT fB wd) s.heap := hP
  obtain ⟨H, hH⟩ : ∃ H, H = s.heap := ⟨_, rfl⟩
  have hS : va_S A s.heap H [] := by rw [hH]; exact va_S.rf
  rw [← hH] at hP ⊢
  refine lv_iconst (v := nI 0) hx hb dX2_empty_0 (by decide) ?_
  refine lv_istore_n (lv' := [(1, .int (nI 0)), (0, .ref m0)]) hx hb dX2_empty_1 rfl hl (by decide) rfl (fun ls hl => ?_)
  have loop : ∀ (d j : Nat) (H : Heap) (locs : List Loc) (ls : Array Slot), j + d = 11 → va_P (dC, dI) vwCl (mdW m0 aN aR aX aO aP aH aL aW cI cJ vn ct nm tp bt an (zeF rw rc j) nx og no rc nc hgh lws dh dl fT fB wd) H → va_K (dC, dI) vwCl [(cI, .int), (cJ, .long)] s → va_D A (mdW m0 aN aR aX aO aP aH aL aW cI cJ vn ct nm tp bt an (zeF rw rc j) nx og no rc nc hgh lws dh dl fT fB wd) → va_S A s.heap H locs → lv_has ls 2 [(1, .int (nI j)), (0, .ref m0)] → W p l e (headSpec wsX2_empty ({ frames := 0, cells := 0, slots := 0, locals := 0 })).room s m #[.ref m0] below meth c H locs 0 0 (MQ below (va_Qi (fun (x : Int32) (v : Unit) => x = nI (11 * rc)) (fun v t => va_P (dC, dI) vwCl (mdW m0 aN aR aX aO aP aH aL aW cI cJ vn ct nm tp bt an (zeF rw rc 11) nx (upd og rc (bitI rc)) no (rc + 1) nc hgh lws dh dl fT fB wd) t.heap ∧ va_K (dC, dI) vwCl [(cI, .int), (cJ, .long)] t ∧ va_D A (mdW m0 aN aR aX aO aP aH aL aW cI cJ vn ct nm tp bt an (zeF rw rc 11) nx (upd og rc (bitI rc)) no (rc + 1) nc hgh lws dh dl fT fB wd)) A) #[.ref m0] s 0 0 A) (F0 m 2 ls []) := by
    clear hP hK hD hS hl
    intro d
    induction d with
    | zero =>
      intro j H locs ls hj hP hK hD hS hl
      refine lv_iload_n hx hb dX2_empty_2 rfl (lv_at hl 0 rfl) ?_
      refine lv_bipush (v := nI 11) hx hb dX2_empty_3 (by decide) ?_
      refine lv_icmp_ge (tgt := 29) hx hb dX2_empty_5 (by decide) (fun c1 => ?_) (fun c1 => ?_)
      · obtain rfl : j = 11 := by omega
        refine lv_aload_n hx hb dX2_empty_29 rfl (lv_at hl 1 rfl) ?_
        refine va_get (D := (dC, dI)) (ci := 2) (v := .ref aO) (C := RX2) (T := TX2) (N := 19) hx hb hts (fun _ h => List.mem_cons_of_mem _ (List.mem_append_right _ h)) hown hK hP 0 rfl rfl 8 (by decide) (hts (.fieldLink RX2 24 "RankFinderModel" "origins" "[I") (List.mem_of_getElem? (i := 3) rfl)) (fun _ h9 => h9) rfl dX2_empty_30 ?_
        refine lv_aload_n hx hb dX2_empty_33 rfl (lv_at hl 1 rfl) ?_
        refine va_get (D := (dC, dI)) (ci := 2) (v := .int (nI rc)) (C := RX2) (T := TX2) (N := 19) hx hb hts (fun _ h => List.mem_cons_of_mem _ (List.mem_append_right _ h)) hown hK hP 0 rfl rfl 10 (by decide) (hts (.fieldLink RX2 46 "RankFinderModel" "rowCount" "I") (List.mem_of_getElem? (i := 2) rfl)) (fun _ h9 => h9) rfl dX2_empty_34 ?_
        refine lv_iconst (v := nI 1) hx hb dX2_empty_37 (by decide) ?_
        refine lv_aload_n hx hb dX2_empty_38 rfl (lv_at hl 1 rfl) ?_
        refine va_get (D := (dC, dI)) (ci := 2) (v := .int (nI rc)) (C := RX2) (T := TX2) (N := 19) hx hb hts (fun _ h => List.mem_cons_of_mem _ (List.mem_append_right _ h)) hown hK hP 0 rfl rfl 10 (by decide) (hts (.fieldLink RX2 46 "RankFinderModel" "rowCount" "I") (List.mem_of_getElem? (i := 2) rfl)) (fun _ h9 => h9) rfl dX2_empty_39 ?_
        refine lv_ishl hx hb dX2_empty_42 ?_
        refine na_iast hx hb hK hP hD hS 4 0 rfl rfl hrc (by decide) dX2_empty_43 (fun H locs hP hD hS => ?_)
        have hP : va_P (dC, dI) vwCl (mdW m0 aN aR aX aO aP aH aL aW cI cJ vn ct nm tp bt an (zeF rw rc 11) nx (upd og rc ((nI 1) <<< ((nI rc) &&& 31))) no rc nc hgh lws dh dl fT fB wd) H := hP
        have hD : va_D A (mdW m0 aN aR aX aO aP aH aL aW cI cJ vn ct nm tp bt an (zeF rw rc 11) nx (upd og rc ((nI 1) <<< ((nI rc) &&& 31))) no rc nc hgh lws dh dl fT fB wd) := hD
        have hP : va_P (dC, dI) vwCl (mdW m0 aN aR aX aO aP aH aL aW cI cJ vn ct nm tp bt an (zeF rw rc 11) nx (upd og rc (bitI rc)) no rc nc hgh lws dh dl fT fB wd) H := hP
        have hD : va_D A (mdW m0 aN aR aX aO aP aH aL aW cI cJ vn ct nm tp bt an (zeF rw rc 11) nx (upd og rc (bitI rc)) no rc nc hgh lws dh dl fT fB wd) := hD
        refine lv_aload_n hx hb dX2_empty_44 rfl (lv_at hl 1 rfl) ?_
        refine lv_dup hx hb dX2_empty_45 rfl ?_
        refine va_get (D := (dC, dI)) (ci := 2) (v := .int (nI rc)) (C := RX2) (T := TX2) (N := 19) hx hb hts (fun _ h => List.mem_cons_of_mem _ (List.mem_append_right _ h)) hown hK hP 0 rfl rfl 10 (by decide) (hts (.fieldLink RX2 46 "RankFinderModel" "rowCount" "I") (List.mem_of_getElem? (i := 2) rfl)) (fun _ h9 => h9) rfl dX2_empty_46 ?_
        refine lv_iconst (v := nI 1) hx hb dX2_empty_49 (by decide) ?_
        refine lv_iadd hx hb dX2_empty_50 ?_
        refine lv_topi (fun z_1 ez_1 => ?_)
        obtain rfl : z_1 = nI (rc + 1) := ez_1.trans (nI_add rc 1)
        refine va_put (D := (dC, dI)) (ci := 2) (v := .int (nI (rc + 1))) (ty := .int) (C := RX2) (T := TX2) (N := 19) hx hb hts (fun _ h => List.mem_cons_of_mem _ (List.mem_append_right _ h)) tyX2 tyX2_ok nmX2 hown hK hP hD hS 0 rfl rfl 10 (by decide) (hts (.fieldLink RX2 46 "RankFinderModel" "rowCount" "I") (List.mem_of_getElem? (i := 2) rfl)) (fun _ h9 => h9) rfl (by decide +kernel) rfl rfl (Nat.le_of_ble_eq_true rfl) dX2_empty_51 (fun H locs hP hD hS => ?_)
        have hP : va_P (dC, dI) vwCl (mdW m0 aN aR aX aO aP aH aL aW cI cJ vn ct nm tp bt an (zeF rw rc 11) nx (upd og rc (bitI rc)) no (rc + 1) nc hgh lws dh dl fT fB wd) H := hP
        have hD : va_D A (mdW m0 aN aR aX aO aP aH aL aW cI cJ vn ct nm tp bt an (zeF rw rc 11) nx (upd og rc (bitI rc)) no (rc + 1) nc hgh lws dh dl fT fB wd) := hD
        refine lv_bipush (v := nI 11) hx hb dX2_empty_54 (by decide) ?_
        refine lv_aload_n hx hb dX2_empty_56 rfl (lv_at hl 1 rfl) ?_
        refine va_get (D := (dC, dI)) (ci := 2) (v := .int (nI (rc + 1))) (C := RX2) (T := TX2) (N := 19) hx hb hts (fun _ h => List.mem_cons_of_mem _ (List.mem_append_right _ h)) hown hK hP 0 rfl rfl 10 (by decide) (hts (.fieldLink RX2 46 "RankFinderModel" "rowCount" "I") (List.mem_of_getElem? (i := 2) rfl)) (fun _ h9 => h9) rfl dX2_empty_57 ?_
        refine lv_iconst (v := nI 1) hx hb dX2_empty_60 (by decide) ?_
        refine lv_isub hx hb dX2_empty_61 ?_
        refine lv_topi (fun z_2 ez_2 => ?_)
        obtain rfl : z_2 = nI rc := ez_2.trans (pk_sub (a := rc + 1) (b := 1) (by omega))
        refine lv_imul hx hb dX2_empty_62 ?_
        refine lv_topi (fun z_3 ez_3 => ?_)
        obtain rfl : z_3 = nI (11 * rc) := ez_3.trans (pk_mul 11 rc)
        exact W.iret (v := (nI (11 * rc))) hx hb hr (fun t ht hW => ⟨⟨(nI (11 * rc)), (), rfl, rfl, by rw [ht]; exact hP, va_K.moved hW.alike hK, hD⟩, hS.F ht⟩) hS.2.2 dX2_empty_63
      · exact absurd (nI_le (by omega) (by omega)) c1
    | succ d ih =>
      intro j H locs ls hj hP hK hD hS hl
      refine lv_iload_n hx hb dX2_empty_2 rfl (lv_at hl 0 rfl) ?_
      refine lv_bipush (v := nI 11) hx hb dX2_empty_3 (by decide) ?_
      refine lv_icmp_ge (tgt := 29) hx hb dX2_empty_5 (by decide) (fun c1 => ?_) (fun c1 => ?_)
      · exact absurd c1 (nI_ge (by omega) (by omega))
      · refine lv_aload_n hx hb dX2_empty_8 rfl (lv_at hl 1 rfl) ?_
        refine va_get (D := (dC, dI)) (ci := 2) (v := .ref aR) (C := RX2) (T := TX2) (N := 19) hx hb hts (fun _ h => List.mem_cons_of_mem _ (List.mem_append_right _ h)) hown hK hP 0 rfl rfl 6 (by decide) (hts (.fieldLink RX2 17 "RankFinderModel" "rows" "[J") (List.mem_of_getElem? (i := 1) rfl)) (fun _ h9 => h9) rfl dX2_empty_9 ?_
        refine lv_bipush (v := nI 11) hx hb dX2_empty_12 (by decide) ?_
        refine lv_aload_n hx hb dX2_empty_14 rfl (lv_at hl 1 rfl) ?_
        refine va_get (D := (dC, dI)) (ci := 2) (v := .int (nI rc)) (C := RX2) (T := TX2) (N := 19) hx hb hts (fun _ h => List.mem_cons_of_mem _ (List.mem_append_right _ h)) hown hK hP 0 rfl rfl 10 (by decide) (hts (.fieldLink RX2 46 "RankFinderModel" "rowCount" "I") (List.mem_of_getElem? (i := 2) rfl)) (fun _ h9 => h9) rfl dX2_empty_15 ?_
        refine lv_imul hx hb dX2_empty_18 ?_
        refine lv_topi (fun z_1 ez_1 => ?_)
        obtain rfl : z_1 = nI (11 * rc) := ez_1.trans (pk_mul 11 rc)
        refine lv_iload_n hx hb dX2_empty_19 rfl (lv_at hl 0 rfl) ?_
        refine lv_iadd hx hb dX2_empty_20 ?_
        refine lv_topi (fun z_2 ez_2 => ?_)
        obtain rfl : z_2 = nI ((11 * rc) + j) := ez_2.trans (nI_add (11 * rc) j)
        refine lv_lconst (v := 0) hx hb dX2_empty_21 (by decide) ?_
        refine na_last hx hb hK hP hD hS 2 1 rfl rfl (show 11 * rc + j < 13200 by omega) (by decide) dX2_empty_22 (fun H locs hP hD hS => ?_)
        have hP : va_P (dC, dI) vwCl (mdW m0 aN aR aX aO aP aH aL aW cI cJ vn ct nm tp bt an (vp_updL (zeF rw rc j) ((11 * rc) + j) 0) nx og no rc nc hgh lws dh dl fT fB wd) H := hP
        have hD : va_D A (mdW m0 aN aR aX aO aP aH aL aW cI cJ vn ct nm tp bt an (vp_updL (zeF rw rc j) ((11 * rc) + j) 0) nx og no rc nc hgh lws dh dl fT fB wd) := hD
        rw [zeF_s] at hP hD
        have hP : va_P (dC, dI) vwCl (mdW m0 aN aR aX aO aP aH aL aW cI cJ vn ct nm tp bt an (zeF rw rc (j + 1)) nx og no rc nc hgh lws dh dl fT fB wd) H := hP
        have hD : va_D A (mdW m0 aN aR aX aO aP aH aL aW cI cJ vn ct nm tp bt an (zeF rw rc (j + 1)) nx og no rc nc hgh lws dh dl fT fB wd) := hD
        refine lv_iinc (v := nI (j + 1)) (lv' := [(1, .int (nI (j + 1))), (0, .ref m0)]) hx hb dX2_empty_23 hl (k := 0) rfl (nI_1 _) (by decide) rfl (fun ls hl => ?_)
        refine lv_goto (tgt := 2) hx hb dX2_empty_26 (by decide) ?_
        exact ih (j + 1) H _ ls (by omega) hP hK hD hS (lv_sub hl [0, 1] rfl)
  exact loop 11 0 H _ ls (by omega) (by rw [zeF_0]; exact hP) hK (by rw [zeF_0]; exact hD) hS (lv_sub hl [0, 1] rfl)
