/-! ===== the reference: least, ranks ===== -/
def wdF (wd : Nat → Int32) (a0 a1 a2 b0 b1 b2 : Int32) : Nat → Int32 := upd (upd (upd (upd (upd (upd wd 0 a0) 1 a1) 2 a2) 3 b0) 4 b1) 5 b2
def wrF (wd : Nat → Int32) (a0 a1 a2 b0 b1 b2 : Int32) : Nat → Int32 := upd (upd (upd (upd (upd (upd wd 0 a0) (3 + 0) b0) (0 + 1) a1) (3 + (0 + 1)) b1) (0 + 1 + 1) a2) (3 + (0 + 1 + 1)) b2
theorem wdF_at (wd : Nat → Int32) (a0 a1 a2 b0 b1 b2 : Int32) (i : Nat) : wdF wd a0 a1 a2 b0 b1 b2 i = if i = 5 then b2 else if i = 4 then b1 else if i = 3 then b0 else if i = 2 then a2 else if i = 1 then a1 else if i = 0 then a0 else wd i := rfl
theorem wrF_wd (wd : Nat → Int32) (a0 a1 a2 b0 b1 b2 : Int32) : wrF wd a0 a1 a2 b0 b1 b2 = wdF wd a0 a1 a2 b0 b1 b2 := by
  funext i
  rw [wdF_at]
  unfold wrF upd
  by_cases e5 : i = 5
  · subst e5; rfl
  by_cases e4 : i = 4
  · subst e4; rfl
  by_cases e3 : i = 3
  · subst e3; rfl
  by_cases e2 : i = 2
  · subst e2; rfl
  by_cases e1 : i = 1
  · subst e1; rfl
  by_cases e0 : i = 0
  · subst e0; rfl
  rw [if_neg (by omega), if_neg (by omega), if_neg (by omega), if_neg (by omega), if_neg (by omega), if_neg (by omega), if_neg e5, if_neg e4, if_neg e3, if_neg e2, if_neg e1]
theorem okG_wd {wd : Nat → Int32} {a0 a1 a2 b0 b1 b2 : Int32} (h : ∀ x, x = a0 ∨ x = a1 ∨ x = a2 ∨ x = b0 ∨ x = b1 ∨ x = b2 → -999 ≤ x.toInt ∧ x.toInt ≤ 999) : okG (wdF wd a0 a1 a2 b0 b1 b2) := fun i hi => by
  rcases (by omega : i = 0 ∨ i = 1 ∨ i = 2 ∨ i = 3 ∨ i = 4 ∨ i = 5) with e | e | e | e | e | e <;> subst e <;> exact h _ (by simp [wdF_at])
theorem inR9 {a : Int32} (h : inR a (nI 99)) : -999 ≤ a.toInt ∧ a.toInt ≤ 999 := by
  have := (inR_int (n := 99) (by omega)).mp h
  omega
theorem inR99 {a : Int32} (h : inR a (nI 999)) : -999 ≤ a.toInt ∧ a.toInt ≤ 999 := by
  have := (inR_int (n := 999) (by omega)).mp h
  omega
theorem due_lt {a b d : Int64} {val : Rat} (hv : ((a.toInt : Int) : Rat) = val * ((b.toInt : Int) : Rat)) (hb : 0 < b.toInt) (hb2 : b.toInt < 2251799813685248) (hd : -999 ≤ d.toInt ∧ d.toInt ≤ 999) : a < d * b ↔ val < ((d.toInt : Int) : Rat) := by
  have hm := mulB hd.1 hd.2 (Int.le_of_lt hb) (show b.toInt ≤ 2251799813685248 by omega) (by omega)
  have e : (d * b).toInt = d.toInt * b.toInt := lx_mulE (by omega) (by omega)
  rw [Int64.lt_iff_toInt_lt, e]
  have hbp : (0 : Rat) < ((b.toInt : Int) : Rat) := rz_p.mpr hb
  constructor
  · intro q
    have q2 : ((a.toInt : Int) : Rat) < ((d.toInt * b.toInt : Int) : Rat) := Rat.intCast_lt_intCast.mpr q
    rw [hv, Rat.intCast_mul] at q2
    apply Classical.byContradiction
    intro q3
    have := Rat.mul_le_mul_of_nonneg_right (show ((d.toInt : Int) : Rat) ≤ val by grind) (Rat.le_of_lt hbp)
    grind
  · intro q
    have := Rat.mul_lt_mul_of_pos_right q hbp
    rw [← hv, ← Rat.intCast_mul] at this
    exact Rat.intCast_lt_intCast.mp this
set_option maxHeartbeats 1000000 in
set_option maxRecDepth 100000 in
/-- least(..) -/
theorem c_X2_least (l : Launch) (dC : Nat → ClassId) (dI : Nat → Nat → Nat) (sz : Nat) (m0 aN aR aX aO aP aH aL aW : Nat) (cI cJ : ClassId) (vn ct : Nat) (nm : Nat → Int32) (tp bt : Int64) (an : Int32) (rw nx : Nat → Int64) (og no : Nat → Int32) (rc nc : Nat) (hgh lws : Nat → Int64) (dh dl fT fB : Int64) (wd : Nat → Int32) (x1 x2 x3 x4 x5 x6 : Int32) (hv1 : 1 ≤ vn) (hv : vn ≤ 3) (hc : ct ≤ 8) (hN : okN nm ct) : Met l yX2_least wsX2_least ({ frames := 6, cells := 0, slots := 0, locals := 180 }) (va_Pc [.ref m0, .int x1, .int x2, .int x3, .int x4, .int x5, .int x6] (fun U => U.heap.size = sz ∧ va_P (dC, dI) vwCl (mdW m0 aN aR aX aO aP aH aL aW cI cJ vn ct nm tp bt an rw nx og no rc nc hgh lws dh dl fT fB wd) U.heap ∧ va_K (dC, dI) vwCl [(cI, .int), (cJ, .long)] U ∧ va_D (fun _ => True) (mdW m0 aN aR aX aO aP aH aL aW cI cJ vn ct nm tp bt an rw nx og no rc nc hgh lws dh dl fT fB wd))) (va_Qi (fun (x : Int32) (v : Nat × (Nat → Int64) × (Nat → Int32) × (Nat → Int64) × (Nat → Int32) × (Nat → Int64) × (Nat → Int64) × Int64 × Int64 × Nat × Int64 × Int64 × Int64 × Int64 × Int32 × (Nat → Int32)) => (x = -1 ∧ ¬ ((inR x1 (nI 99) ∧ inR x2 (nI 99) ∧ inR x3 (nI 99)) ∧ inR x4 (nI 99) ∧ inR x5 (nI 99) ∧ inR x6 (nI 99)) ∧ v.2.2.2.2.2.2.2.2.2.2.2.2.1 = tp ∧ v.2.2.2.2.2.2.2.2.2.2.2.2.2.1 = bt) ∨ (((inR x1 (nI 99) ∧ inR x2 (nI 99) ∧ inR x3 (nI 99)) ∧ inR x4 (nI 99) ∧ inR x5 (nI 99) ∧ inR x6 (nI 99)) ∧ ((x = 0 ∧ CerQ ct 9 (SM nm (wdF wd x1 x2 x3 x4 x5 x6) vn ct) ∧ v.2.2.2.2.2.2.2.2.2.2.2.2.1 = 0 ∧ v.2.2.2.2.2.2.2.2.2.2.2.2.2.1 = 0) ∨ (x = 1 ∧ ¬ CerQ ct 9 (SM nm (wdF wd x1 x2 x3 x4 x5 x6) vn ct) ∧ (¬ ∃ w, DuF ct (SM nm (wdF wd x1 x2 x3 x4 x5 x6) vn ct) w) ∧ v.2.2.2.2.2.2.2.2.2.2.2.2.1 = 0 ∧ v.2.2.2.2.2.2.2.2.2.2.2.2.2.1 = 0) ∨ (x = 2 ∧ ¬ CerQ ct 9 (SM nm (wdF wd x1 x2 x3 x4 x5 x6) vn ct) ∧ ∃ val, Opt ct (SM nm (wdF wd x1 x2 x3 x4 x5 x6) vn ct) val ∧ (v.2.2.2.2.2.2.2.2.2.2.2.2.1.toInt : Rat) = val * (v.2.2.2.2.2.2.2.2.2.2.2.2.2.1.toInt : Rat) ∧ 0 < v.2.2.2.2.2.2.2.2.2.2.2.2.2.1.toInt ∧ Nat.gcd v.2.2.2.2.2.2.2.2.2.2.2.2.1.toInt.natAbs v.2.2.2.2.2.2.2.2.2.2.2.2.2.1.toInt.natAbs = 1)))) (fun v t => va_P (dC, dI) vwCl (mdW m0 aN aR aX aO aP aH aL aW cI cJ vn ct nm v.2.2.2.2.2.2.2.2.2.2.2.2.1 v.2.2.2.2.2.2.2.2.2.2.2.2.2.1 v.2.2.2.2.2.2.2.2.2.2.2.2.2.2.1 v.2.1 v.2.2.2.1 v.2.2.1 v.2.2.2.2.1 v.1 v.2.2.2.2.2.2.2.2.2.1 v.2.2.2.2.2.1 v.2.2.2.2.2.2.1 v.2.2.2.2.2.2.2.1 v.2.2.2.2.2.2.2.2.1 v.2.2.2.2.2.2.2.2.2.2.1 v.2.2.2.2.2.2.2.2.2.2.2.1 v.2.2.2.2.2.2.2.2.2.2.2.2.2.2.2) t.heap ∧ va_K (dC, dI) vwCl [(cI, .int), (cJ, .long)] t ∧ va_D (va_A (mdW m0 aN aR aX aO aP aH aL aW cI cJ vn ct nm tp bt an rw nx og no rc nc hgh lws dh dl fT fB wd) sz) (mdW m0 aN aR aX aO aP aH aL aW cI cJ vn ct nm v.2.2.2.2.2.2.2.2.2.2.2.2.1 v.2.2.2.2.2.2.2.2.2.2.2.2.2.1 v.2.2.2.2.2.2.2.2.2.2.2.2.2.2.1 v.2.1 v.2.2.2.1 v.2.2.1 v.2.2.2.2.1 v.1 v.2.2.2.2.2.2.2.2.2.1 v.2.2.2.2.2.1 v.2.2.2.2.2.2.1 v.2.2.2.2.2.2.2.1 v.2.2.2.2.2.2.2.2.1 v.2.2.2.2.2.2.2.2.2.2.1 v.2.2.2.2.2.2.2.2.2.2.2.1 v.2.2.2.2.2.2.2.2.2.2.2.2.2.2.2)) (va_A (mdW m0 aN aR aX aO aP aH aL aW cI cJ vn ct nm tp bt an rw nx og no rc nc hgh lws dh dl fT fB wd) sz)) 0 0 (va_A (mdW m0 aN aR aX aO aP aH aL aW cI cJ vn ct nm tp bt an rw nx og no rc nc hgh lws dh dl fT fB wd) sz) := by
  refine Met.ofW (cc := cX2_least) (maxL := 8) (ret := (some .int)) (by decide) rfl ?_
  intro p e s m args below meth c s₁ B hml hv
  obtain ⟨rfl, hsz, hP, hK, hD0⟩ := hv
  have hx := B.exec
  have hb := B.bytes
  have hr := B.returns
  have hts := atoms_spec (ws := wsX2_least) B.pre
  have hown : s.vm.findClass RX2 = some m.cls := findClass_of_methodNamed B.named
  subst hsz
  have hD := hD0.self (sz := s.heap.size)
  clear hD0
  generalize hAe : va_A (mdW m0 aN aR aX aO aP aH aL aW cI cJ vn ct nm tp bt an rw nx og no rc nc hgh lws dh dl fT fB wd) s.heap.size = A at hD ⊢
  have hA : ∀ q : Nat, s.heap.size ≤ q → A q := fun q h => by rw [← hAe]; exact Or.inr h
  have hl := lv_entry ([.ref m0, .int x1, .int x2, .int x3, .int x4, .int x5, .int x6]) (n := 8) (Nat.le_of_ble_eq_true rfl)
  rw [lg_entry_eq]
  generalize (lg_sl ([.ref m0, .int x1, .int x2, .int x3, .int x4, .int x5, .int x6]) ++ List.replicate (8 - (lg_sl ([.ref m0, .int x1, .int x2, .int x3, .int x4, .int x5, .int x6])).length) Slot.unset).toArray = ls at hl ⊢
  have hl : lv_has ls 8 [(0, .ref m0), (1, .int x1), (2, .int x2), (3, .int x3), (4, .int x4), (5, .int x5), (6, .int x6)] := hl
  have hP : va_P (dC, dI) vwCl (mdW m0 aN aR aX aO aP aH aL aW cI cJ vn ct nm tp bt an rw nx og no rc nc hgh lws dh dl fT fB wd) s.heap := hP
  obtain ⟨H, hH⟩ : ∃ H, H = s.heap := ⟨_, rfl⟩
  have hS : va_S A s.heap H [] := by rw [hH]; exact va_S.rf
  rw [← hH] at hP ⊢
  have behind : ∀ (f9 : Int32) (H : Heap) (locs : List Loc) (ls : Array Slot), ((f9 = 1 ∧ ((inR x1 (nI 99) ∧ inR x2 (nI 99) ∧ inR x3 (nI 99)) ∧ inR x4 (nI 99) ∧ inR x5 (nI 99) ∧ inR x6 (nI 99))) ∨ (f9 = 0 ∧ ¬ ((inR x1 (nI 99) ∧ inR x2 (nI 99) ∧ inR x3 (nI 99)) ∧ inR x4 (nI 99) ∧ inR x5 (nI 99) ∧ inR x6 (nI 99)))) → va_P (dC, dI) vwCl (mdW m0 aN aR aX aO aP aH aL aW cI cJ vn ct nm tp bt an rw nx og no rc nc hgh lws dh dl fT fB wd) H → va_K (dC, dI) vwCl [(cI, .int), (cJ, .long)] s → va_D A (mdW m0 aN aR aX aO aP aH aL aW cI cJ vn ct nm tp bt an rw nx og no rc nc hgh lws dh dl fT fB wd) → va_S A s.heap H locs → lv_has ls 8 [(7, .int f9), (0, .ref m0), (1, .int x1), (2, .int x2), (3, .int x3), (4, .int x4), (5, .int x5), (6, .int x6)] → W p l e (headSpec wsX2_least ({ frames := 6, cells := 0, slots := 0, locals := 180 })).room s m #[.ref m0, .int x1, .int x2, .int x3, .int x4, .int x5, .int x6] below meth c H locs 0 0 (MQ below (va_Qi (fun (x : Int32) (v : Nat × (Nat → Int64) × (Nat → Int32) × (Nat → Int64) × (Nat → Int32) × (Nat → Int64) × (Nat → Int64) × Int64 × Int64 × Nat × Int64 × Int64 × Int64 × Int64 × Int32 × (Nat → Int32)) => (x = -1 ∧ ¬ ((inR x1 (nI 99) ∧ inR x2 (nI 99) ∧ inR x3 (nI 99)) ∧ inR x4 (nI 99) ∧ inR x5 (nI 99) ∧ inR x6 (nI 99)) ∧ v.2.2.2.2.2.2.2.2.2.2.2.2.1 = tp ∧ v.2.2.2.2.2.2.2.2.2.2.2.2.2.1 = bt) ∨ (((inR x1 (nI 99) ∧ inR x2 (nI 99) ∧ inR x3 (nI 99)) ∧ inR x4 (nI 99) ∧ inR x5 (nI 99) ∧ inR x6 (nI 99)) ∧ ((x = 0 ∧ CerQ ct 9 (SM nm (wdF wd x1 x2 x3 x4 x5 x6) vn ct) ∧ v.2.2.2.2.2.2.2.2.2.2.2.2.1 = 0 ∧ v.2.2.2.2.2.2.2.2.2.2.2.2.2.1 = 0) ∨ (x = 1 ∧ ¬ CerQ ct 9 (SM nm (wdF wd x1 x2 x3 x4 x5 x6) vn ct) ∧ (¬ ∃ w, DuF ct (SM nm (wdF wd x1 x2 x3 x4 x5 x6) vn ct) w) ∧ v.2.2.2.2.2.2.2.2.2.2.2.2.1 = 0 ∧ v.2.2.2.2.2.2.2.2.2.2.2.2.2.1 = 0) ∨ (x = 2 ∧ ¬ CerQ ct 9 (SM nm (wdF wd x1 x2 x3 x4 x5 x6) vn ct) ∧ ∃ val, Opt ct (SM nm (wdF wd x1 x2 x3 x4 x5 x6) vn ct) val ∧ (v.2.2.2.2.2.2.2.2.2.2.2.2.1.toInt : Rat) = val * (v.2.2.2.2.2.2.2.2.2.2.2.2.2.1.toInt : Rat) ∧ 0 < v.2.2.2.2.2.2.2.2.2.2.2.2.2.1.toInt ∧ Nat.gcd v.2.2.2.2.2.2.2.2.2.2.2.2.1.toInt.natAbs v.2.2.2.2.2.2.2.2.2.2.2.2.2.1.toInt.natAbs = 1)))) (fun v t => va_P (dC, dI) vwCl (mdW m0 aN aR aX aO aP aH aL aW cI cJ vn ct nm v.2.2.2.2.2.2.2.2.2.2.2.2.1 v.2.2.2.2.2.2.2.2.2.2.2.2.2.1 v.2.2.2.2.2.2.2.2.2.2.2.2.2.2.1 v.2.1 v.2.2.2.1 v.2.2.1 v.2.2.2.2.1 v.1 v.2.2.2.2.2.2.2.2.2.1 v.2.2.2.2.2.1 v.2.2.2.2.2.2.1 v.2.2.2.2.2.2.2.1 v.2.2.2.2.2.2.2.2.1 v.2.2.2.2.2.2.2.2.2.2.1 v.2.2.2.2.2.2.2.2.2.2.2.1 v.2.2.2.2.2.2.2.2.2.2.2.2.2.2.2) t.heap ∧ va_K (dC, dI) vwCl [(cI, .int), (cJ, .long)] t ∧ va_D A (mdW m0 aN aR aX aO aP aH aL aW cI cJ vn ct nm v.2.2.2.2.2.2.2.2.2.2.2.2.1 v.2.2.2.2.2.2.2.2.2.2.2.2.2.1 v.2.2.2.2.2.2.2.2.2.2.2.2.2.2.1 v.2.1 v.2.2.2.1 v.2.2.1 v.2.2.2.2.1 v.1 v.2.2.2.2.2.2.2.2.2.1 v.2.2.2.2.2.1 v.2.2.2.2.2.2.1 v.2.2.2.2.2.2.2.1 v.2.2.2.2.2.2.2.2.1 v.2.2.2.2.2.2.2.2.2.2.1 v.2.2.2.2.2.2.2.2.2.2.2.1 v.2.2.2.2.2.2.2.2.2.2.2.2.2.2.2)) A) #[.ref m0, .int x1, .int x2, .int x3, .int x4, .int x5, .int x6] s 0 0 A) (F0 m 64 ls []) := by
    clear hP hK hD hS hl
    intro f9 H locs ls hf hP hK hD hS hl
    rcases hf with ⟨rfl, hok⟩ | ⟨rfl, hok⟩
    · refine lv_iload hx hb dX2_least_64 (lv_at hl 0 rfl) ?_
      refine lv_if_ne (tgt := 71) hx hb dX2_least_66 (by decide) (fun _ => ?_) (fun c => absurd c (by decide))
      refine lv_aload_n hx hb dX2_least_71 rfl (lv_at hl 1 rfl) ?_
      refine va_get (D := (dC, dI)) (ci := 2) (v := .ref aW) (C := RX2) (T := TX2) (N := 19) hx hb hts (fun _ h => List.mem_cons_of_mem _ (List.mem_append_right _ h)) hown hK hP 0 rfl rfl 18 (by decide) (hts (.fieldLink RX2 36 "RankFinderModel" "wanted" "[I") (List.mem_of_getElem? (i := 1) rfl)) (fun _ h9 => h9) rfl dX2_least_72 ?_
      refine lv_iconst (v := nI 0) hx hb dX2_least_75 (by decide) ?_
      refine lv_iload_n hx hb dX2_least_76 rfl (lv_at hl 2 rfl) ?_
      refine na_iast hx hb hK hP hD hS 8 0 rfl rfl (show 0 < 6 by omega) (by decide) dX2_least_77 (fun H locs hP hD hS => ?_)
      have hP : va_P (dC, dI) vwCl (mdW m0 aN aR aX aO aP aH aL aW cI cJ vn ct nm tp bt an rw nx og no rc nc hgh lws dh dl fT fB (upd wd 0 x1)) H := hP
      have hD : va_D A (mdW m0 aN aR aX aO aP aH aL aW cI cJ vn ct nm tp bt an rw nx og no rc nc hgh lws dh dl fT fB (upd wd 0 x1)) := hD
      refine lv_aload_n hx hb dX2_least_78 rfl (lv_at hl 1 rfl) ?_
      refine va_get (D := (dC, dI)) (ci := 2) (v := .ref aW) (C := RX2) (T := TX2) (N := 19) hx hb hts (fun _ h => List.mem_cons_of_mem _ (List.mem_append_right _ h)) hown hK hP 0 rfl rfl 18 (by decide) (hts (.fieldLink RX2 36 "RankFinderModel" "wanted" "[I") (List.mem_of_getElem? (i := 1) rfl)) (fun _ h9 => h9) rfl dX2_least_79 ?_
      refine lv_iconst (v := nI 1) hx hb dX2_least_82 (by decide) ?_
      refine lv_iload_n hx hb dX2_least_83 rfl (lv_at hl 3 rfl) ?_
      refine na_iast hx hb hK hP hD hS 8 0 rfl rfl (show 1 < 6 by omega) (by decide) dX2_least_84 (fun H locs hP hD hS => ?_)
      have hP : va_P (dC, dI) vwCl (mdW m0 aN aR aX aO aP aH aL aW cI cJ vn ct nm tp bt an rw nx og no rc nc hgh lws dh dl fT fB (upd (upd wd 0 x1) 1 x2)) H := hP
      have hD : va_D A (mdW m0 aN aR aX aO aP aH aL aW cI cJ vn ct nm tp bt an rw nx og no rc nc hgh lws dh dl fT fB (upd (upd wd 0 x1) 1 x2)) := hD
      refine lv_aload_n hx hb dX2_least_85 rfl (lv_at hl 1 rfl) ?_
      refine va_get (D := (dC, dI)) (ci := 2) (v := .ref aW) (C := RX2) (T := TX2) (N := 19) hx hb hts (fun _ h => List.mem_cons_of_mem _ (List.mem_append_right _ h)) hown hK hP 0 rfl rfl 18 (by decide) (hts (.fieldLink RX2 36 "RankFinderModel" "wanted" "[I") (List.mem_of_getElem? (i := 1) rfl)) (fun _ h9 => h9) rfl dX2_least_86 ?_
      refine lv_iconst (v := nI 2) hx hb dX2_least_89 (by decide) ?_
      refine lv_iload_n hx hb dX2_least_90 rfl (lv_at hl 4 rfl) ?_
      refine na_iast hx hb hK hP hD hS 8 0 rfl rfl (show 2 < 6 by omega) (by decide) dX2_least_91 (fun H locs hP hD hS => ?_)
      have hP : va_P (dC, dI) vwCl (mdW m0 aN aR aX aO aP aH aL aW cI cJ vn ct nm tp bt an rw nx og no rc nc hgh lws dh dl fT fB (upd (upd (upd wd 0 x1) 1 x2) 2 x3)) H := hP
      have hD : va_D A (mdW m0 aN aR aX aO aP aH aL aW cI cJ vn ct nm tp bt an rw nx og no rc nc hgh lws dh dl fT fB (upd (upd (upd wd 0 x1) 1 x2) 2 x3)) := hD
      refine lv_aload_n hx hb dX2_least_92 rfl (lv_at hl 1 rfl) ?_
      refine va_get (D := (dC, dI)) (ci := 2) (v := .ref aW) (C := RX2) (T := TX2) (N := 19) hx hb hts (fun _ h => List.mem_cons_of_mem _ (List.mem_append_right _ h)) hown hK hP 0 rfl rfl 18 (by decide) (hts (.fieldLink RX2 36 "RankFinderModel" "wanted" "[I") (List.mem_of_getElem? (i := 1) rfl)) (fun _ h9 => h9) rfl dX2_least_93 ?_
      refine lv_iconst (v := nI 3) hx hb dX2_least_96 (by decide) ?_
      refine lv_iload hx hb dX2_least_97 (lv_at hl 5 rfl) ?_
      refine na_iast hx hb hK hP hD hS 8 0 rfl rfl (show 3 < 6 by omega) (by decide) dX2_least_99 (fun H locs hP hD hS => ?_)
      have hP : va_P (dC, dI) vwCl (mdW m0 aN aR aX aO aP aH aL aW cI cJ vn ct nm tp bt an rw nx og no rc nc hgh lws dh dl fT fB (upd (upd (upd (upd wd 0 x1) 1 x2) 2 x3) 3 x4)) H := hP
      have hD : va_D A (mdW m0 aN aR aX aO aP aH aL aW cI cJ vn ct nm tp bt an rw nx og no rc nc hgh lws dh dl fT fB (upd (upd (upd (upd wd 0 x1) 1 x2) 2 x3) 3 x4)) := hD
      refine lv_aload_n hx hb dX2_least_100 rfl (lv_at hl 1 rfl) ?_
      refine va_get (D := (dC, dI)) (ci := 2) (v := .ref aW) (C := RX2) (T := TX2) (N := 19) hx hb hts (fun _ h => List.mem_cons_of_mem _ (List.mem_append_right _ h)) hown hK hP 0 rfl rfl 18 (by decide) (hts (.fieldLink RX2 36 "RankFinderModel" "wanted" "[I") (List.mem_of_getElem? (i := 1) rfl)) (fun _ h9 => h9) rfl dX2_least_101 ?_
      refine lv_iconst (v := nI 4) hx hb dX2_least_104 (by decide) ?_
      refine lv_iload hx hb dX2_least_105 (lv_at hl 6 rfl) ?_
      refine na_iast hx hb hK hP hD hS 8 0 rfl rfl (show 4 < 6 by omega) (by decide) dX2_least_107 (fun H locs hP hD hS => ?_)
      have hP : va_P (dC, dI) vwCl (mdW m0 aN aR aX aO aP aH aL aW cI cJ vn ct nm tp bt an rw nx og no rc nc hgh lws dh dl fT fB (upd (upd (upd (upd (upd wd 0 x1) 1 x2) 2 x3) 3 x4) 4 x5)) H := hP
      have hD : va_D A (mdW m0 aN aR aX aO aP aH aL aW cI cJ vn ct nm tp bt an rw nx og no rc nc hgh lws dh dl fT fB (upd (upd (upd (upd (upd wd 0 x1) 1 x2) 2 x3) 3 x4) 4 x5)) := hD
      refine lv_aload_n hx hb dX2_least_108 rfl (lv_at hl 1 rfl) ?_
      refine va_get (D := (dC, dI)) (ci := 2) (v := .ref aW) (C := RX2) (T := TX2) (N := 19) hx hb hts (fun _ h => List.mem_cons_of_mem _ (List.mem_append_right _ h)) hown hK hP 0 rfl rfl 18 (by decide) (hts (.fieldLink RX2 36 "RankFinderModel" "wanted" "[I") (List.mem_of_getElem? (i := 1) rfl)) (fun _ h9 => h9) rfl dX2_least_109 ?_
      refine lv_iconst (v := nI 5) hx hb dX2_least_112 (by decide) ?_
      refine lv_iload hx hb dX2_least_113 (lv_at hl 7 rfl) ?_
      refine na_iast hx hb hK hP hD hS 8 0 rfl rfl (show 5 < 6 by omega) (by decide) dX2_least_115 (fun H locs hP hD hS => ?_)
      have hP : va_P (dC, dI) vwCl (mdW m0 aN aR aX aO aP aH aL aW cI cJ vn ct nm tp bt an rw nx og no rc nc hgh lws dh dl fT fB (upd (upd (upd (upd (upd (upd wd 0 x1) 1 x2) 2 x3) 3 x4) 4 x5) 5 x6)) H := hP
      have hD : va_D A (mdW m0 aN aR aX aO aP aH aL aW cI cJ vn ct nm tp bt an rw nx og no rc nc hgh lws dh dl fT fB (upd (upd (upd (upd (upd (upd wd 0 x1) 1 x2) 2 x3) 3 x4) 4 x5) 5 x6)) := hD
      have hP : va_P (dC, dI) vwCl (mdW m0 aN aR aX aO aP aH aL aW cI cJ vn ct nm tp bt an rw nx og no rc nc hgh lws dh dl fT fB (wdF wd x1 x2 x3 x4 x5 x6)) H := hP
      have hD : va_D A (mdW m0 aN aR aX aO aP aH aL aW cI cJ vn ct nm tp bt an rw nx og no rc nc hgh lws dh dl fT fB (wdF wd x1 x2 x3 x4 x5 x6)) := hD
      have hG : okG (wdF wd x1 x2 x3 x4 x5 x6) := okG_wd (fun y hy => by
        obtain ⟨⟨q1, q2, q3⟩, q4, q5, q6⟩ := hok
        rcases hy with rfl | rfl | rfl | rfl | rfl | rfl
        · exact inR9 q1
        · exact inR9 q2
        · exact inR9 q3
        · exact inR9 q4
        · exact inR9 q5
        · exact inR9 q6)
      refine lv_aload_n hx hb dX2_least_116 rfl (lv_at hl 1 rfl) ?_
      refine lv_aload_n hx hb dX2_least_117 rfl (lv_at hl 1 rfl) ?_
      have hFc : ∀ q, va_A (mdW m0 aN aR aX aO aP aH aL aW cI cJ vn ct nm tp bt an rw nx og no rc nc hgh lws dh dl fT fB (wdF wd x1 x2 x3 x4 x5 x6)) H.size q → A q := va_fall hD hS hA
      refine va_calli (va_runV (As := []) (rest := [.ref m0]) ⟨hx, hb, hml, hown, hts⟩ (c_X2_search l dC dI H.size m0 aN aR aX aO aP aH aL aW cI cJ vn ct nm tp bt an rw nx og no rc nc hgh lws dh dl fT fB (wdF wd x1 x2 x3 x4 x5 x6) hv1 hv hc hN hG) (cwV 0 hts gX2_least_X2_search rfl rfl rfl (by decide +kernel) ⟨Nat.le_of_ble_eq_true rfl, Nat.le_of_ble_eq_true rfl⟩) ⟨fun a U g mk q => by obtain ⟨q0, q1, qP, qK, qD⟩ := q; exact ⟨q0, q1, qP, va_K.moved (u := U) (U := U.calling g mk a) (Vm.Alike.refl U.vm) qK, qD⟩, va_recv hK hP (ci := 2) (q0 := 0) rfl rfl, fun U hU hW => ⟨rfl, by rw [hU], by rw [hU]; exact hP, va_K.moved hW.alike hK, hD.weaken (fun _ _ _ _ => trivial)⟩⟩ rfl rfl hl.1 rfl (lv_room (Nat.le_of_ble_eq_true rfl)) dX2_least_118 ⟨(Nat.zero_le _), (Nat.zero_le _)⟩) hS (fun q _ h => hFc q h) hFc (fun r_118 v9 t H1 locs ht hvm hw hB hz1 hk1 hS => ?_)
      obtain ⟨hP1, hK1, hD1⟩ := hB
      rw [ht] at hP1
      clear hP hD hK
      have hK := va_K.moved hvm.symm hK1
      have hP := hP1
      have hD := hD1.weaken (B := A) (fun _ q _ h => hFc q.1 h)
      clear hP1 hD1 hK1 hFc hk1 hz1 ht hvm
      generalize H1 = H at hP hS ⊢
      obtain ⟨r3, f3, o3, y3, p3, h3, l3, a3, b3, c3, t1, t2⟩ := v9
      have hP : va_P (dC, dI) vwCl (mdW m0 aN aR aX aO aP aH aL aW cI cJ vn ct nm tp bt an f3 y3 o3 p3 r3 c3 h3 l3 a3 b3 t1 t2 (wdF wd x1 x2 x3 x4 x5 x6)) H := hP
      have hD : va_D A (mdW m0 aN aR aX aO aP aH aL aW cI cJ vn ct nm tp bt an f3 y3 o3 p3 r3 c3 h3 l3 a3 b3 t1 t2 (wdF wd x1 x2 x3 x4 x5 x6)) := hD
      rcases hw with ⟨hr9, hw⟩ | ⟨hr9, hw⟩ | ⟨hr9, hw⟩
      · obtain rfl : r_118 = nI 0 := hr9
        refine va_put (D := (dC, dI)) (ci := 2) (v := .int (nI 0)) (ty := .int) (C := RX2) (T := TX2) (N := 19) hx hb hts (fun _ h => List.mem_cons_of_mem _ (List.mem_append_right _ h)) tyX2 tyX2_ok nmX2 hown hK hP hD hS 0 rfl rfl 5 (by decide) (hts (.fieldLink RX2 132 "RankFinderModel" "answered" "I") (List.mem_of_getElem? (i := 2) rfl)) (fun _ h9 => h9) rfl (by decide +kernel) rfl rfl (Nat.le_of_ble_eq_true rfl) dX2_least_121 (fun H locs hP hD hS => ?_)
        have hP : va_P (dC, dI) vwCl (mdW m0 aN aR aX aO aP aH aL aW cI cJ vn ct nm tp bt (nI 0) f3 y3 o3 p3 r3 c3 h3 l3 a3 b3 t1 t2 (wdF wd x1 x2 x3 x4 x5 x6)) H := hP
        have hD : va_D A (mdW m0 aN aR aX aO aP aH aL aW cI cJ vn ct nm tp bt (nI 0) f3 y3 o3 p3 r3 c3 h3 l3 a3 b3 t1 t2 (wdF wd x1 x2 x3 x4 x5 x6)) := hD
        refine lv_aload_n hx hb dX2_least_124 rfl (lv_at hl 1 rfl) ?_
        refine lv_aload_n hx hb dX2_least_125 rfl (lv_at hl 1 rfl) ?_
        refine va_get (D := (dC, dI)) (ci := 2) (v := .int (nI 0)) (C := RX2) (T := TX2) (N := 19) hx hb hts (fun _ h => List.mem_cons_of_mem _ (List.mem_append_right _ h)) hown hK hP 0 rfl rfl 5 (by decide) (hts (.fieldLink RX2 132 "RankFinderModel" "answered" "I") (List.mem_of_getElem? (i := 2) rfl)) (fun _ h9 => h9) rfl dX2_least_126 ?_
        refine lv_iconst (v := nI 2) hx hb dX2_least_129 (by decide) ?_
        refine lv_icmp_ne (tgt := 140) hx hb dX2_least_130 (by decide) (fun _ => ?_) (fun c => absurd c (by decide))
        refine lv_lconst (v := 0) hx hb dX2_least_140 (by decide) ?_
        refine va_put (D := (dC, dI)) (ci := 2) (v := .long 0) (ty := .long) (C := RX2) (T := TX2) (N := 19) hx hb hts (fun _ h => List.mem_cons_of_mem _ (List.mem_append_right _ h)) tyX2 tyX2_ok nmX2 hown hK hP hD hS 0 rfl rfl 3 (by decide) (hts (.fieldLink RX2 135 "RankFinderModel" "top" "J") (List.mem_of_getElem? (i := 4) rfl)) (fun _ h9 => h9) rfl (by decide +kernel) rfl rfl (Nat.le_of_ble_eq_true rfl) dX2_least_141 (fun H locs hP hD hS => ?_)
        have hP : va_P (dC, dI) vwCl (mdW m0 aN aR aX aO aP aH aL aW cI cJ vn ct nm 0 bt (nI 0) f3 y3 o3 p3 r3 c3 h3 l3 a3 b3 t1 t2 (wdF wd x1 x2 x3 x4 x5 x6)) H := hP
        have hD : va_D A (mdW m0 aN aR aX aO aP aH aL aW cI cJ vn ct nm 0 bt (nI 0) f3 y3 o3 p3 r3 c3 h3 l3 a3 b3 t1 t2 (wdF wd x1 x2 x3 x4 x5 x6)) := hD
        refine lv_aload_n hx hb dX2_least_144 rfl (lv_at hl 1 rfl) ?_
        refine lv_aload_n hx hb dX2_least_145 rfl (lv_at hl 1 rfl) ?_
        refine va_get (D := (dC, dI)) (ci := 2) (v := .int (nI 0)) (C := RX2) (T := TX2) (N := 19) hx hb hts (fun _ h => List.mem_cons_of_mem _ (List.mem_append_right _ h)) hown hK hP 0 rfl rfl 5 (by decide) (hts (.fieldLink RX2 132 "RankFinderModel" "answered" "I") (List.mem_of_getElem? (i := 2) rfl)) (fun _ h9 => h9) rfl dX2_least_146 ?_
        refine lv_iconst (v := nI 2) hx hb dX2_least_149 (by decide) ?_
        refine lv_icmp_ne (tgt := 160) hx hb dX2_least_150 (by decide) (fun _ => ?_) (fun c => absurd c (by decide))
        refine lv_lconst (v := 0) hx hb dX2_least_160 (by decide) ?_
        refine va_put (D := (dC, dI)) (ci := 2) (v := .long 0) (ty := .long) (C := RX2) (T := TX2) (N := 19) hx hb hts (fun _ h => List.mem_cons_of_mem _ (List.mem_append_right _ h)) tyX2 tyX2_ok nmX2 hown hK hP hD hS 0 rfl rfl 4 (by decide) (hts (.fieldLink RX2 138 "RankFinderModel" "bottom" "J") (List.mem_of_getElem? (i := 6) rfl)) (fun _ h9 => h9) rfl (by decide +kernel) rfl rfl (Nat.le_of_ble_eq_true rfl) dX2_least_161 (fun H locs hP hD hS => ?_)
        have hP : va_P (dC, dI) vwCl (mdW m0 aN aR aX aO aP aH aL aW cI cJ vn ct nm 0 0 (nI 0) f3 y3 o3 p3 r3 c3 h3 l3 a3 b3 t1 t2 (wdF wd x1 x2 x3 x4 x5 x6)) H := hP
        have hD : va_D A (mdW m0 aN aR aX aO aP aH aL aW cI cJ vn ct nm 0 0 (nI 0) f3 y3 o3 p3 r3 c3 h3 l3 a3 b3 t1 t2 (wdF wd x1 x2 x3 x4 x5 x6)) := hD
        refine lv_aload_n hx hb dX2_least_164 rfl (lv_at hl 1 rfl) ?_
        refine va_get (D := (dC, dI)) (ci := 2) (v := .int (nI 0)) (C := RX2) (T := TX2) (N := 19) hx hb hts (fun _ h => List.mem_cons_of_mem _ (List.mem_append_right _ h)) hown hK hP 0 rfl rfl 5 (by decide) (hts (.fieldLink RX2 132 "RankFinderModel" "answered" "I") (List.mem_of_getElem? (i := 2) rfl)) (fun _ h9 => h9) rfl dX2_least_165 ?_
        exact W.iret (v := (nI 0)) hx hb hr (fun t ht hW => ⟨⟨(nI 0), (r3, f3, o3, y3, p3, h3, l3, a3, b3, c3, t1, t2, 0, 0, nI 0, wdF wd x1 x2 x3 x4 x5 x6), rfl, Or.inr ⟨hok, Or.inl ⟨rfl, hw, rfl, rfl⟩⟩, by rw [ht]; exact hP, va_K.moved hW.alike hK, hD⟩, hS.F ht⟩) hS.2.2 dX2_least_168
      · obtain rfl : r_118 = nI 1 := hr9
        refine va_put (D := (dC, dI)) (ci := 2) (v := .int (nI 1)) (ty := .int) (C := RX2) (T := TX2) (N := 19) hx hb hts (fun _ h => List.mem_cons_of_mem _ (List.mem_append_right _ h)) tyX2 tyX2_ok nmX2 hown hK hP hD hS 0 rfl rfl 5 (by decide) (hts (.fieldLink RX2 132 "RankFinderModel" "answered" "I") (List.mem_of_getElem? (i := 2) rfl)) (fun _ h9 => h9) rfl (by decide +kernel) rfl rfl (Nat.le_of_ble_eq_true rfl) dX2_least_121 (fun H locs hP hD hS => ?_)
        have hP : va_P (dC, dI) vwCl (mdW m0 aN aR aX aO aP aH aL aW cI cJ vn ct nm tp bt (nI 1) f3 y3 o3 p3 r3 c3 h3 l3 a3 b3 t1 t2 (wdF wd x1 x2 x3 x4 x5 x6)) H := hP
        have hD : va_D A (mdW m0 aN aR aX aO aP aH aL aW cI cJ vn ct nm tp bt (nI 1) f3 y3 o3 p3 r3 c3 h3 l3 a3 b3 t1 t2 (wdF wd x1 x2 x3 x4 x5 x6)) := hD
        refine lv_aload_n hx hb dX2_least_124 rfl (lv_at hl 1 rfl) ?_
        refine lv_aload_n hx hb dX2_least_125 rfl (lv_at hl 1 rfl) ?_
        refine va_get (D := (dC, dI)) (ci := 2) (v := .int (nI 1)) (C := RX2) (T := TX2) (N := 19) hx hb hts (fun _ h => List.mem_cons_of_mem _ (List.mem_append_right _ h)) hown hK hP 0 rfl rfl 5 (by decide) (hts (.fieldLink RX2 132 "RankFinderModel" "answered" "I") (List.mem_of_getElem? (i := 2) rfl)) (fun _ h9 => h9) rfl dX2_least_126 ?_
        refine lv_iconst (v := nI 2) hx hb dX2_least_129 (by decide) ?_
        refine lv_icmp_ne (tgt := 140) hx hb dX2_least_130 (by decide) (fun _ => ?_) (fun c => absurd c (by decide))
        refine lv_lconst (v := 0) hx hb dX2_least_140 (by decide) ?_
        refine va_put (D := (dC, dI)) (ci := 2) (v := .long 0) (ty := .long) (C := RX2) (T := TX2) (N := 19) hx hb hts (fun _ h => List.mem_cons_of_mem _ (List.mem_append_right _ h)) tyX2 tyX2_ok nmX2 hown hK hP hD hS 0 rfl rfl 3 (by decide) (hts (.fieldLink RX2 135 "RankFinderModel" "top" "J") (List.mem_of_getElem? (i := 4) rfl)) (fun _ h9 => h9) rfl (by decide +kernel) rfl rfl (Nat.le_of_ble_eq_true rfl) dX2_least_141 (fun H locs hP hD hS => ?_)
        have hP : va_P (dC, dI) vwCl (mdW m0 aN aR aX aO aP aH aL aW cI cJ vn ct nm 0 bt (nI 1) f3 y3 o3 p3 r3 c3 h3 l3 a3 b3 t1 t2 (wdF wd x1 x2 x3 x4 x5 x6)) H := hP
        have hD : va_D A (mdW m0 aN aR aX aO aP aH aL aW cI cJ vn ct nm 0 bt (nI 1) f3 y3 o3 p3 r3 c3 h3 l3 a3 b3 t1 t2 (wdF wd x1 x2 x3 x4 x5 x6)) := hD
        refine lv_aload_n hx hb dX2_least_144 rfl (lv_at hl 1 rfl) ?_
        refine lv_aload_n hx hb dX2_least_145 rfl (lv_at hl 1 rfl) ?_
        refine va_get (D := (dC, dI)) (ci := 2) (v := .int (nI 1)) (C := RX2) (T := TX2) (N := 19) hx hb hts (fun _ h => List.mem_cons_of_mem _ (List.mem_append_right _ h)) hown hK hP 0 rfl rfl 5 (by decide) (hts (.fieldLink RX2 132 "RankFinderModel" "answered" "I") (List.mem_of_getElem? (i := 2) rfl)) (fun _ h9 => h9) rfl dX2_least_146 ?_
        refine lv_iconst (v := nI 2) hx hb dX2_least_149 (by decide) ?_
        refine lv_icmp_ne (tgt := 160) hx hb dX2_least_150 (by decide) (fun _ => ?_) (fun c => absurd c (by decide))
        refine lv_lconst (v := 0) hx hb dX2_least_160 (by decide) ?_
        refine va_put (D := (dC, dI)) (ci := 2) (v := .long 0) (ty := .long) (C := RX2) (T := TX2) (N := 19) hx hb hts (fun _ h => List.mem_cons_of_mem _ (List.mem_append_right _ h)) tyX2 tyX2_ok nmX2 hown hK hP hD hS 0 rfl rfl 4 (by decide) (hts (.fieldLink RX2 138 "RankFinderModel" "bottom" "J") (List.mem_of_getElem? (i := 6) rfl)) (fun _ h9 => h9) rfl (by decide +kernel) rfl rfl (Nat.le_of_ble_eq_true rfl) dX2_least_161 (fun H locs hP hD hS => ?_)
        have hP : va_P (dC, dI) vwCl (mdW m0 aN aR aX aO aP aH aL aW cI cJ vn ct nm 0 0 (nI 1) f3 y3 o3 p3 r3 c3 h3 l3 a3 b3 t1 t2 (wdF wd x1 x2 x3 x4 x5 x6)) H := hP
        have hD : va_D A (mdW m0 aN aR aX aO aP aH aL aW cI cJ vn ct nm 0 0 (nI 1) f3 y3 o3 p3 r3 c3 h3 l3 a3 b3 t1 t2 (wdF wd x1 x2 x3 x4 x5 x6)) := hD
        refine lv_aload_n hx hb dX2_least_164 rfl (lv_at hl 1 rfl) ?_
        refine va_get (D := (dC, dI)) (ci := 2) (v := .int (nI 1)) (C := RX2) (T := TX2) (N := 19) hx hb hts (fun _ h => List.mem_cons_of_mem _ (List.mem_append_right _ h)) hown hK hP 0 rfl rfl 5 (by decide) (hts (.fieldLink RX2 132 "RankFinderModel" "answered" "I") (List.mem_of_getElem? (i := 2) rfl)) (fun _ h9 => h9) rfl dX2_least_165 ?_
        exact W.iret (v := (nI 1)) hx hb hr (fun t ht hW => ⟨⟨(nI 1), (r3, f3, o3, y3, p3, h3, l3, a3, b3, c3, t1, t2, 0, 0, nI 1, wdF wd x1 x2 x3 x4 x5 x6), rfl, Or.inr ⟨hok, Or.inr (Or.inl ⟨rfl, hw.1, hw.2, rfl, rfl⟩)⟩, by rw [ht]; exact hP, va_K.moved hW.alike hK, hD⟩, hS.F ht⟩) hS.2.2 dX2_least_168
      · obtain rfl : r_118 = nI 2 := hr9
        refine va_put (D := (dC, dI)) (ci := 2) (v := .int (nI 2)) (ty := .int) (C := RX2) (T := TX2) (N := 19) hx hb hts (fun _ h => List.mem_cons_of_mem _ (List.mem_append_right _ h)) tyX2 tyX2_ok nmX2 hown hK hP hD hS 0 rfl rfl 5 (by decide) (hts (.fieldLink RX2 132 "RankFinderModel" "answered" "I") (List.mem_of_getElem? (i := 2) rfl)) (fun _ h9 => h9) rfl (by decide +kernel) rfl rfl (Nat.le_of_ble_eq_true rfl) dX2_least_121 (fun H locs hP hD hS => ?_)
        have hP : va_P (dC, dI) vwCl (mdW m0 aN aR aX aO aP aH aL aW cI cJ vn ct nm tp bt (nI 2) f3 y3 o3 p3 r3 c3 h3 l3 a3 b3 t1 t2 (wdF wd x1 x2 x3 x4 x5 x6)) H := hP
        have hD : va_D A (mdW m0 aN aR aX aO aP aH aL aW cI cJ vn ct nm tp bt (nI 2) f3 y3 o3 p3 r3 c3 h3 l3 a3 b3 t1 t2 (wdF wd x1 x2 x3 x4 x5 x6)) := hD
        refine lv_aload_n hx hb dX2_least_124 rfl (lv_at hl 1 rfl) ?_
        refine lv_aload_n hx hb dX2_least_125 rfl (lv_at hl 1 rfl) ?_
        refine va_get (D := (dC, dI)) (ci := 2) (v := .int (nI 2)) (C := RX2) (T := TX2) (N := 19) hx hb hts (fun _ h => List.mem_cons_of_mem _ (List.mem_append_right _ h)) hown hK hP 0 rfl rfl 5 (by decide) (hts (.fieldLink RX2 132 "RankFinderModel" "answered" "I") (List.mem_of_getElem? (i := 2) rfl)) (fun _ h9 => h9) rfl dX2_least_126 ?_
        refine lv_iconst (v := nI 2) hx hb dX2_least_129 (by decide) ?_
        refine lv_icmp_ne (tgt := 140) hx hb dX2_least_130 (by decide) (fun c => absurd rfl c) (fun _ => ?_)
        refine lv_aload_n hx hb dX2_least_133 rfl (lv_at hl 1 rfl) ?_
        refine va_get (D := (dC, dI)) (ci := 2) (v := .long t1) (C := RX2) (T := TX2) (N := 19) hx hb hts (fun _ h => List.mem_cons_of_mem _ (List.mem_append_right _ h)) hown hK hP 0 rfl rfl 16 (by decide) (hts (.fieldLink RX2 123 "RankFinderModel" "foundTop" "J") (List.mem_of_getElem? (i := 3) rfl)) (fun _ h9 => h9) rfl dX2_least_134 ?_
        refine lv_goto (tgt := 141) hx hb dX2_least_137 (by decide) ?_
        refine va_put (D := (dC, dI)) (ci := 2) (v := .long t1) (ty := .long) (C := RX2) (T := TX2) (N := 19) hx hb hts (fun _ h => List.mem_cons_of_mem _ (List.mem_append_right _ h)) tyX2 tyX2_ok nmX2 hown hK hP hD hS 0 rfl rfl 3 (by decide) (hts (.fieldLink RX2 135 "RankFinderModel" "top" "J") (List.mem_of_getElem? (i := 4) rfl)) (fun _ h9 => h9) rfl (by decide +kernel) rfl rfl (Nat.le_of_ble_eq_true rfl) dX2_least_141 (fun H locs hP hD hS => ?_)
        have hP : va_P (dC, dI) vwCl (mdW m0 aN aR aX aO aP aH aL aW cI cJ vn ct nm t1 bt (nI 2) f3 y3 o3 p3 r3 c3 h3 l3 a3 b3 t1 t2 (wdF wd x1 x2 x3 x4 x5 x6)) H := hP
        have hD : va_D A (mdW m0 aN aR aX aO aP aH aL aW cI cJ vn ct nm t1 bt (nI 2) f3 y3 o3 p3 r3 c3 h3 l3 a3 b3 t1 t2 (wdF wd x1 x2 x3 x4 x5 x6)) := hD
        refine lv_aload_n hx hb dX2_least_144 rfl (lv_at hl 1 rfl) ?_
        refine lv_aload_n hx hb dX2_least_145 rfl (lv_at hl 1 rfl) ?_
        refine va_get (D := (dC, dI)) (ci := 2) (v := .int (nI 2)) (C := RX2) (T := TX2) (N := 19) hx hb hts (fun _ h => List.mem_cons_of_mem _ (List.mem_append_right _ h)) hown hK hP 0 rfl rfl 5 (by decide) (hts (.fieldLink RX2 132 "RankFinderModel" "answered" "I") (List.mem_of_getElem? (i := 2) rfl)) (fun _ h9 => h9) rfl dX2_least_146 ?_
        refine lv_iconst (v := nI 2) hx hb dX2_least_149 (by decide) ?_
        refine lv_icmp_ne (tgt := 160) hx hb dX2_least_150 (by decide) (fun c => absurd rfl c) (fun _ => ?_)
        refine lv_aload_n hx hb dX2_least_153 rfl (lv_at hl 1 rfl) ?_
        refine va_get (D := (dC, dI)) (ci := 2) (v := .long t2) (C := RX2) (T := TX2) (N := 19) hx hb hts (fun _ h => List.mem_cons_of_mem _ (List.mem_append_right _ h)) hown hK hP 0 rfl rfl 17 (by decide) (hts (.fieldLink RX2 126 "RankFinderModel" "foundBottom" "J") (List.mem_of_getElem? (i := 5) rfl)) (fun _ h9 => h9) rfl dX2_least_154 ?_
        refine lv_goto (tgt := 161) hx hb dX2_least_157 (by decide) ?_
        refine va_put (D := (dC, dI)) (ci := 2) (v := .long t2) (ty := .long) (C := RX2) (T := TX2) (N := 19) hx hb hts (fun _ h => List.mem_cons_of_mem _ (List.mem_append_right _ h)) tyX2 tyX2_ok nmX2 hown hK hP hD hS 0 rfl rfl 4 (by decide) (hts (.fieldLink RX2 138 "RankFinderModel" "bottom" "J") (List.mem_of_getElem? (i := 6) rfl)) (fun _ h9 => h9) rfl (by decide +kernel) rfl rfl (Nat.le_of_ble_eq_true rfl) dX2_least_161 (fun H locs hP hD hS => ?_)
        have hP : va_P (dC, dI) vwCl (mdW m0 aN aR aX aO aP aH aL aW cI cJ vn ct nm t1 t2 (nI 2) f3 y3 o3 p3 r3 c3 h3 l3 a3 b3 t1 t2 (wdF wd x1 x2 x3 x4 x5 x6)) H := hP
        have hD : va_D A (mdW m0 aN aR aX aO aP aH aL aW cI cJ vn ct nm t1 t2 (nI 2) f3 y3 o3 p3 r3 c3 h3 l3 a3 b3 t1 t2 (wdF wd x1 x2 x3 x4 x5 x6)) := hD
        refine lv_aload_n hx hb dX2_least_164 rfl (lv_at hl 1 rfl) ?_
        refine va_get (D := (dC, dI)) (ci := 2) (v := .int (nI 2)) (C := RX2) (T := TX2) (N := 19) hx hb hts (fun _ h => List.mem_cons_of_mem _ (List.mem_append_right _ h)) hown hK hP 0 rfl rfl 5 (by decide) (hts (.fieldLink RX2 132 "RankFinderModel" "answered" "I") (List.mem_of_getElem? (i := 2) rfl)) (fun _ h9 => h9) rfl dX2_least_165 ?_
        exact W.iret (v := (nI 2)) hx hb hr (fun t ht hW => ⟨⟨(nI 2), (r3, f3, o3, y3, p3, h3, l3, a3, b3, c3, t1, t2, t1, t2, nI 2, wdF wd x1 x2 x3 x4 x5 x6), rfl, Or.inr ⟨hok, Or.inr (Or.inr ⟨rfl, hw.1, hw.2.elim fun val q => ⟨val, q.1, q.2.1, q.2.2.1, q.2.2.2.1⟩⟩)⟩, by rw [ht]; exact hP, va_K.moved hW.alike hK, hD⟩, hS.F ht⟩) hS.2.2 dX2_least_168
    · refine lv_iload hx hb dX2_least_64 (lv_at hl 0 rfl) ?_
      refine lv_if_ne (tgt := 71) hx hb dX2_least_66 (by decide) (fun c => absurd rfl c) (fun _ => ?_)
      refine lv_iconst (v := (-1)) hx hb dX2_least_69 (by decide) ?_
      exact W.iret (v := (-1)) hx hb hr (fun t ht hW => ⟨⟨(-1), (rc, rw, og, nx, no, hgh, lws, dh, dl, nc, fT, fB, tp, bt, an, wd), rfl, Or.inl ⟨rfl, hok, rfl, rfl⟩, by rw [ht]; exact hP, va_K.moved hW.alike hK, hD⟩, hS.F ht⟩) hS.2.2 dX2_least_70
  refine lv_iload_n hx hb dX2_least_0 rfl (lv_at hl 1 rfl) ?_
  refine lv_bipush (v := nI 99) hx hb dX2_least_1 (by decide) ?_
  have hFc : ∀ q, va_A ([] : va_W) H.size q → A q := fun q h => va_nilA hS hA q h
  refine va_calli (va_runS (As := [.int x1, .int (nI 99)]) (rest := []) ⟨hx, hb, hml, hown, hts⟩ (c_X2_isSmall l dC dI H.size x1 (nI 99)) (va_cwS 2 hts gX2_least_X2_isSmall rfl rfl rfl (by decide +kernel) ⟨Nat.le_of_ble_eq_true rfl, Nat.le_of_ble_eq_true rfl⟩) ⟨fun a U g mk q => by obtain ⟨q0, q1, qP, qK, qD⟩ := q; exact ⟨q0, q1, qP, va_K.moved (u := U) (U := U.calling g mk a) (Vm.Alike.refl U.vm) qK, qD⟩, fun U hU hW => ⟨rfl, by rw [hU], va_nilP, va_K.moved hW.alike (hK.sub (tys' := []) [] rfl), va_nilD⟩⟩ rfl rfl hl.1 rfl (lv_room (Nat.le_of_ble_eq_true rfl)) dX2_least_3 ⟨(Nat.zero_le _), (Nat.zero_le _)⟩) hS (fun q _ h => hFc q h) hFc (fun r_3 v9 t H1 locs ht hvm hw hB hz1 hk1 hS => ?_)
  have hP := va_keep hP hk1
  clear hB hk1 hz1 ht hvm hFc
  generalize H1 = H at hP hS ⊢
  rcases hw with ⟨rfl, h0⟩ | ⟨rfl, h0⟩
  · refine lv_if_eq (tgt := 61) hx hb dX2_least_6 (by decide) (fun c => absurd c (by decide)) (fun _ => ?_)
    refine lv_iload_n hx hb dX2_least_9 rfl (lv_at hl 2 rfl) ?_
    refine lv_bipush (v := nI 99) hx hb dX2_least_10 (by decide) ?_
    have hFc : ∀ q, va_A ([] : va_W) H.size q → A q := fun q h => va_nilA hS hA q h
    refine va_calli (va_runS (As := [.int x2, .int (nI 99)]) (rest := []) ⟨hx, hb, hml, hown, hts⟩ (c_X2_isSmall l dC dI H.size x2 (nI 99)) (va_cwS 2 hts gX2_least_X2_isSmall rfl rfl rfl (by decide +kernel) ⟨Nat.le_of_ble_eq_true rfl, Nat.le_of_ble_eq_true rfl⟩) ⟨fun a U g mk q => by obtain ⟨q0, q1, qP, qK, qD⟩ := q; exact ⟨q0, q1, qP, va_K.moved (u := U) (U := U.calling g mk a) (Vm.Alike.refl U.vm) qK, qD⟩, fun U hU hW => ⟨rfl, by rw [hU], va_nilP, va_K.moved hW.alike (hK.sub (tys' := []) [] rfl), va_nilD⟩⟩ rfl rfl hl.1 rfl (lv_room (Nat.le_of_ble_eq_true rfl)) dX2_least_12 ⟨(Nat.zero_le _), (Nat.zero_le _)⟩) hS (fun q _ h => hFc q h) hFc (fun r_12 v9 t H1 locs ht hvm hw hB hz1 hk1 hS => ?_)
    have hP := va_keep hP hk1
    clear hB hk1 hz1 ht hvm hFc
    generalize H1 = H at hP hS ⊢
    rcases hw with ⟨rfl, h1⟩ | ⟨rfl, h1⟩
    · refine lv_if_eq (tgt := 61) hx hb dX2_least_15 (by decide) (fun c => absurd c (by decide)) (fun _ => ?_)
      refine lv_iload_n hx hb dX2_least_18 rfl (lv_at hl 3 rfl) ?_
      refine lv_bipush (v := nI 99) hx hb dX2_least_19 (by decide) ?_
      have hFc : ∀ q, va_A ([] : va_W) H.size q → A q := fun q h => va_nilA hS hA q h
      refine va_calli (va_runS (As := [.int x3, .int (nI 99)]) (rest := []) ⟨hx, hb, hml, hown, hts⟩ (c_X2_isSmall l dC dI H.size x3 (nI 99)) (va_cwS 2 hts gX2_least_X2_isSmall rfl rfl rfl (by decide +kernel) ⟨Nat.le_of_ble_eq_true rfl, Nat.le_of_ble_eq_true rfl⟩) ⟨fun a U g mk q => by obtain ⟨q0, q1, qP, qK, qD⟩ := q; exact ⟨q0, q1, qP, va_K.moved (u := U) (U := U.calling g mk a) (Vm.Alike.refl U.vm) qK, qD⟩, fun U hU hW => ⟨rfl, by rw [hU], va_nilP, va_K.moved hW.alike (hK.sub (tys' := []) [] rfl), va_nilD⟩⟩ rfl rfl hl.1 rfl (lv_room (Nat.le_of_ble_eq_true rfl)) dX2_least_21 ⟨(Nat.zero_le _), (Nat.zero_le _)⟩) hS (fun q _ h => hFc q h) hFc (fun r_21 v9 t H1 locs ht hvm hw hB hz1 hk1 hS => ?_)
      have hP := va_keep hP hk1
      clear hB hk1 hz1 ht hvm hFc
      generalize H1 = H at hP hS ⊢
      rcases hw with ⟨rfl, h2⟩ | ⟨rfl, h2⟩
      · refine lv_if_eq (tgt := 61) hx hb dX2_least_24 (by decide) (fun c => absurd c (by decide)) (fun _ => ?_)
        refine lv_iload hx hb dX2_least_27 (lv_at hl 4 rfl) ?_
        refine lv_bipush (v := nI 99) hx hb dX2_least_29 (by decide) ?_
        have hFc : ∀ q, va_A ([] : va_W) H.size q → A q := fun q h => va_nilA hS hA q h
        refine va_calli (va_runS (As := [.int x4, .int (nI 99)]) (rest := []) ⟨hx, hb, hml, hown, hts⟩ (c_X2_isSmall l dC dI H.size x4 (nI 99)) (va_cwS 2 hts gX2_least_X2_isSmall rfl rfl rfl (by decide +kernel) ⟨Nat.le_of_ble_eq_true rfl, Nat.le_of_ble_eq_true rfl⟩) ⟨fun a U g mk q => by obtain ⟨q0, q1, qP, qK, qD⟩ := q; exact ⟨q0, q1, qP, va_K.moved (u := U) (U := U.calling g mk a) (Vm.Alike.refl U.vm) qK, qD⟩, fun U hU hW => ⟨rfl, by rw [hU], va_nilP, va_K.moved hW.alike (hK.sub (tys' := []) [] rfl), va_nilD⟩⟩ rfl rfl hl.1 rfl (lv_room (Nat.le_of_ble_eq_true rfl)) dX2_least_31 ⟨(Nat.zero_le _), (Nat.zero_le _)⟩) hS (fun q _ h => hFc q h) hFc (fun r_31 v9 t H1 locs ht hvm hw hB hz1 hk1 hS => ?_)
        have hP := va_keep hP hk1
        clear hB hk1 hz1 ht hvm hFc
        generalize H1 = H at hP hS ⊢
        rcases hw with ⟨rfl, h3⟩ | ⟨rfl, h3⟩
        · refine lv_if_eq (tgt := 61) hx hb dX2_least_34 (by decide) (fun c => absurd c (by decide)) (fun _ => ?_)
          refine lv_iload hx hb dX2_least_37 (lv_at hl 5 rfl) ?_
          refine lv_bipush (v := nI 99) hx hb dX2_least_39 (by decide) ?_
          have hFc : ∀ q, va_A ([] : va_W) H.size q → A q := fun q h => va_nilA hS hA q h
          refine va_calli (va_runS (As := [.int x5, .int (nI 99)]) (rest := []) ⟨hx, hb, hml, hown, hts⟩ (c_X2_isSmall l dC dI H.size x5 (nI 99)) (va_cwS 2 hts gX2_least_X2_isSmall rfl rfl rfl (by decide +kernel) ⟨Nat.le_of_ble_eq_true rfl, Nat.le_of_ble_eq_true rfl⟩) ⟨fun a U g mk q => by obtain ⟨q0, q1, qP, qK, qD⟩ := q; exact ⟨q0, q1, qP, va_K.moved (u := U) (U := U.calling g mk a) (Vm.Alike.refl U.vm) qK, qD⟩, fun U hU hW => ⟨rfl, by rw [hU], va_nilP, va_K.moved hW.alike (hK.sub (tys' := []) [] rfl), va_nilD⟩⟩ rfl rfl hl.1 rfl (lv_room (Nat.le_of_ble_eq_true rfl)) dX2_least_41 ⟨(Nat.zero_le _), (Nat.zero_le _)⟩) hS (fun q _ h => hFc q h) hFc (fun r_41 v9 t H1 locs ht hvm hw hB hz1 hk1 hS => ?_)
          have hP := va_keep hP hk1
          clear hB hk1 hz1 ht hvm hFc
          generalize H1 = H at hP hS ⊢
          rcases hw with ⟨rfl, h4⟩ | ⟨rfl, h4⟩
          · refine lv_if_eq (tgt := 61) hx hb dX2_least_44 (by decide) (fun c => absurd c (by decide)) (fun _ => ?_)
            refine lv_iload hx hb dX2_least_47 (lv_at hl 6 rfl) ?_
            refine lv_bipush (v := nI 99) hx hb dX2_least_49 (by decide) ?_
            have hFc : ∀ q, va_A ([] : va_W) H.size q → A q := fun q h => va_nilA hS hA q h
            refine va_calli (va_runS (As := [.int x6, .int (nI 99)]) (rest := []) ⟨hx, hb, hml, hown, hts⟩ (c_X2_isSmall l dC dI H.size x6 (nI 99)) (va_cwS 2 hts gX2_least_X2_isSmall rfl rfl rfl (by decide +kernel) ⟨Nat.le_of_ble_eq_true rfl, Nat.le_of_ble_eq_true rfl⟩) ⟨fun a U g mk q => by obtain ⟨q0, q1, qP, qK, qD⟩ := q; exact ⟨q0, q1, qP, va_K.moved (u := U) (U := U.calling g mk a) (Vm.Alike.refl U.vm) qK, qD⟩, fun U hU hW => ⟨rfl, by rw [hU], va_nilP, va_K.moved hW.alike (hK.sub (tys' := []) [] rfl), va_nilD⟩⟩ rfl rfl hl.1 rfl (lv_room (Nat.le_of_ble_eq_true rfl)) dX2_least_51 ⟨(Nat.zero_le _), (Nat.zero_le _)⟩) hS (fun q _ h => hFc q h) hFc (fun r_51 v9 t H1 locs ht hvm hw hB hz1 hk1 hS => ?_)
            have hP := va_keep hP hk1
            clear hB hk1 hz1 ht hvm hFc
            generalize H1 = H at hP hS ⊢
            rcases hw with ⟨rfl, h5⟩ | ⟨rfl, h5⟩
            · refine lv_if_eq (tgt := 61) hx hb dX2_least_54 (by decide) (fun c => absurd c (by decide)) (fun _ => ?_)
              refine lv_iconst (v := nI 1) hx hb dX2_least_57 (by decide) ?_
              refine lv_goto (tgt := 62) hx hb dX2_least_58 (by decide) ?_
              refine lv_istore (lv' := [(7, .int (nI 1)), (0, .ref m0), (1, .int x1), (2, .int x2), (3, .int x3), (4, .int x4), (5, .int x5), (6, .int x6)]) hx hb dX2_least_62 hl (by decide) rfl (fun ls hl => ?_)
              exact behind 1 H _ ls (Or.inl ⟨rfl, ⟨h0, h1, h2⟩, h3, h4, h5⟩) hP hK hD hS (lv_sub hl [0, 1, 2, 3, 4, 5, 6, 7] rfl)
            · refine lv_if_eq (tgt := 61) hx hb dX2_least_54 (by decide) (fun _ => ?_) (fun c => absurd rfl c)
              refine lv_iconst (v := nI 0) hx hb dX2_least_61 (by decide) ?_
              refine lv_istore (lv' := [(7, .int (nI 0)), (0, .ref m0), (1, .int x1), (2, .int x2), (3, .int x3), (4, .int x4), (5, .int x5), (6, .int x6)]) hx hb dX2_least_62 hl (by decide) rfl (fun ls hl => ?_)
              exact behind 0 H _ ls (Or.inr ⟨rfl, fun q => h5 q.2.2.2⟩) hP hK hD hS (lv_sub hl [0, 1, 2, 3, 4, 5, 6, 7] rfl)
          · refine lv_if_eq (tgt := 61) hx hb dX2_least_44 (by decide) (fun _ => ?_) (fun c => absurd rfl c)
            refine lv_iconst (v := nI 0) hx hb dX2_least_61 (by decide) ?_
            refine lv_istore (lv' := [(7, .int (nI 0)), (0, .ref m0), (1, .int x1), (2, .int x2), (3, .int x3), (4, .int x4), (5, .int x5), (6, .int x6)]) hx hb dX2_least_62 hl (by decide) rfl (fun ls hl => ?_)
            exact behind 0 H _ ls (Or.inr ⟨rfl, fun q => h4 q.2.2.1⟩) hP hK hD hS (lv_sub hl [0, 1, 2, 3, 4, 5, 6, 7] rfl)
        · refine lv_if_eq (tgt := 61) hx hb dX2_least_34 (by decide) (fun _ => ?_) (fun c => absurd rfl c)
          refine lv_iconst (v := nI 0) hx hb dX2_least_61 (by decide) ?_
          refine lv_istore (lv' := [(7, .int (nI 0)), (0, .ref m0), (1, .int x1), (2, .int x2), (3, .int x3), (4, .int x4), (5, .int x5), (6, .int x6)]) hx hb dX2_least_62 hl (by decide) rfl (fun ls hl => ?_)
          exact behind 0 H _ ls (Or.inr ⟨rfl, fun q => h3 q.2.1⟩) hP hK hD hS (lv_sub hl [0, 1, 2, 3, 4, 5, 6, 7] rfl)
      · refine lv_if_eq (tgt := 61) hx hb dX2_least_24 (by decide) (fun _ => ?_) (fun c => absurd rfl c)
        refine lv_iconst (v := nI 0) hx hb dX2_least_61 (by decide) ?_
        refine lv_istore (lv' := [(7, .int (nI 0)), (0, .ref m0), (1, .int x1), (2, .int x2), (3, .int x3), (4, .int x4), (5, .int x5), (6, .int x6)]) hx hb dX2_least_62 hl (by decide) rfl (fun ls hl => ?_)
        exact behind 0 H _ ls (Or.inr ⟨rfl, fun q => h2 q.1.2.2⟩) hP hK hD hS (lv_sub hl [0, 1, 2, 3, 4, 5, 6, 7] rfl)
    · refine lv_if_eq (tgt := 61) hx hb dX2_least_15 (by decide) (fun _ => ?_) (fun c => absurd rfl c)
      refine lv_iconst (v := nI 0) hx hb dX2_least_61 (by decide) ?_
      refine lv_istore (lv' := [(7, .int (nI 0)), (0, .ref m0), (1, .int x1), (2, .int x2), (3, .int x3), (4, .int x4), (5, .int x5), (6, .int x6)]) hx hb dX2_least_62 hl (by decide) rfl (fun ls hl => ?_)
      exact behind 0 H _ ls (Or.inr ⟨rfl, fun q => h1 q.1.2.1⟩) hP hK hD hS (lv_sub hl [0, 1, 2, 3, 4, 5, 6, 7] rfl)
  · refine lv_if_eq (tgt := 61) hx hb dX2_least_6 (by decide) (fun _ => ?_) (fun c => absurd rfl c)
    refine lv_iconst (v := nI 0) hx hb dX2_least_61 (by decide) ?_
    refine lv_istore (lv' := [(7, .int (nI 0)), (0, .ref m0), (1, .int x1), (2, .int x2), (3, .int x3), (4, .int x4), (5, .int x5), (6, .int x6)]) hx hb dX2_least_62 hl (by decide) rfl (fun ls hl => ?_)
    exact behind 0 H _ ls (Or.inr ⟨rfl, fun q => h0 q.1.1⟩) hP hK hD hS (lv_sub hl [0, 1, 2, 3, 4, 5, 6, 7] rfl)
set_option maxHeartbeats 1000000 in
set_option maxRecDepth 100000 in
/-- ranks(..) -/
theorem c_X2_ranks (l : Launch) (dC : Nat → ClassId) (dI : Nat → Nat → Nat) (sz : Nat) (m0 aN aR aX aO aP aH aL aW : Nat) (cI cJ : ClassId) (vn ct : Nat) (nm : Nat → Int32) (tp bt : Int64) (an : Int32) (rw nx : Nat → Int64) (og no : Nat → Int32) (rc nc : Nat) (hgh lws : Nat → Int64) (dh dl fT fB : Int64) (wd : Nat → Int32) (r0 r1 r2 sv : Int32) (hv1 : 1 ≤ vn) (hv : vn ≤ 3) (hc : ct ≤ 8) (hN : okN nm ct) : Met l yX2_ranks wsX2_ranks ({ frames := 6, cells := 0, slots := 0, locals := 180 }) (va_Pc [.ref m0, .int r0, .int r1, .int r2, .int sv] (fun U => U.heap.size = sz ∧ va_P (dC, dI) vwCl (mdW m0 aN aR aX aO aP aH aL aW cI cJ vn ct nm tp bt an rw nx og no rc nc hgh lws dh dl fT fB wd) U.heap ∧ va_K (dC, dI) vwCl [(cI, .int), (cJ, .long)] U ∧ va_D (fun _ => True) (mdW m0 aN aR aX aO aP aH aL aW cI cJ vn ct nm tp bt an rw nx og no rc nc hgh lws dh dl fT fB wd))) (va_Qi (fun (x : Int32) (v : Nat × (Nat → Int64) × (Nat → Int32) × (Nat → Int64) × (Nat → Int32) × (Nat → Int64) × (Nat → Int64) × Int64 × Int64 × Nat × Int64 × Int64 × (Nat → Int32)) => (x = 0 ∧ ¬ ((inR r0 (nI 999) ∧ inR r1 (nI 999) ∧ inR r2 (nI 999)) ∧ inR sv (nI 999))) ∨ (((inR r0 (nI 999) ∧ inR r1 (nI 999) ∧ inR r2 (nI 999)) ∧ inR sv (nI 999)) ∧ ((x = 1 ∧ CerQ ct 9 (SM nm (wdF wd r0 r1 r2 0 0 0) vn ct)) ∨ (x = 0 ∧ ¬ CerQ ct 9 (SM nm (wdF wd r0 r1 r2 0 0 0) vn ct) ∧ ¬ ∃ w, DuF ct (SM nm (wdF wd r0 r1 r2 0 0 0) vn ct) w) ∨ (¬ CerQ ct 9 (SM nm (wdF wd r0 r1 r2 0 0 0) vn ct) ∧ ∃ val, Opt ct (SM nm (wdF wd r0 r1 r2 0 0 0) vn ct) val ∧ ((x = 0 ∧ val + (sv.toInt : Rat) < 0) ∨ (0 ≤ val + (sv.toInt : Rat) ∧ ((x = 1 ∧ CerQ ct 9 (SM nm (wdF (wdF wd r0 r1 r2 0 0 0) r0 r1 r2 (-r0) (-r1) (-r2)) vn ct)) ∨ (x = 0 ∧ ¬ ∃ w, DuF ct (SM nm (wdF (wdF wd r0 r1 r2 0 0 0) r0 r1 r2 (-r0) (-r1) (-r2)) vn ct) w) ∨ ∃ val2, Opt ct (SM nm (wdF (wdF wd r0 r1 r2 0 0 0) r0 r1 r2 (-r0) (-r1) (-r2)) vn ct) val2 ∧ ((x = 0 ∧ val2 < 1) ∨ (x = 1 ∧ 1 ≤ val2))))))))) (fun v t => va_P (dC, dI) vwCl (mdW m0 aN aR aX aO aP aH aL aW cI cJ vn ct nm tp bt an v.2.1 v.2.2.2.1 v.2.2.1 v.2.2.2.2.1 v.1 v.2.2.2.2.2.2.2.2.2.1 v.2.2.2.2.2.1 v.2.2.2.2.2.2.1 v.2.2.2.2.2.2.2.1 v.2.2.2.2.2.2.2.2.1 v.2.2.2.2.2.2.2.2.2.2.1 v.2.2.2.2.2.2.2.2.2.2.2.1 v.2.2.2.2.2.2.2.2.2.2.2.2) t.heap ∧ va_K (dC, dI) vwCl [(cI, .int), (cJ, .long)] t ∧ va_D (va_A (mdW m0 aN aR aX aO aP aH aL aW cI cJ vn ct nm tp bt an rw nx og no rc nc hgh lws dh dl fT fB wd) sz) (mdW m0 aN aR aX aO aP aH aL aW cI cJ vn ct nm tp bt an v.2.1 v.2.2.2.1 v.2.2.1 v.2.2.2.2.1 v.1 v.2.2.2.2.2.2.2.2.2.1 v.2.2.2.2.2.1 v.2.2.2.2.2.2.1 v.2.2.2.2.2.2.2.1 v.2.2.2.2.2.2.2.2.1 v.2.2.2.2.2.2.2.2.2.2.1 v.2.2.2.2.2.2.2.2.2.2.2.1 v.2.2.2.2.2.2.2.2.2.2.2.2)) (va_A (mdW m0 aN aR aX aO aP aH aL aW cI cJ vn ct nm tp bt an rw nx og no rc nc hgh lws dh dl fT fB wd) sz)) 0 0 (va_A (mdW m0 aN aR aX aO aP aH aL aW cI cJ vn ct nm tp bt an rw nx og no rc nc hgh lws dh dl fT fB wd) sz) := by
  refine Met.ofW (cc := cX2_ranks) (maxL := 9) (ret := (some .boolean)) (by decide) rfl ?_
  intro p e s m args below meth c s₁ B hml hv
  obtain ⟨rfl, hsz, hP, hK, hD0⟩ := hv
  have hx := B.exec
  have hb := B.bytes
  have hr := B.returns
  have hts := atoms_spec (ws := wsX2_ranks) B.pre
  have hown : s.vm.findClass RX2 = some m.cls := findClass_of_methodNamed B.named
  subst hsz
  have hD := hD0.self (sz := s.heap.size)
  clear hD0
  generalize hAe : va_A (mdW m0 aN aR aX aO aP aH aL aW cI cJ vn ct nm tp bt an rw nx og no rc nc hgh lws dh dl fT fB wd) s.heap.size = A at hD ⊢
  have hA : ∀ q : Nat, s.heap.size ≤ q → A q := fun q h => by rw [← hAe]; exact Or.inr h
  have hl := lv_entry ([.ref m0, .int r0, .int r1, .int r2, .int sv]) (n := 9) (Nat.le_of_ble_eq_true rfl)
  rw [lg_entry_eq]
  generalize (lg_sl ([.ref m0, .int r0, .int r1, .int r2, .int sv]) ++ List.replicate (9 - (lg_sl ([.ref m0, .int r0, .int r1, .int r2, .int sv])).length) Slot.unset).toArray = ls at hl ⊢
  have hl : lv_has ls 9 [(0, .ref m0), (1, .int r0), (2, .int r1), (3, .int r2), (4, .int sv)] := hl
  have hP : va_P (dC, dI) vwCl (mdW m0 aN aR aX aO aP aH aL aW cI cJ vn ct nm tp bt an rw nx og no rc nc hgh lws dh dl fT fB wd) s.heap := hP
  obtain ⟨H, hH⟩ : ∃ H, H = s.heap := ⟨_, rfl⟩
  have hS : va_S A s.heap H [] := by rw [hH]; exact va_S.rf
  rw [← hH] at hP ⊢
  refine lv_iload_n hx hb dX2_ranks_0 rfl (lv_at hl 1 rfl) ?_
  refine lv_sipush (v := nI 999) hx hb dX2_ranks_1 (by decide) ?_
  have hFc : ∀ q, va_A ([] : va_W) H.size q → A q := fun q h => va_nilA hS hA q h
  refine va_calli (va_runS (As := [.int r0, .int (nI 999)]) (rest := []) ⟨hx, hb, hml, hown, hts⟩ (c_X2_isSmall l dC dI H.size r0 (nI 999)) (va_cwS 2 hts gX2_ranks_X2_isSmall rfl rfl rfl (by decide +kernel) ⟨Nat.le_of_ble_eq_true rfl, Nat.le_of_ble_eq_true rfl⟩) ⟨fun a U g mk q => by obtain ⟨q0, q1, qP, qK, qD⟩ := q; exact ⟨q0, q1, qP, va_K.moved (u := U) (U := U.calling g mk a) (Vm.Alike.refl U.vm) qK, qD⟩, fun U hU hW => ⟨rfl, by rw [hU], va_nilP, va_K.moved hW.alike (hK.sub (tys' := []) [] rfl), va_nilD⟩⟩ rfl rfl hl.1 rfl (lv_room (Nat.le_of_ble_eq_true rfl)) dX2_ranks_4 ⟨(Nat.zero_le _), (Nat.zero_le _)⟩) hS (fun q _ h => hFc q h) hFc (fun r_4 v9 t H1 locs ht hvm hw hB hz1 hk1 hS => ?_)
  have hP := va_keep hP hk1
  clear hB hk1 hz1 ht hvm hFc
  generalize H1 = H at hP hS ⊢
  rcases hw with ⟨rfl, h0⟩ | ⟨rfl, h0⟩
  · refine lv_if_eq (tgt := 41) hx hb dX2_ranks_7 (by decide) (fun c => absurd c (by decide)) (fun _ => ?_)
    refine lv_iload_n hx hb dX2_ranks_10 rfl (lv_at hl 2 rfl) ?_
    refine lv_sipush (v := nI 999) hx hb dX2_ranks_11 (by decide) ?_
    have hFc : ∀ q, va_A ([] : va_W) H.size q → A q := fun q h => va_nilA hS hA q h
    refine va_calli (va_runS (As := [.int r1, .int (nI 999)]) (rest := []) ⟨hx, hb, hml, hown, hts⟩ (c_X2_isSmall l dC dI H.size r1 (nI 999)) (va_cwS 2 hts gX2_ranks_X2_isSmall rfl rfl rfl (by decide +kernel) ⟨Nat.le_of_ble_eq_true rfl, Nat.le_of_ble_eq_true rfl⟩) ⟨fun a U g mk q => by obtain ⟨q0, q1, qP, qK, qD⟩ := q; exact ⟨q0, q1, qP, va_K.moved (u := U) (U := U.calling g mk a) (Vm.Alike.refl U.vm) qK, qD⟩, fun U hU hW => ⟨rfl, by rw [hU], va_nilP, va_K.moved hW.alike (hK.sub (tys' := []) [] rfl), va_nilD⟩⟩ rfl rfl hl.1 rfl (lv_room (Nat.le_of_ble_eq_true rfl)) dX2_ranks_14 ⟨(Nat.zero_le _), (Nat.zero_le _)⟩) hS (fun q _ h => hFc q h) hFc (fun r_14 v9 t H1 locs ht hvm hw hB hz1 hk1 hS => ?_)
    have hP := va_keep hP hk1
    clear hB hk1 hz1 ht hvm hFc
    generalize H1 = H at hP hS ⊢
    rcases hw with ⟨rfl, h1⟩ | ⟨rfl, h1⟩
    · refine lv_if_eq (tgt := 41) hx hb dX2_ranks_17 (by decide) (fun c => absurd c (by decide)) (fun _ => ?_)
      refine lv_iload_n hx hb dX2_ranks_20 rfl (lv_at hl 3 rfl) ?_
      refine lv_sipush (v := nI 999) hx hb dX2_ranks_21 (by decide) ?_
      have hFc : ∀ q, va_A ([] : va_W) H.size q → A q := fun q h => va_nilA hS hA q h
      refine va_calli (va_runS (As := [.int r2, .int (nI 999)]) (rest := []) ⟨hx, hb, hml, hown, hts⟩ (c_X2_isSmall l dC dI H.size r2 (nI 999)) (va_cwS 2 hts gX2_ranks_X2_isSmall rfl rfl rfl (by decide +kernel) ⟨Nat.le_of_ble_eq_true rfl, Nat.le_of_ble_eq_true rfl⟩) ⟨fun a U g mk q => by obtain ⟨q0, q1, qP, qK, qD⟩ := q; exact ⟨q0, q1, qP, va_K.moved (u := U) (U := U.calling g mk a) (Vm.Alike.refl U.vm) qK, qD⟩, fun U hU hW => ⟨rfl, by rw [hU], va_nilP, va_K.moved hW.alike (hK.sub (tys' := []) [] rfl), va_nilD⟩⟩ rfl rfl hl.1 rfl (lv_room (Nat.le_of_ble_eq_true rfl)) dX2_ranks_24 ⟨(Nat.zero_le _), (Nat.zero_le _)⟩) hS (fun q _ h => hFc q h) hFc (fun r_24 v9 t H1 locs ht hvm hw hB hz1 hk1 hS => ?_)
      have hP := va_keep hP hk1
      clear hB hk1 hz1 ht hvm hFc
      generalize H1 = H at hP hS ⊢
      rcases hw with ⟨rfl, h2⟩ | ⟨rfl, h2⟩
      · refine lv_if_eq (tgt := 41) hx hb dX2_ranks_27 (by decide) (fun c => absurd c (by decide)) (fun _ => ?_)
        refine lv_iload hx hb dX2_ranks_30 (lv_at hl 4 rfl) ?_
        refine lv_sipush (v := nI 999) hx hb dX2_ranks_32 (by decide) ?_
        have hFc : ∀ q, va_A ([] : va_W) H.size q → A q := fun q h => va_nilA hS hA q h
        refine va_calli (va_runS (As := [.int sv, .int (nI 999)]) (rest := []) ⟨hx, hb, hml, hown, hts⟩ (c_X2_isSmall l dC dI H.size sv (nI 999)) (va_cwS 2 hts gX2_ranks_X2_isSmall rfl rfl rfl (by decide +kernel) ⟨Nat.le_of_ble_eq_true rfl, Nat.le_of_ble_eq_true rfl⟩) ⟨fun a U g mk q => by obtain ⟨q0, q1, qP, qK, qD⟩ := q; exact ⟨q0, q1, qP, va_K.moved (u := U) (U := U.calling g mk a) (Vm.Alike.refl U.vm) qK, qD⟩, fun U hU hW => ⟨rfl, by rw [hU], va_nilP, va_K.moved hW.alike (hK.sub (tys' := []) [] rfl), va_nilD⟩⟩ rfl rfl hl.1 rfl (lv_room (Nat.le_of_ble_eq_true rfl)) dX2_ranks_35 ⟨(Nat.zero_le _), (Nat.zero_le _)⟩) hS (fun q _ h => hFc q h) hFc (fun r_35 v9 t H1 locs ht hvm hw hB hz1 hk1 hS => ?_)
        have hP := va_keep hP hk1
        clear hB hk1 hz1 ht hvm hFc
        generalize H1 = H at hP hS ⊢
        rcases hw with ⟨rfl, h3⟩ | ⟨rfl, h3⟩
        · refine lv_if_ne (tgt := 43) hx hb dX2_ranks_38 (by decide) (fun _ => ?_) (fun c => absurd c (by decide))
          have hok : ((inR r0 (nI 999) ∧ inR r1 (nI 999) ∧ inR r2 (nI 999)) ∧ inR sv (nI 999)) := ⟨⟨h0, h1, h2⟩, h3⟩
          have g0 := inR99 h0
          have g1 := inR99 h1
          have g2 := inR99 h2
          have g3 := inR99 h3
          have n0 : (-r0).toInt = -r0.toInt := neg32 (by omega) (by omega)
          have n1 : (-r1).toInt = -r1.toInt := neg32 (by omega) (by omega)
          have n2 : (-r2).toInt = -r2.toInt := neg32 (by omega) (by omega)
          have n3 : (-sv).toInt = -sv.toInt := neg32 (by omega) (by omega)
          refine lv_iconst (v := nI 0) hx hb dX2_ranks_43 (by decide) ?_
          refine lv_istore (lv' := [(5, .int (nI 0)), (0, .ref m0), (1, .int r0), (2, .int r1), (3, .int r2), (4, .int sv)]) hx hb dX2_ranks_44 hl (by decide) rfl (fun ls hl => ?_)
          refine lv_iload hx hb dX2_ranks_46 (lv_at hl 0 rfl) ?_
          refine lv_iconst (v := nI 2) hx hb dX2_ranks_48 (by decide) ?_
          refine lv_icmp_ge (tgt := 176) hx hb dX2_ranks_49 (by decide) (fun c => absurd c (nI_ge (by omega) (by omega))) (fun _ => ?_)
          refine lv_iconst (v := nI 0) hx hb dX2_ranks_52 (by decide) ?_
          refine lv_istore (lv' := [(6, .int (nI 0)), (5, .int (nI 0)), (0, .ref m0), (1, .int r0), (2, .int r1), (3, .int r2), (4, .int sv)]) hx hb dX2_ranks_53 hl (by decide) rfl (fun ls hl => ?_)
          refine lv_iload hx hb dX2_ranks_55 (lv_at hl 0 rfl) ?_
          refine lv_iconst (v := nI 3) hx hb dX2_ranks_57 (by decide) ?_
          refine lv_icmp_ge (tgt := 119) hx hb dX2_ranks_58 (by decide) (fun c => absurd c (nI_ge (by omega) (by omega))) (fun _ => ?_)
          refine lv_iload hx hb dX2_ranks_61 (lv_at hl 0 rfl) ?_
          refine lv_if_ne (tgt := 70) hx hb dX2_ranks_63 (by decide) (fun c => absurd rfl c) (fun _ => ?_)
          refine lv_iload_n hx hb dX2_ranks_66 rfl (lv_at hl 3 rfl) ?_
          refine lv_goto (tgt := 81) hx hb dX2_ranks_67 (by decide) ?_
          refine lv_istore (lv' := [(7, .int r0), (6, .int (nI 0)), (5, .int (nI 0)), (0, .ref m0), (1, .int r0), (2, .int r1), (3, .int r2), (4, .int sv)]) hx hb dX2_ranks_81 hl (by decide) rfl (fun ls hl => ?_)
          refine lv_aload_n hx hb dX2_ranks_83 rfl (lv_at hl 3 rfl) ?_
          refine va_get (D := (dC, dI)) (ci := 2) (v := .ref aW) (C := RX2) (T := TX2) (N := 19) hx hb hts (fun _ h => List.mem_cons_of_mem _ (List.mem_append_right _ h)) hown hK hP 0 rfl rfl 18 (by decide) (hts (.fieldLink RX2 36 "RankFinderModel" "wanted" "[I") (List.mem_of_getElem? (i := 1) rfl)) (fun _ h9 => h9) rfl dX2_ranks_84 ?_
          refine lv_iload hx hb dX2_ranks_87 (lv_at hl 1 rfl) ?_
          refine lv_iload hx hb dX2_ranks_89 (lv_at hl 0 rfl) ?_
          refine na_iast hx hb hK hP hD hS 8 0 rfl rfl (show 0 < 6 by omega) (by decide) dX2_ranks_91 (fun H locs hP hD hS => ?_)
          have hP : va_P (dC, dI) vwCl (mdW m0 aN aR aX aO aP aH aL aW cI cJ vn ct nm tp bt an rw nx og no rc nc hgh lws dh dl fT fB (upd wd 0 r0)) H := hP
          have hD : va_D A (mdW m0 aN aR aX aO aP aH aL aW cI cJ vn ct nm tp bt an rw nx og no rc nc hgh lws dh dl fT fB (upd wd 0 r0)) := hD
          refine lv_aload_n hx hb dX2_ranks_92 rfl (lv_at hl 3 rfl) ?_
          refine va_get (D := (dC, dI)) (ci := 2) (v := .ref aW) (C := RX2) (T := TX2) (N := 19) hx hb hts (fun _ h => List.mem_cons_of_mem _ (List.mem_append_right _ h)) hown hK hP 0 rfl rfl 18 (by decide) (hts (.fieldLink RX2 36 "RankFinderModel" "wanted" "[I") (List.mem_of_getElem? (i := 1) rfl)) (fun _ h9 => h9) rfl dX2_ranks_93 ?_
          refine lv_iconst (v := nI 3) hx hb dX2_ranks_96 (by decide) ?_
          refine lv_iload hx hb dX2_ranks_97 (lv_at hl 1 rfl) ?_
          refine lv_iadd hx hb dX2_ranks_99 ?_
          refine lv_topi (fun z_1 ez_1 => ?_)
          obtain rfl : z_1 = nI (3 + 0) := ez_1.trans (nI_add 3 0)
          refine lv_iload hx hb dX2_ranks_100 (lv_at hl 2 rfl) ?_
          refine lv_if_ne (tgt := 109) hx hb dX2_ranks_102 (by decide) (fun c => absurd rfl c) (fun _ => ?_)
          refine lv_iconst (v := nI 0) hx hb dX2_ranks_105 (by decide) ?_
          refine lv_goto (tgt := 112) hx hb dX2_ranks_106 (by decide) ?_
          refine na_iast hx hb hK hP hD hS 8 0 rfl rfl (show 3 + 0 < 6 by omega) (by decide) dX2_ranks_112 (fun H locs hP hD hS => ?_)
          have hP : va_P (dC, dI) vwCl (mdW m0 aN aR aX aO aP aH aL aW cI cJ vn ct nm tp bt an rw nx og no rc nc hgh lws dh dl fT fB (upd (upd wd 0 r0) (3 + 0) (nI 0))) H := hP
          have hD : va_D A (mdW m0 aN aR aX aO aP aH aL aW cI cJ vn ct nm tp bt an rw nx og no rc nc hgh lws dh dl fT fB (upd (upd wd 0 r0) (3 + 0) (nI 0))) := hD
          refine lv_iinc (v := nI (0 + 1)) (lv' := [(6, .int (nI (0 + 1))), (7, .int r0), (5, .int (nI 0)), (0, .ref m0), (1, .int r0), (2, .int r1), (3, .int r2), (4, .int sv)]) hx hb dX2_ranks_113 hl (k := 1) rfl (nI_1 _) (by decide) rfl (fun ls hl => ?_)
          refine lv_goto (tgt := 55) hx hb dX2_ranks_116 (by decide) ?_
          refine lv_iload hx hb dX2_ranks_55 (lv_at hl 0 rfl) ?_
          refine lv_iconst (v := nI 3) hx hb dX2_ranks_57 (by decide) ?_
          refine lv_icmp_ge (tgt := 119) hx hb dX2_ranks_58 (by decide) (fun c => absurd c (nI_ge (by omega) (by omega))) (fun _ => ?_)
          refine lv_iload hx hb dX2_ranks_61 (lv_at hl 0 rfl) ?_
          refine lv_if_ne (tgt := 70) hx hb dX2_ranks_63 (by decide) (fun _ => ?_) (fun c => absurd c (nI_ne0 (by omega) (by omega)))
          refine lv_iload hx hb dX2_ranks_70 (lv_at hl 0 rfl) ?_
          refine lv_iconst (v := nI 1) hx hb dX2_ranks_72 (by decide) ?_
          refine lv_icmp_ne (tgt := 80) hx hb dX2_ranks_73 (by decide) (fun c => absurd rfl c) (fun _ => ?_)
          refine lv_iload_n hx hb dX2_ranks_76 rfl (lv_at hl 5 rfl) ?_
          refine lv_goto (tgt := 81) hx hb dX2_ranks_77 (by decide) ?_
          refine lv_istore (lv' := [(7, .int r1), (6, .int (nI (0 + 1))), (5, .int (nI 0)), (0, .ref m0), (1, .int r0), (2, .int r1), (3, .int r2), (4, .int sv)]) hx hb dX2_ranks_81 hl (by decide) rfl (fun ls hl => ?_)
          refine lv_aload_n hx hb dX2_ranks_83 rfl (lv_at hl 3 rfl) ?_
          refine va_get (D := (dC, dI)) (ci := 2) (v := .ref aW) (C := RX2) (T := TX2) (N := 19) hx hb hts (fun _ h => List.mem_cons_of_mem _ (List.mem_append_right _ h)) hown hK hP 0 rfl rfl 18 (by decide) (hts (.fieldLink RX2 36 "RankFinderModel" "wanted" "[I") (List.mem_of_getElem? (i := 1) rfl)) (fun _ h9 => h9) rfl dX2_ranks_84 ?_
          refine lv_iload hx hb dX2_ranks_87 (lv_at hl 1 rfl) ?_
          refine lv_iload hx hb dX2_ranks_89 (lv_at hl 0 rfl) ?_
          refine na_iast hx hb hK hP hD hS 8 0 rfl rfl (show 0 + 1 < 6 by omega) (by decide) dX2_ranks_91 (fun H locs hP hD hS => ?_)
          have hP : va_P (dC, dI) vwCl (mdW m0 aN aR aX aO aP aH aL aW cI cJ vn ct nm tp bt an rw nx og no rc nc hgh lws dh dl fT fB (upd (upd (upd wd 0 r0) (3 + 0) (nI 0)) (0 + 1) r1)) H := hP
          have hD : va_D A (mdW m0 aN aR aX aO aP aH aL aW cI cJ vn ct nm tp bt an rw nx og no rc nc hgh lws dh dl fT fB (upd (upd (upd wd 0 r0) (3 + 0) (nI 0)) (0 + 1) r1)) := hD
          refine lv_aload_n hx hb dX2_ranks_92 rfl (lv_at hl 3 rfl) ?_
          refine va_get (D := (dC, dI)) (ci := 2) (v := .ref aW) (C := RX2) (T := TX2) (N := 19) hx hb hts (fun _ h => List.mem_cons_of_mem _ (List.mem_append_right _ h)) hown hK hP 0 rfl rfl 18 (by decide) (hts (.fieldLink RX2 36 "RankFinderModel" "wanted" "[I") (List.mem_of_getElem? (i := 1) rfl)) (fun _ h9 => h9) rfl dX2_ranks_93 ?_
          refine lv_iconst (v := nI 3) hx hb dX2_ranks_96 (by decide) ?_
          refine lv_iload hx hb dX2_ranks_97 (lv_at hl 1 rfl) ?_
          refine lv_iadd hx hb dX2_ranks_99 ?_
          refine lv_topi (fun z_2 ez_2 => ?_)
          obtain rfl : z_2 = nI (3 + (0 + 1)) := ez_2.trans (nI_add 3 (0 + 1))
          refine lv_iload hx hb dX2_ranks_100 (lv_at hl 2 rfl) ?_
          refine lv_if_ne (tgt := 109) hx hb dX2_ranks_102 (by decide) (fun c => absurd rfl c) (fun _ => ?_)
          refine lv_iconst (v := nI 0) hx hb dX2_ranks_105 (by decide) ?_
          refine lv_goto (tgt := 112) hx hb dX2_ranks_106 (by decide) ?_
          refine na_iast hx hb hK hP hD hS 8 0 rfl rfl (show 3 + (0 + 1) < 6 by omega) (by decide) dX2_ranks_112 (fun H locs hP hD hS => ?_)
          have hP : va_P (dC, dI) vwCl (mdW m0 aN aR aX aO aP aH aL aW cI cJ vn ct nm tp bt an rw nx og no rc nc hgh lws dh dl fT fB (upd (upd (upd (upd wd 0 r0) (3 + 0) (nI 0)) (0 + 1) r1) (3 + (0 + 1)) (nI 0))) H := hP
          have hD : va_D A (mdW m0 aN aR aX aO aP aH aL aW cI cJ vn ct nm tp bt an rw nx og no rc nc hgh lws dh dl fT fB (upd (upd (upd (upd wd 0 r0) (3 + 0) (nI 0)) (0 + 1) r1) (3 + (0 + 1)) (nI 0))) := hD
          refine lv_iinc (v := nI (0 + 1 + 1)) (lv' := [(6, .int (nI (0 + 1 + 1))), (7, .int r1), (5, .int (nI 0)), (0, .ref m0), (1, .int r0), (2, .int r1), (3, .int r2), (4, .int sv)]) hx hb dX2_ranks_113 hl (k := 1) rfl (nI_1 _) (by decide) rfl (fun ls hl => ?_)
          refine lv_goto (tgt := 55) hx hb dX2_ranks_116 (by decide) ?_
          refine lv_iload hx hb dX2_ranks_55 (lv_at hl 0 rfl) ?_
          refine lv_iconst (v := nI 3) hx hb dX2_ranks_57 (by decide) ?_
          refine lv_icmp_ge (tgt := 119) hx hb dX2_ranks_58 (by decide) (fun c => absurd c (nI_ge (by omega) (by omega))) (fun _ => ?_)
          refine lv_iload hx hb dX2_ranks_61 (lv_at hl 0 rfl) ?_
          refine lv_if_ne (tgt := 70) hx hb dX2_ranks_63 (by decide) (fun _ => ?_) (fun c => absurd c (nI_ne0 (by omega) (by omega)))
          refine lv_iload hx hb dX2_ranks_70 (lv_at hl 0 rfl) ?_
          refine lv_iconst (v := nI 1) hx hb dX2_ranks_72 (by decide) ?_
          refine lv_icmp_ne (tgt := 80) hx hb dX2_ranks_73 (by decide) (fun _ => ?_) (fun c => absurd (nI_inj (by omega) (by omega) c) (by omega))
          refine lv_iload_n hx hb dX2_ranks_80 rfl (lv_at hl 6 rfl) ?_
          refine lv_istore (lv' := [(7, .int r2), (6, .int (nI (0 + 1 + 1))), (5, .int (nI 0)), (0, .ref m0), (1, .int r0), (2, .int r1), (3, .int r2), (4, .int sv)]) hx hb dX2_ranks_81 hl (by decide) rfl (fun ls hl => ?_)
          refine lv_aload_n hx hb dX2_ranks_83 rfl (lv_at hl 3 rfl) ?_
          refine va_get (D := (dC, dI)) (ci := 2) (v := .ref aW) (C := RX2) (T := TX2) (N := 19) hx hb hts (fun _ h => List.mem_cons_of_mem _ (List.mem_append_right _ h)) hown hK hP 0 rfl rfl 18 (by decide) (hts (.fieldLink RX2 36 "RankFinderModel" "wanted" "[I") (List.mem_of_getElem? (i := 1) rfl)) (fun _ h9 => h9) rfl dX2_ranks_84 ?_
          refine lv_iload hx hb dX2_ranks_87 (lv_at hl 1 rfl) ?_
          refine lv_iload hx hb dX2_ranks_89 (lv_at hl 0 rfl) ?_
          refine na_iast hx hb hK hP hD hS 8 0 rfl rfl (show 0 + 1 + 1 < 6 by omega) (by decide) dX2_ranks_91 (fun H locs hP hD hS => ?_)
          have hP : va_P (dC, dI) vwCl (mdW m0 aN aR aX aO aP aH aL aW cI cJ vn ct nm tp bt an rw nx og no rc nc hgh lws dh dl fT fB (upd (upd (upd (upd (upd wd 0 r0) (3 + 0) (nI 0)) (0 + 1) r1) (3 + (0 + 1)) (nI 0)) (0 + 1 + 1) r2)) H := hP
          have hD : va_D A (mdW m0 aN aR aX aO aP aH aL aW cI cJ vn ct nm tp bt an rw nx og no rc nc hgh lws dh dl fT fB (upd (upd (upd (upd (upd wd 0 r0) (3 + 0) (nI 0)) (0 + 1) r1) (3 + (0 + 1)) (nI 0)) (0 + 1 + 1) r2)) := hD
          refine lv_aload_n hx hb dX2_ranks_92 rfl (lv_at hl 3 rfl) ?_
          refine va_get (D := (dC, dI)) (ci := 2) (v := .ref aW) (C := RX2) (T := TX2) (N := 19) hx hb hts (fun _ h => List.mem_cons_of_mem _ (List.mem_append_right _ h)) hown hK hP 0 rfl rfl 18 (by decide) (hts (.fieldLink RX2 36 "RankFinderModel" "wanted" "[I") (List.mem_of_getElem? (i := 1) rfl)) (fun _ h9 => h9) rfl dX2_ranks_93 ?_
          refine lv_iconst (v := nI 3) hx hb dX2_ranks_96 (by decide) ?_
          refine lv_iload hx hb dX2_ranks_97 (lv_at hl 1 rfl) ?_
          refine lv_iadd hx hb dX2_ranks_99 ?_
          refine lv_topi (fun z_3 ez_3 => ?_)
          obtain rfl : z_3 = nI (3 + (0 + 1 + 1)) := ez_3.trans (nI_add 3 (0 + 1 + 1))
          refine lv_iload hx hb dX2_ranks_100 (lv_at hl 2 rfl) ?_
          refine lv_if_ne (tgt := 109) hx hb dX2_ranks_102 (by decide) (fun c => absurd rfl c) (fun _ => ?_)
          refine lv_iconst (v := nI 0) hx hb dX2_ranks_105 (by decide) ?_
          refine lv_goto (tgt := 112) hx hb dX2_ranks_106 (by decide) ?_
          refine na_iast hx hb hK hP hD hS 8 0 rfl rfl (show 3 + (0 + 1 + 1) < 6 by omega) (by decide) dX2_ranks_112 (fun H locs hP hD hS => ?_)
          have hP : va_P (dC, dI) vwCl (mdW m0 aN aR aX aO aP aH aL aW cI cJ vn ct nm tp bt an rw nx og no rc nc hgh lws dh dl fT fB (upd (upd (upd (upd (upd (upd wd 0 r0) (3 + 0) (nI 0)) (0 + 1) r1) (3 + (0 + 1)) (nI 0)) (0 + 1 + 1) r2) (3 + (0 + 1 + 1)) (nI 0))) H := hP
          have hD : va_D A (mdW m0 aN aR aX aO aP aH aL aW cI cJ vn ct nm tp bt an rw nx og no rc nc hgh lws dh dl fT fB (upd (upd (upd (upd (upd (upd wd 0 r0) (3 + 0) (nI 0)) (0 + 1) r1) (3 + (0 + 1)) (nI 0)) (0 + 1 + 1) r2) (3 + (0 + 1 + 1)) (nI 0))) := hD
          refine lv_iinc (v := nI (0 + 1 + 1 + 1)) (lv' := [(6, .int (nI (0 + 1 + 1 + 1))), (7, .int r2), (5, .int (nI 0)), (0, .ref m0), (1, .int r0), (2, .int r1), (3, .int r2), (4, .int sv)]) hx hb dX2_ranks_113 hl (k := 1) rfl (nI_1 _) (by decide) rfl (fun ls hl => ?_)
          refine lv_goto (tgt := 55) hx hb dX2_ranks_116 (by decide) ?_
          refine lv_iload hx hb dX2_ranks_55 (lv_at hl 0 rfl) ?_
          refine lv_iconst (v := nI 3) hx hb dX2_ranks_57 (by decide) ?_
          refine lv_icmp_ge (tgt := 119) hx hb dX2_ranks_58 (by decide) (fun _ => ?_) (fun c => absurd (nI_le (by omega) (by omega)) c)
          have ew : (wrF wd r0 r1 r2 0 0 0) = (wdF wd r0 r1 r2 0 0 0) := wrF_wd _ _ _ _ _ _ _
          have hP : va_P (dC, dI) vwCl (mdW m0 aN aR aX aO aP aH aL aW cI cJ vn ct nm tp bt an rw nx og no rc nc hgh lws dh dl fT fB (wrF wd r0 r1 r2 0 0 0)) H := hP
          have hD : va_D A (mdW m0 aN aR aX aO aP aH aL aW cI cJ vn ct nm tp bt an rw nx og no rc nc hgh lws dh dl fT fB (wrF wd r0 r1 r2 0 0 0)) := hD
          rw [ew] at hP hD
          have hP : va_P (dC, dI) vwCl (mdW m0 aN aR aX aO aP aH aL aW cI cJ vn ct nm tp bt an rw nx og no rc nc hgh lws dh dl fT fB (wdF wd r0 r1 r2 0 0 0)) H := hP
          have hD : va_D A (mdW m0 aN aR aX aO aP aH aL aW cI cJ vn ct nm tp bt an rw nx og no rc nc hgh lws dh dl fT fB (wdF wd r0 r1 r2 0 0 0)) := hD
          have hG0 : okG (wdF wd r0 r1 r2 0 0 0) := okG_wd (fun y hy => by
            rcases hy with rfl | rfl | rfl | rfl | rfl | rfl
            · exact g0
            · exact g1
            · exact g2
            · exact by decide
            · exact by decide
            · exact by decide)
          refine lv_aload_n hx hb dX2_ranks_119 rfl (lv_at hl 3 rfl) ?_
          have hFc : ∀ q, va_A (mdW m0 aN aR aX aO aP aH aL aW cI cJ vn ct nm tp bt an rw nx og no rc nc hgh lws dh dl fT fB (wdF wd r0 r1 r2 0 0 0)) H.size q → A q := va_fall hD hS hA
          refine va_calli (va_runV (As := []) (rest := []) ⟨hx, hb, hml, hown, hts⟩ (c_X2_search l dC dI H.size m0 aN aR aX aO aP aH aL aW cI cJ vn ct nm tp bt an rw nx og no rc nc hgh lws dh dl fT fB (wdF wd r0 r1 r2 0 0 0) hv1 hv hc hN hG0) (cwV 0 hts gX2_ranks_X2_search rfl rfl rfl (by decide +kernel) ⟨Nat.le_of_ble_eq_true rfl, Nat.le_of_ble_eq_true rfl⟩) ⟨fun a U g mk q => by obtain ⟨q0, q1, qP, qK, qD⟩ := q; exact ⟨q0, q1, qP, va_K.moved (u := U) (U := U.calling g mk a) (Vm.Alike.refl U.vm) qK, qD⟩, va_recv hK hP (ci := 2) (q0 := 0) rfl rfl, fun U hU hW => ⟨rfl, by rw [hU], by rw [hU]; exact hP, va_K.moved hW.alike hK, hD.weaken (fun _ _ _ _ => trivial)⟩⟩ rfl rfl hl.1 rfl (lv_room (Nat.le_of_ble_eq_true rfl)) dX2_ranks_120 ⟨(Nat.zero_le _), (Nat.zero_le _)⟩) hS (fun q _ h => hFc q h) hFc (fun r_120 v9 t H1 locs ht hvm hw hB hz1 hk1 hS => ?_)
          obtain ⟨hP1, hK1, hD1⟩ := hB
          rw [ht] at hP1
          clear hP hD hK
          have hK := va_K.moved hvm.symm hK1
          have hP := hP1
          have hD := hD1.weaken (B := A) (fun _ q _ h => hFc q.1 h)
          clear hP1 hD1 hK1 hFc hk1 hz1 ht hvm
          generalize H1 = H at hP hS ⊢
          obtain ⟨r3, f3, o3, x3, p3, h4, l3, a3, b3, c3, t1, t2⟩ := v9
          have hP : va_P (dC, dI) vwCl (mdW m0 aN aR aX aO aP aH aL aW cI cJ vn ct nm tp bt an f3 x3 o3 p3 r3 c3 h4 l3 a3 b3 t1 t2 (wdF wd r0 r1 r2 0 0 0)) H := hP
          have hD : va_D A (mdW m0 aN aR aX aO aP aH aL aW cI cJ vn ct nm tp bt an f3 x3 o3 p3 r3 c3 h4 l3 a3 b3 t1 t2 (wdF wd r0 r1 r2 0 0 0)) := hD
          rcases hw with ⟨hr9, hw⟩ | ⟨hr9, hw⟩ | ⟨hr9, hnc, val, hopt, hval, hbp, -, hbb⟩
          · obtain rfl : r_120 = nI 0 := hr9
            refine lv_istore (lv' := [(6, .int (nI 0)), (7, .int r2), (5, .int (nI 0)), (0, .ref m0), (1, .int r0), (2, .int r1), (3, .int r2), (4, .int sv)]) hx hb dX2_ranks_123 hl (by decide) rfl (fun ls hl => ?_)
            refine lv_iload hx hb dX2_ranks_125 (lv_at hl 0 rfl) ?_
            refine lv_if_ne (tgt := 132) hx hb dX2_ranks_127 (by decide) (fun c => absurd rfl c) (fun _ => ?_)
            refine lv_iconst (v := nI 1) hx hb dX2_ranks_130 (by decide) ?_
            exact W.zret (v := (nI 1)) hx hb hr (by rfl) (fun t ht hW => ⟨⟨(nI 1), (r3, f3, o3, x3, p3, h4, l3, a3, b3, c3, t1, t2, wdF wd r0 r1 r2 0 0 0), rfl, Or.inr ⟨hok, Or.inl ⟨rfl, hw⟩⟩, by rw [ht]; exact hP, va_K.moved hW.alike hK, hD⟩, hS.F ht⟩) hS.2.2 dX2_ranks_131
          · obtain rfl : r_120 = nI 1 := hr9
            refine lv_istore (lv' := [(6, .int (nI 1)), (7, .int r2), (5, .int (nI 0)), (0, .ref m0), (1, .int r0), (2, .int r1), (3, .int r2), (4, .int sv)]) hx hb dX2_ranks_123 hl (by decide) rfl (fun ls hl => ?_)
            refine lv_iload hx hb dX2_ranks_125 (lv_at hl 0 rfl) ?_
            refine lv_if_ne (tgt := 132) hx hb dX2_ranks_127 (by decide) (fun _ => ?_) (fun c => absurd c (nI_ne0 (by omega) (by omega)))
            refine lv_iload hx hb dX2_ranks_132 (lv_at hl 2 rfl) ?_
            refine lv_if_ne (tgt := 144) hx hb dX2_ranks_134 (by decide) (fun c => absurd rfl c) (fun _ => ?_)
            refine lv_iload hx hb dX2_ranks_137 (lv_at hl 7 rfl) ?_
            refine lv_ineg hx hb dX2_ranks_139 ?_
            refine lv_i2l hx hb dX2_ranks_140 rfl ?_
            refine lv_goto (tgt := 145) hx hb dX2_ranks_141 (by decide) ?_
            refine lv_lstore (lv' := [(7, .long (Int32.toInt64 (-sv))), (6, .int (nI 1)), (5, .int (nI 0)), (0, .ref m0), (1, .int r0), (2, .int r1), (3, .int r2), (4, .int sv)]) hx hb dX2_ranks_145 hl (by decide) rfl (fun ls hl => ?_)
            refine lv_iload hx hb dX2_ranks_147 (lv_at hl 1 rfl) ?_
            refine lv_iconst (v := nI 1) hx hb dX2_ranks_149 (by decide) ?_
            refine lv_icmp_eq (tgt := 168) hx hb dX2_ranks_150 (by decide) (fun _ => ?_) (fun c => absurd rfl c)
            refine lv_iconst (v := nI 0) hx hb dX2_ranks_168 (by decide) ?_
            exact W.zret (v := (nI 0)) hx hb hr (by rfl) (fun t ht hW => ⟨⟨(nI 0), (r3, f3, o3, x3, p3, h4, l3, a3, b3, c3, t1, t2, wdF wd r0 r1 r2 0 0 0), rfl, Or.inr ⟨hok, Or.inr (Or.inl ⟨rfl, hw.1, hw.2⟩)⟩, by rw [ht]; exact hP, va_K.moved hW.alike hK, hD⟩, hS.F ht⟩) hS.2.2 dX2_ranks_169
          · obtain rfl : r_120 = nI 2 := hr9
            refine lv_istore (lv' := [(6, .int (nI 2)), (7, .int r2), (5, .int (nI 0)), (0, .ref m0), (1, .int r0), (2, .int r1), (3, .int r2), (4, .int sv)]) hx hb dX2_ranks_123 hl (by decide) rfl (fun ls hl => ?_)
            refine lv_iload hx hb dX2_ranks_125 (lv_at hl 0 rfl) ?_
            refine lv_if_ne (tgt := 132) hx hb dX2_ranks_127 (by decide) (fun _ => ?_) (fun c => absurd c (nI_ne0 (by omega) (by omega)))
            refine lv_iload hx hb dX2_ranks_132 (lv_at hl 2 rfl) ?_
            refine lv_if_ne (tgt := 144) hx hb dX2_ranks_134 (by decide) (fun c => absurd rfl c) (fun _ => ?_)
            refine lv_iload hx hb dX2_ranks_137 (lv_at hl 7 rfl) ?_
            refine lv_ineg hx hb dX2_ranks_139 ?_
            refine lv_i2l hx hb dX2_ranks_140 rfl ?_
            refine lv_goto (tgt := 145) hx hb dX2_ranks_141 (by decide) ?_
            refine lv_lstore (lv' := [(7, .long (Int32.toInt64 (-sv))), (6, .int (nI 2)), (5, .int (nI 0)), (0, .ref m0), (1, .int r0), (2, .int r1), (3, .int r2), (4, .int sv)]) hx hb dX2_ranks_145 hl (by decide) rfl (fun ls hl => ?_)
            refine lv_iload hx hb dX2_ranks_147 (lv_at hl 1 rfl) ?_
            refine lv_iconst (v := nI 1) hx hb dX2_ranks_149 (by decide) ?_
            refine lv_icmp_eq (tgt := 168) hx hb dX2_ranks_150 (by decide) (fun c => absurd (nI_inj (by omega) (by omega) c) (by omega)) (fun _ => ?_)
            refine lv_aload_n hx hb dX2_ranks_153 rfl (lv_at hl 3 rfl) ?_
            refine va_get (D := (dC, dI)) (ci := 2) (v := .long t1) (C := RX2) (T := TX2) (N := 19) hx hb hts (fun _ h => List.mem_cons_of_mem _ (List.mem_append_right _ h)) hown hK hP 0 rfl rfl 16 (by decide) (hts (.fieldLink RX2 123 "RankFinderModel" "foundTop" "J") (List.mem_of_getElem? (i := 2) rfl)) (fun _ h9 => h9) rfl dX2_ranks_154 ?_
            refine lv_lload hx hb dX2_ranks_157 (lv_at hl 0 rfl) ?_
            refine lv_aload_n hx hb dX2_ranks_159 rfl (lv_at hl 3 rfl) ?_
            refine va_get (D := (dC, dI)) (ci := 2) (v := .long t2) (C := RX2) (T := TX2) (N := 19) hx hb hts (fun _ h => List.mem_cons_of_mem _ (List.mem_append_right _ h)) hown hK hP 0 rfl rfl 17 (by decide) (hts (.fieldLink RX2 126 "RankFinderModel" "foundBottom" "J") (List.mem_of_getElem? (i := 3) rfl)) (fun _ h9 => h9) rfl dX2_ranks_160 ?_
            refine lv_lmul hx hb dX2_ranks_163 ?_
            refine W.lcmp hx hb dX2_ranks_164 ?_
            have hdu := due_lt (d := (-sv).toInt64) hval hbp hbb (by rw [Int32.toInt_toInt64, n3]; omega)
            rw [Int32.toInt_toInt64, n3, Rat.intCast_neg] at hdu
            refine lv_if_ge (tgt := 170) hx hb dX2_ranks_165 (by decide) (fun c7 => ?_) (fun c7 => ?_)
            · rw [lg_cmp_ge] at c7
              have hge : 0 ≤ val + (sv.toInt : Rat) := by
                have : ¬ val < -(sv.toInt : Rat) := fun q => Int64.not_lt.mpr c7 (hdu.mpr q)
                grind
              refine lv_iinc (v := nI (0 + 1)) (lv' := [(5, .int (nI (0 + 1))), (7, .long (Int32.toInt64 (-sv))), (6, .int (nI 2)), (0, .ref m0), (1, .int r0), (2, .int r1), (3, .int r2), (4, .int sv)]) hx hb dX2_ranks_170 hl (k := 2) rfl (nI_1 _) (by decide) rfl (fun ls hl => ?_)
              refine lv_goto (tgt := 46) hx hb dX2_ranks_173 (by decide) ?_
              refine lv_iload hx hb dX2_ranks_46 (lv_at hl 0 rfl) ?_
              refine lv_iconst (v := nI 2) hx hb dX2_ranks_48 (by decide) ?_
              refine lv_icmp_ge (tgt := 176) hx hb dX2_ranks_49 (by decide) (fun c => absurd c (nI_ge (by omega) (by omega))) (fun _ => ?_)
              refine lv_iconst (v := nI 0) hx hb dX2_ranks_52 (by decide) ?_
              refine lv_istore (lv' := [(6, .int (nI 0)), (5, .int (nI (0 + 1))), (7, .long (Int32.toInt64 (-sv))), (0, .ref m0), (1, .int r0), (2, .int r1), (3, .int r2), (4, .int sv)]) hx hb dX2_ranks_53 hl (by decide) rfl (fun ls hl => ?_)
              refine lv_iload hx hb dX2_ranks_55 (lv_at hl 0 rfl) ?_
              refine lv_iconst (v := nI 3) hx hb dX2_ranks_57 (by decide) ?_
              refine lv_icmp_ge (tgt := 119) hx hb dX2_ranks_58 (by decide) (fun c => absurd c (nI_ge (by omega) (by omega))) (fun _ => ?_)
              refine lv_iload hx hb dX2_ranks_61 (lv_at hl 0 rfl) ?_
              refine lv_if_ne (tgt := 70) hx hb dX2_ranks_63 (by decide) (fun c => absurd rfl c) (fun _ => ?_)
              refine lv_iload_n hx hb dX2_ranks_66 rfl (lv_at hl 4 rfl) ?_
              refine lv_goto (tgt := 81) hx hb dX2_ranks_67 (by decide) ?_
              refine lv_istore (lv' := [(7, .int r0), (6, .int (nI 0)), (5, .int (nI (0 + 1))), (0, .ref m0), (1, .int r0), (2, .int r1), (3, .int r2), (4, .int sv)]) hx hb dX2_ranks_81 hl (by decide) rfl (fun ls hl => ?_)
              refine lv_aload_n hx hb dX2_ranks_83 rfl (lv_at hl 3 rfl) ?_
              refine va_get (D := (dC, dI)) (ci := 2) (v := .ref aW) (C := RX2) (T := TX2) (N := 19) hx hb hts (fun _ h => List.mem_cons_of_mem _ (List.mem_append_right _ h)) hown hK hP 0 rfl rfl 18 (by decide) (hts (.fieldLink RX2 36 "RankFinderModel" "wanted" "[I") (List.mem_of_getElem? (i := 1) rfl)) (fun _ h9 => h9) rfl dX2_ranks_84 ?_
              refine lv_iload hx hb dX2_ranks_87 (lv_at hl 1 rfl) ?_
              refine lv_iload hx hb dX2_ranks_89 (lv_at hl 0 rfl) ?_
              refine na_iast hx hb hK hP hD hS 8 0 rfl rfl (show 0 < 6 by omega) (by decide) dX2_ranks_91 (fun H locs hP hD hS => ?_)
              have hP : va_P (dC, dI) vwCl (mdW m0 aN aR aX aO aP aH aL aW cI cJ vn ct nm tp bt an f3 x3 o3 p3 r3 c3 h4 l3 a3 b3 t1 t2 (upd (wdF wd r0 r1 r2 0 0 0) 0 r0)) H := hP
              have hD : va_D A (mdW m0 aN aR aX aO aP aH aL aW cI cJ vn ct nm tp bt an f3 x3 o3 p3 r3 c3 h4 l3 a3 b3 t1 t2 (upd (wdF wd r0 r1 r2 0 0 0) 0 r0)) := hD
              refine lv_aload_n hx hb dX2_ranks_92 rfl (lv_at hl 3 rfl) ?_
              refine va_get (D := (dC, dI)) (ci := 2) (v := .ref aW) (C := RX2) (T := TX2) (N := 19) hx hb hts (fun _ h => List.mem_cons_of_mem _ (List.mem_append_right _ h)) hown hK hP 0 rfl rfl 18 (by decide) (hts (.fieldLink RX2 36 "RankFinderModel" "wanted" "[I") (List.mem_of_getElem? (i := 1) rfl)) (fun _ h9 => h9) rfl dX2_ranks_93 ?_
              refine lv_iconst (v := nI 3) hx hb dX2_ranks_96 (by decide) ?_
              refine lv_iload hx hb dX2_ranks_97 (lv_at hl 1 rfl) ?_
              refine lv_iadd hx hb dX2_ranks_99 ?_
              refine lv_topi (fun z_4 ez_4 => ?_)
              obtain rfl : z_4 = nI (3 + 0) := ez_4.trans (nI_add 3 0)
              refine lv_iload hx hb dX2_ranks_100 (lv_at hl 2 rfl) ?_
              refine lv_if_ne (tgt := 109) hx hb dX2_ranks_102 (by decide) (fun _ => ?_) (fun c => absurd c (nI_ne0 (by omega) (by omega)))
              refine lv_iload hx hb dX2_ranks_109 (lv_at hl 0 rfl) ?_
              refine lv_ineg hx hb dX2_ranks_111 ?_
              refine na_iast hx hb hK hP hD hS 8 0 rfl rfl (show 3 + 0 < 6 by omega) (by decide) dX2_ranks_112 (fun H locs hP hD hS => ?_)
              have hP : va_P (dC, dI) vwCl (mdW m0 aN aR aX aO aP aH aL aW cI cJ vn ct nm tp bt an f3 x3 o3 p3 r3 c3 h4 l3 a3 b3 t1 t2 (upd (upd (wdF wd r0 r1 r2 0 0 0) 0 r0) (3 + 0) (-r0))) H := hP
              have hD : va_D A (mdW m0 aN aR aX aO aP aH aL aW cI cJ vn ct nm tp bt an f3 x3 o3 p3 r3 c3 h4 l3 a3 b3 t1 t2 (upd (upd (wdF wd r0 r1 r2 0 0 0) 0 r0) (3 + 0) (-r0))) := hD
              refine lv_iinc (v := nI (0 + 1)) (lv' := [(6, .int (nI (0 + 1))), (7, .int r0), (5, .int (nI (0 + 1))), (0, .ref m0), (1, .int r0), (2, .int r1), (3, .int r2), (4, .int sv)]) hx hb dX2_ranks_113 hl (k := 1) rfl (nI_1 _) (by decide) rfl (fun ls hl => ?_)
              refine lv_goto (tgt := 55) hx hb dX2_ranks_116 (by decide) ?_
              refine lv_iload hx hb dX2_ranks_55 (lv_at hl 0 rfl) ?_
              refine lv_iconst (v := nI 3) hx hb dX2_ranks_57 (by decide) ?_
              refine lv_icmp_ge (tgt := 119) hx hb dX2_ranks_58 (by decide) (fun c => absurd c (nI_ge (by omega) (by omega))) (fun _ => ?_)
              refine lv_iload hx hb dX2_ranks_61 (lv_at hl 0 rfl) ?_
              refine lv_if_ne (tgt := 70) hx hb dX2_ranks_63 (by decide) (fun _ => ?_) (fun c => absurd c (nI_ne0 (by omega) (by omega)))
              refine lv_iload hx hb dX2_ranks_70 (lv_at hl 0 rfl) ?_
              refine lv_iconst (v := nI 1) hx hb dX2_ranks_72 (by decide) ?_
              refine lv_icmp_ne (tgt := 80) hx hb dX2_ranks_73 (by decide) (fun c => absurd rfl c) (fun _ => ?_)
              refine lv_iload_n hx hb dX2_ranks_76 rfl (lv_at hl 5 rfl) ?_
              refine lv_goto (tgt := 81) hx hb dX2_ranks_77 (by decide) ?_
              refine lv_istore (lv' := [(7, .int r1), (6, .int (nI (0 + 1))), (5, .int (nI (0 + 1))), (0, .ref m0), (1, .int r0), (2, .int r1), (3, .int r2), (4, .int sv)]) hx hb dX2_ranks_81 hl (by decide) rfl (fun ls hl => ?_)
              refine lv_aload_n hx hb dX2_ranks_83 rfl (lv_at hl 3 rfl) ?_
              refine va_get (D := (dC, dI)) (ci := 2) (v := .ref aW) (C := RX2) (T := TX2) (N := 19) hx hb hts (fun _ h => List.mem_cons_of_mem _ (List.mem_append_right _ h)) hown hK hP 0 rfl rfl 18 (by decide) (hts (.fieldLink RX2 36 "RankFinderModel" "wanted" "[I") (List.mem_of_getElem? (i := 1) rfl)) (fun _ h9 => h9) rfl dX2_ranks_84 ?_
              refine lv_iload hx hb dX2_ranks_87 (lv_at hl 1 rfl) ?_
              refine lv_iload hx hb dX2_ranks_89 (lv_at hl 0 rfl) ?_
              refine na_iast hx hb hK hP hD hS 8 0 rfl rfl (show 0 + 1 < 6 by omega) (by decide) dX2_ranks_91 (fun H locs hP hD hS => ?_)
              have hP : va_P (dC, dI) vwCl (mdW m0 aN aR aX aO aP aH aL aW cI cJ vn ct nm tp bt an f3 x3 o3 p3 r3 c3 h4 l3 a3 b3 t1 t2 (upd (upd (upd (wdF wd r0 r1 r2 0 0 0) 0 r0) (3 + 0) (-r0)) (0 + 1) r1)) H := hP
              have hD : va_D A (mdW m0 aN aR aX aO aP aH aL aW cI cJ vn ct nm tp bt an f3 x3 o3 p3 r3 c3 h4 l3 a3 b3 t1 t2 (upd (upd (upd (wdF wd r0 r1 r2 0 0 0) 0 r0) (3 + 0) (-r0)) (0 + 1) r1)) := hD
              refine lv_aload_n hx hb dX2_ranks_92 rfl (lv_at hl 3 rfl) ?_
              refine va_get (D := (dC, dI)) (ci := 2) (v := .ref aW) (C := RX2) (T := TX2) (N := 19) hx hb hts (fun _ h => List.mem_cons_of_mem _ (List.mem_append_right _ h)) hown hK hP 0 rfl rfl 18 (by decide) (hts (.fieldLink RX2 36 "RankFinderModel" "wanted" "[I") (List.mem_of_getElem? (i := 1) rfl)) (fun _ h9 => h9) rfl dX2_ranks_93 ?_
              refine lv_iconst (v := nI 3) hx hb dX2_ranks_96 (by decide) ?_
              refine lv_iload hx hb dX2_ranks_97 (lv_at hl 1 rfl) ?_
              refine lv_iadd hx hb dX2_ranks_99 ?_
              refine lv_topi (fun z_5 ez_5 => ?_)
              obtain rfl : z_5 = nI (3 + (0 + 1)) := ez_5.trans (nI_add 3 (0 + 1))
              refine lv_iload hx hb dX2_ranks_100 (lv_at hl 2 rfl) ?_
              refine lv_if_ne (tgt := 109) hx hb dX2_ranks_102 (by decide) (fun _ => ?_) (fun c => absurd c (nI_ne0 (by omega) (by omega)))
              refine lv_iload hx hb dX2_ranks_109 (lv_at hl 0 rfl) ?_
              refine lv_ineg hx hb dX2_ranks_111 ?_
              refine na_iast hx hb hK hP hD hS 8 0 rfl rfl (show 3 + (0 + 1) < 6 by omega) (by decide) dX2_ranks_112 (fun H locs hP hD hS => ?_)
              have hP : va_P (dC, dI) vwCl (mdW m0 aN aR aX aO aP aH aL aW cI cJ vn ct nm tp bt an f3 x3 o3 p3 r3 c3 h4 l3 a3 b3 t1 t2 (upd (upd (upd (upd (wdF wd r0 r1 r2 0 0 0) 0 r0) (3 + 0) (-r0)) (0 + 1) r1) (3 + (0 + 1)) (-r1))) H := hP
              have hD : va_D A (mdW m0 aN aR aX aO aP aH aL aW cI cJ vn ct nm tp bt an f3 x3 o3 p3 r3 c3 h4 l3 a3 b3 t1 t2 (upd (upd (upd (upd (wdF wd r0 r1 r2 0 0 0) 0 r0) (3 + 0) (-r0)) (0 + 1) r1) (3 + (0 + 1)) (-r1))) := hD
              refine lv_iinc (v := nI (0 + 1 + 1)) (lv' := [(6, .int (nI (0 + 1 + 1))), (7, .int r1), (5, .int (nI (0 + 1))), (0, .ref m0), (1, .int r0), (2, .int r1), (3, .int r2), (4, .int sv)]) hx hb dX2_ranks_113 hl (k := 1) rfl (nI_1 _) (by decide) rfl (fun ls hl => ?_)
              refine lv_goto (tgt := 55) hx hb dX2_ranks_116 (by decide) ?_
              refine lv_iload hx hb dX2_ranks_55 (lv_at hl 0 rfl) ?_
              refine lv_iconst (v := nI 3) hx hb dX2_ranks_57 (by decide) ?_
              refine lv_icmp_ge (tgt := 119) hx hb dX2_ranks_58 (by decide) (fun c => absurd c (nI_ge (by omega) (by omega))) (fun _ => ?_)
              refine lv_iload hx hb dX2_ranks_61 (lv_at hl 0 rfl) ?_
              refine lv_if_ne (tgt := 70) hx hb dX2_ranks_63 (by decide) (fun _ => ?_) (fun c => absurd c (nI_ne0 (by omega) (by omega)))
              refine lv_iload hx hb dX2_ranks_70 (lv_at hl 0 rfl) ?_
              refine lv_iconst (v := nI 1) hx hb dX2_ranks_72 (by decide) ?_
              refine lv_icmp_ne (tgt := 80) hx hb dX2_ranks_73 (by decide) (fun _ => ?_) (fun c => absurd (nI_inj (by omega) (by omega) c) (by omega))
              refine lv_iload_n hx hb dX2_ranks_80 rfl (lv_at hl 6 rfl) ?_
              refine lv_istore (lv' := [(7, .int r2), (6, .int (nI (0 + 1 + 1))), (5, .int (nI (0 + 1))), (0, .ref m0), (1, .int r0), (2, .int r1), (3, .int r2), (4, .int sv)]) hx hb dX2_ranks_81 hl (by decide) rfl (fun ls hl => ?_)
              refine lv_aload_n hx hb dX2_ranks_83 rfl (lv_at hl 3 rfl) ?_
              refine va_get (D := (dC, dI)) (ci := 2) (v := .ref aW) (C := RX2) (T := TX2) (N := 19) hx hb hts (fun _ h => List.mem_cons_of_mem _ (List.mem_append_right _ h)) hown hK hP 0 rfl rfl 18 (by decide) (hts (.fieldLink RX2 36 "RankFinderModel" "wanted" "[I") (List.mem_of_getElem? (i := 1) rfl)) (fun _ h9 => h9) rfl dX2_ranks_84 ?_
              refine lv_iload hx hb dX2_ranks_87 (lv_at hl 1 rfl) ?_
              refine lv_iload hx hb dX2_ranks_89 (lv_at hl 0 rfl) ?_
              refine na_iast hx hb hK hP hD hS 8 0 rfl rfl (show 0 + 1 + 1 < 6 by omega) (by decide) dX2_ranks_91 (fun H locs hP hD hS => ?_)
              have hP : va_P (dC, dI) vwCl (mdW m0 aN aR aX aO aP aH aL aW cI cJ vn ct nm tp bt an f3 x3 o3 p3 r3 c3 h4 l3 a3 b3 t1 t2 (upd (upd (upd (upd (upd (wdF wd r0 r1 r2 0 0 0) 0 r0) (3 + 0) (-r0)) (0 + 1) r1) (3 + (0 + 1)) (-r1)) (0 + 1 + 1) r2)) H := hP
              have hD : va_D A (mdW m0 aN aR aX aO aP aH aL aW cI cJ vn ct nm tp bt an f3 x3 o3 p3 r3 c3 h4 l3 a3 b3 t1 t2 (upd (upd (upd (upd (upd (wdF wd r0 r1 r2 0 0 0) 0 r0) (3 + 0) (-r0)) (0 + 1) r1) (3 + (0 + 1)) (-r1)) (0 + 1 + 1) r2)) := hD
              refine lv_aload_n hx hb dX2_ranks_92 rfl (lv_at hl 3 rfl) ?_
              refine va_get (D := (dC, dI)) (ci := 2) (v := .ref aW) (C := RX2) (T := TX2) (N := 19) hx hb hts (fun _ h => List.mem_cons_of_mem _ (List.mem_append_right _ h)) hown hK hP 0 rfl rfl 18 (by decide) (hts (.fieldLink RX2 36 "RankFinderModel" "wanted" "[I") (List.mem_of_getElem? (i := 1) rfl)) (fun _ h9 => h9) rfl dX2_ranks_93 ?_
              refine lv_iconst (v := nI 3) hx hb dX2_ranks_96 (by decide) ?_
              refine lv_iload hx hb dX2_ranks_97 (lv_at hl 1 rfl) ?_
              refine lv_iadd hx hb dX2_ranks_99 ?_
              refine lv_topi (fun z_6 ez_6 => ?_)
              obtain rfl : z_6 = nI (3 + (0 + 1 + 1)) := ez_6.trans (nI_add 3 (0 + 1 + 1))
              refine lv_iload hx hb dX2_ranks_100 (lv_at hl 2 rfl) ?_
              refine lv_if_ne (tgt := 109) hx hb dX2_ranks_102 (by decide) (fun _ => ?_) (fun c => absurd c (nI_ne0 (by omega) (by omega)))
              refine lv_iload hx hb dX2_ranks_109 (lv_at hl 0 rfl) ?_
              refine lv_ineg hx hb dX2_ranks_111 ?_
              refine na_iast hx hb hK hP hD hS 8 0 rfl rfl (show 3 + (0 + 1 + 1) < 6 by omega) (by decide) dX2_ranks_112 (fun H locs hP hD hS => ?_)
              have hP : va_P (dC, dI) vwCl (mdW m0 aN aR aX aO aP aH aL aW cI cJ vn ct nm tp bt an f3 x3 o3 p3 r3 c3 h4 l3 a3 b3 t1 t2 (upd (upd (upd (upd (upd (upd (wdF wd r0 r1 r2 0 0 0) 0 r0) (3 + 0) (-r0)) (0 + 1) r1) (3 + (0 + 1)) (-r1)) (0 + 1 + 1) r2) (3 + (0 + 1 + 1)) (-r2))) H := hP
              have hD : va_D A (mdW m0 aN aR aX aO aP aH aL aW cI cJ vn ct nm tp bt an f3 x3 o3 p3 r3 c3 h4 l3 a3 b3 t1 t2 (upd (upd (upd (upd (upd (upd (wdF wd r0 r1 r2 0 0 0) 0 r0) (3 + 0) (-r0)) (0 + 1) r1) (3 + (0 + 1)) (-r1)) (0 + 1 + 1) r2) (3 + (0 + 1 + 1)) (-r2))) := hD
              refine lv_iinc (v := nI (0 + 1 + 1 + 1)) (lv' := [(6, .int (nI (0 + 1 + 1 + 1))), (7, .int r2), (5, .int (nI (0 + 1))), (0, .ref m0), (1, .int r0), (2, .int r1), (3, .int r2), (4, .int sv)]) hx hb dX2_ranks_113 hl (k := 1) rfl (nI_1 _) (by decide) rfl (fun ls hl => ?_)
              refine lv_goto (tgt := 55) hx hb dX2_ranks_116 (by decide) ?_
              refine lv_iload hx hb dX2_ranks_55 (lv_at hl 0 rfl) ?_
              refine lv_iconst (v := nI 3) hx hb dX2_ranks_57 (by decide) ?_
              refine lv_icmp_ge (tgt := 119) hx hb dX2_ranks_58 (by decide) (fun _ => ?_) (fun c => absurd (nI_le (by omega) (by omega)) c)
              have ew : (wrF (wdF wd r0 r1 r2 0 0 0) r0 r1 r2 (-r0) (-r1) (-r2)) = (wdF (wdF wd r0 r1 r2 0 0 0) r0 r1 r2 (-r0) (-r1) (-r2)) := wrF_wd _ _ _ _ _ _ _
              have hP : va_P (dC, dI) vwCl (mdW m0 aN aR aX aO aP aH aL aW cI cJ vn ct nm tp bt an f3 x3 o3 p3 r3 c3 h4 l3 a3 b3 t1 t2 (wrF (wdF wd r0 r1 r2 0 0 0) r0 r1 r2 (-r0) (-r1) (-r2))) H := hP
              have hD : va_D A (mdW m0 aN aR aX aO aP aH aL aW cI cJ vn ct nm tp bt an f3 x3 o3 p3 r3 c3 h4 l3 a3 b3 t1 t2 (wrF (wdF wd r0 r1 r2 0 0 0) r0 r1 r2 (-r0) (-r1) (-r2))) := hD
              rw [ew] at hP hD
              have hP : va_P (dC, dI) vwCl (mdW m0 aN aR aX aO aP aH aL aW cI cJ vn ct nm tp bt an f3 x3 o3 p3 r3 c3 h4 l3 a3 b3 t1 t2 (wdF (wdF wd r0 r1 r2 0 0 0) r0 r1 r2 (-r0) (-r1) (-r2))) H := hP
              have hD : va_D A (mdW m0 aN aR aX aO aP aH aL aW cI cJ vn ct nm tp bt an f3 x3 o3 p3 r3 c3 h4 l3 a3 b3 t1 t2 (wdF (wdF wd r0 r1 r2 0 0 0) r0 r1 r2 (-r0) (-r1) (-r2))) := hD
              have hG1 : okG (wdF (wdF wd r0 r1 r2 0 0 0) r0 r1 r2 (-r0) (-r1) (-r2)) := okG_wd (fun y hy => by
                rcases hy with rfl | rfl | rfl | rfl | rfl | rfl
                · exact g0
                · exact g1
                · exact g2
                · rw [n0]; omega
                · rw [n1]; omega
                · rw [n2]; omega)
              refine lv_aload_n hx hb dX2_ranks_119 rfl (lv_at hl 3 rfl) ?_
              have hFc : ∀ q, va_A (mdW m0 aN aR aX aO aP aH aL aW cI cJ vn ct nm tp bt an f3 x3 o3 p3 r3 c3 h4 l3 a3 b3 t1 t2 (wdF (wdF wd r0 r1 r2 0 0 0) r0 r1 r2 (-r0) (-r1) (-r2))) H.size q → A q := va_fall hD hS hA
              refine va_calli (va_runV (As := []) (rest := []) ⟨hx, hb, hml, hown, hts⟩ (c_X2_search l dC dI H.size m0 aN aR aX aO aP aH aL aW cI cJ vn ct nm tp bt an f3 x3 o3 p3 r3 c3 h4 l3 a3 b3 t1 t2 (wdF (wdF wd r0 r1 r2 0 0 0) r0 r1 r2 (-r0) (-r1) (-r2)) hv1 hv hc hN hG1) (cwV 0 hts gX2_ranks_X2_search rfl rfl rfl (by decide +kernel) ⟨Nat.le_of_ble_eq_true rfl, Nat.le_of_ble_eq_true rfl⟩) ⟨fun a U g mk q => by obtain ⟨q0, q1, qP, qK, qD⟩ := q; exact ⟨q0, q1, qP, va_K.moved (u := U) (U := U.calling g mk a) (Vm.Alike.refl U.vm) qK, qD⟩, va_recv hK hP (ci := 2) (q0 := 0) rfl rfl, fun U hU hW => ⟨rfl, by rw [hU], by rw [hU]; exact hP, va_K.moved hW.alike hK, hD.weaken (fun _ _ _ _ => trivial)⟩⟩ rfl rfl hl.1 rfl (lv_room (Nat.le_of_ble_eq_true rfl)) dX2_ranks_120 ⟨(Nat.zero_le _), (Nat.zero_le _)⟩) hS (fun q _ h => hFc q h) hFc (fun r_120 v9 t H1 locs ht hvm hw hB hz1 hk1 hS => ?_)
              obtain ⟨hP1, hK1, hD1⟩ := hB
              rw [ht] at hP1
              clear hP hD hK
              have hK := va_K.moved hvm.symm hK1
              have hP := hP1
              have hD := hD1.weaken (B := A) (fun _ q _ h => hFc q.1 h)
              clear hP1 hD1 hK1 hFc hk1 hz1 ht hvm
              generalize H1 = H at hP hS ⊢
              obtain ⟨r4, f4, o4, x4, p4, h5, l4, a4, b4, c4, s1, s2⟩ := v9
              have hP : va_P (dC, dI) vwCl (mdW m0 aN aR aX aO aP aH aL aW cI cJ vn ct nm tp bt an f4 x4 o4 p4 r4 c4 h5 l4 a4 b4 s1 s2 (wdF (wdF wd r0 r1 r2 0 0 0) r0 r1 r2 (-r0) (-r1) (-r2))) H := hP
              have hD : va_D A (mdW m0 aN aR aX aO aP aH aL aW cI cJ vn ct nm tp bt an f4 x4 o4 p4 r4 c4 h5 l4 a4 b4 s1 s2 (wdF (wdF wd r0 r1 r2 0 0 0) r0 r1 r2 (-r0) (-r1) (-r2))) := hD
              rcases hw with ⟨hr9, hw⟩ | ⟨hr9, hw⟩ | ⟨hr9, hnc2, val2, hopt2, hval2, hbp2, -, hbb2⟩
              · obtain rfl : r_120 = nI 0 := hr9
                refine lv_istore (lv' := [(6, .int (nI 0)), (7, .int r2), (5, .int (nI (0 + 1))), (0, .ref m0), (1, .int r0), (2, .int r1), (3, .int r2), (4, .int sv)]) hx hb dX2_ranks_123 hl (by decide) rfl (fun ls hl => ?_)
                refine lv_iload hx hb dX2_ranks_125 (lv_at hl 0 rfl) ?_
                refine lv_if_ne (tgt := 132) hx hb dX2_ranks_127 (by decide) (fun c => absurd rfl c) (fun _ => ?_)
                refine lv_iconst (v := nI 1) hx hb dX2_ranks_130 (by decide) ?_
                exact W.zret (v := (nI 1)) hx hb hr (by rfl) (fun t ht hW => ⟨⟨(nI 1), (r4, f4, o4, x4, p4, h5, l4, a4, b4, c4, s1, s2, wdF (wdF wd r0 r1 r2 0 0 0) r0 r1 r2 (-r0) (-r1) (-r2)), rfl, Or.inr ⟨hok, Or.inr (Or.inr ⟨hnc, val, hopt, Or.inr ⟨hge, Or.inl ⟨rfl, hw⟩⟩⟩)⟩, by rw [ht]; exact hP, va_K.moved hW.alike hK, hD⟩, hS.F ht⟩) hS.2.2 dX2_ranks_131
              · obtain rfl : r_120 = nI 1 := hr9
                refine lv_istore (lv' := [(6, .int (nI 1)), (7, .int r2), (5, .int (nI (0 + 1))), (0, .ref m0), (1, .int r0), (2, .int r1), (3, .int r2), (4, .int sv)]) hx hb dX2_ranks_123 hl (by decide) rfl (fun ls hl => ?_)
                refine lv_iload hx hb dX2_ranks_125 (lv_at hl 0 rfl) ?_
                refine lv_if_ne (tgt := 132) hx hb dX2_ranks_127 (by decide) (fun _ => ?_) (fun c => absurd c (nI_ne0 (by omega) (by omega)))
                refine lv_iload hx hb dX2_ranks_132 (lv_at hl 2 rfl) ?_
                refine lv_if_ne (tgt := 144) hx hb dX2_ranks_134 (by decide) (fun _ => ?_) (fun c => absurd c (nI_ne0 (by omega) (by omega)))
                refine lv_lconst (v := 1) hx hb dX2_ranks_144 (by decide) ?_
                refine lv_lstore (lv' := [(7, .long 1), (6, .int (nI 1)), (5, .int (nI (0 + 1))), (0, .ref m0), (1, .int r0), (2, .int r1), (3, .int r2), (4, .int sv)]) hx hb dX2_ranks_145 hl (by decide) rfl (fun ls hl => ?_)
                refine lv_iload hx hb dX2_ranks_147 (lv_at hl 1 rfl) ?_
                refine lv_iconst (v := nI 1) hx hb dX2_ranks_149 (by decide) ?_
                refine lv_icmp_eq (tgt := 168) hx hb dX2_ranks_150 (by decide) (fun _ => ?_) (fun c => absurd rfl c)
                refine lv_iconst (v := nI 0) hx hb dX2_ranks_168 (by decide) ?_
                exact W.zret (v := (nI 0)) hx hb hr (by rfl) (fun t ht hW => ⟨⟨(nI 0), (r4, f4, o4, x4, p4, h5, l4, a4, b4, c4, s1, s2, wdF (wdF wd r0 r1 r2 0 0 0) r0 r1 r2 (-r0) (-r1) (-r2)), rfl, Or.inr ⟨hok, Or.inr (Or.inr ⟨hnc, val, hopt, Or.inr ⟨hge, Or.inr (Or.inl ⟨rfl, hw.2⟩)⟩⟩)⟩, by rw [ht]; exact hP, va_K.moved hW.alike hK, hD⟩, hS.F ht⟩) hS.2.2 dX2_ranks_169
              · obtain rfl : r_120 = nI 2 := hr9
                refine lv_istore (lv' := [(6, .int (nI 2)), (7, .int r2), (5, .int (nI (0 + 1))), (0, .ref m0), (1, .int r0), (2, .int r1), (3, .int r2), (4, .int sv)]) hx hb dX2_ranks_123 hl (by decide) rfl (fun ls hl => ?_)
                refine lv_iload hx hb dX2_ranks_125 (lv_at hl 0 rfl) ?_
                refine lv_if_ne (tgt := 132) hx hb dX2_ranks_127 (by decide) (fun _ => ?_) (fun c => absurd c (nI_ne0 (by omega) (by omega)))
                refine lv_iload hx hb dX2_ranks_132 (lv_at hl 2 rfl) ?_
                refine lv_if_ne (tgt := 144) hx hb dX2_ranks_134 (by decide) (fun _ => ?_) (fun c => absurd c (nI_ne0 (by omega) (by omega)))
                refine lv_lconst (v := 1) hx hb dX2_ranks_144 (by decide) ?_
                refine lv_lstore (lv' := [(7, .long 1), (6, .int (nI 2)), (5, .int (nI (0 + 1))), (0, .ref m0), (1, .int r0), (2, .int r1), (3, .int r2), (4, .int sv)]) hx hb dX2_ranks_145 hl (by decide) rfl (fun ls hl => ?_)
                refine lv_iload hx hb dX2_ranks_147 (lv_at hl 1 rfl) ?_
                refine lv_iconst (v := nI 1) hx hb dX2_ranks_149 (by decide) ?_
                refine lv_icmp_eq (tgt := 168) hx hb dX2_ranks_150 (by decide) (fun c => absurd (nI_inj (by omega) (by omega) c) (by omega)) (fun _ => ?_)
                refine lv_aload_n hx hb dX2_ranks_153 rfl (lv_at hl 3 rfl) ?_
                refine va_get (D := (dC, dI)) (ci := 2) (v := .long s1) (C := RX2) (T := TX2) (N := 19) hx hb hts (fun _ h => List.mem_cons_of_mem _ (List.mem_append_right _ h)) hown hK hP 0 rfl rfl 16 (by decide) (hts (.fieldLink RX2 123 "RankFinderModel" "foundTop" "J") (List.mem_of_getElem? (i := 2) rfl)) (fun _ h9 => h9) rfl dX2_ranks_154 ?_
                refine lv_lload hx hb dX2_ranks_157 (lv_at hl 0 rfl) ?_
                refine lv_aload_n hx hb dX2_ranks_159 rfl (lv_at hl 3 rfl) ?_
                refine va_get (D := (dC, dI)) (ci := 2) (v := .long s2) (C := RX2) (T := TX2) (N := 19) hx hb hts (fun _ h => List.mem_cons_of_mem _ (List.mem_append_right _ h)) hown hK hP 0 rfl rfl 17 (by decide) (hts (.fieldLink RX2 126 "RankFinderModel" "foundBottom" "J") (List.mem_of_getElem? (i := 3) rfl)) (fun _ h9 => h9) rfl dX2_ranks_160 ?_
                refine lv_lmul hx hb dX2_ranks_163 ?_
                refine W.lcmp hx hb dX2_ranks_164 ?_
                have hdu2 := due_lt (d := 1) hval2 hbp2 hbb2 (by decide)
                rw [show (((1 : Int64).toInt : Int) : Rat) = 1 from rfl] at hdu2
                refine lv_if_ge (tgt := 170) hx hb dX2_ranks_165 (by decide) (fun c8 => ?_) (fun c8 => ?_)
                · rw [lg_cmp_ge] at c8
                  have hge2 : 1 ≤ val2 := by
                    have : ¬ val2 < 1 := fun q => Int64.not_lt.mpr c8 (hdu2.mpr q)
                    grind
                  refine lv_iinc (v := nI (0 + 1 + 1)) (lv' := [(5, .int (nI (0 + 1 + 1))), (7, .long 1), (6, .int (nI 2)), (0, .ref m0), (1, .int r0), (2, .int r1), (3, .int r2), (4, .int sv)]) hx hb dX2_ranks_170 hl (k := 2) rfl (nI_1 _) (by decide) rfl (fun ls hl => ?_)
                  refine lv_goto (tgt := 46) hx hb dX2_ranks_173 (by decide) ?_
                  refine lv_iload hx hb dX2_ranks_46 (lv_at hl 0 rfl) ?_
                  refine lv_iconst (v := nI 2) hx hb dX2_ranks_48 (by decide) ?_
                  refine lv_icmp_ge (tgt := 176) hx hb dX2_ranks_49 (by decide) (fun _ => ?_) (fun c => absurd (nI_le (by omega) (by omega)) c)
                  refine lv_iconst (v := nI 1) hx hb dX2_ranks_176 (by decide) ?_
                  exact W.zret (v := (nI 1)) hx hb hr (by rfl) (fun t ht hW => ⟨⟨(nI 1), (r4, f4, o4, x4, p4, h5, l4, a4, b4, c4, s1, s2, wdF (wdF wd r0 r1 r2 0 0 0) r0 r1 r2 (-r0) (-r1) (-r2)), rfl, Or.inr ⟨hok, Or.inr (Or.inr ⟨hnc, val, hopt, Or.inr ⟨hge, Or.inr (Or.inr ⟨val2, hopt2, Or.inr ⟨rfl, hge2⟩⟩)⟩⟩)⟩, by rw [ht]; exact hP, va_K.moved hW.alike hK, hD⟩, hS.F ht⟩) hS.2.2 dX2_ranks_177
                · rw [lg_cmp_ge] at c8
                  refine lv_iconst (v := nI 0) hx hb dX2_ranks_168 (by decide) ?_
                  exact W.zret (v := (nI 0)) hx hb hr (by rfl) (fun t ht hW => ⟨⟨(nI 0), (r4, f4, o4, x4, p4, h5, l4, a4, b4, c4, s1, s2, wdF (wdF wd r0 r1 r2 0 0 0) r0 r1 r2 (-r0) (-r1) (-r2)), rfl, Or.inr ⟨hok, Or.inr (Or.inr ⟨hnc, val, hopt, Or.inr ⟨hge, Or.inr (Or.inr ⟨val2, hopt2, Or.inl ⟨rfl, hdu2.mp (Int64.not_le.mp c8)⟩⟩)⟩⟩)⟩, by rw [ht]; exact hP, va_K.moved hW.alike hK, hD⟩, hS.F ht⟩) hS.2.2 dX2_ranks_169
            · rw [lg_cmp_ge] at c7
              refine lv_iconst (v := nI 0) hx hb dX2_ranks_168 (by decide) ?_
              exact W.zret (v := (nI 0)) hx hb hr (by rfl) (fun t ht hW => ⟨⟨(nI 0), (r3, f3, o3, x3, p3, h4, l3, a3, b3, c3, t1, t2, wdF wd r0 r1 r2 0 0 0), rfl, Or.inr ⟨hok, Or.inr (Or.inr ⟨hnc, val, hopt, Or.inl ⟨rfl, by have := hdu.mp (Int64.not_le.mp c7); grind⟩⟩)⟩, by rw [ht]; exact hP, va_K.moved hW.alike hK, hD⟩, hS.F ht⟩) hS.2.2 dX2_ranks_169
        · refine lv_if_ne (tgt := 43) hx hb dX2_ranks_38 (by decide) (fun c => absurd rfl c) (fun _ => ?_)
          refine lv_iconst (v := nI 0) hx hb dX2_ranks_41 (by decide) ?_
          exact W.zret (v := (nI 0)) hx hb hr (by rfl) (fun t ht hW => ⟨⟨(nI 0), (rc, rw, og, nx, no, hgh, lws, dh, dl, nc, fT, fB, wd), rfl, Or.inl ⟨rfl, fun q => h3 q.2⟩, by rw [ht]; exact hP, va_K.moved hW.alike hK, hD⟩, hS.F ht⟩) hS.2.2 dX2_ranks_42
      · refine lv_if_eq (tgt := 41) hx hb dX2_ranks_27 (by decide) (fun _ => ?_) (fun c => absurd rfl c)
        refine lv_iconst (v := nI 0) hx hb dX2_ranks_41 (by decide) ?_
        exact W.zret (v := (nI 0)) hx hb hr (by rfl) (fun t ht hW => ⟨⟨(nI 0), (rc, rw, og, nx, no, hgh, lws, dh, dl, nc, fT, fB, wd), rfl, Or.inl ⟨rfl, fun q => h2 q.1.2.2⟩, by rw [ht]; exact hP, va_K.moved hW.alike hK, hD⟩, hS.F ht⟩) hS.2.2 dX2_ranks_42
    · refine lv_if_eq (tgt := 41) hx hb dX2_ranks_17 (by decide) (fun _ => ?_) (fun c => absurd rfl c)
      refine lv_iconst (v := nI 0) hx hb dX2_ranks_41 (by decide) ?_
      exact W.zret (v := (nI 0)) hx hb hr (by rfl) (fun t ht hW => ⟨⟨(nI 0), (rc, rw, og, nx, no, hgh, lws, dh, dl, nc, fT, fB, wd), rfl, Or.inl ⟨rfl, fun q => h1 q.1.2.1⟩, by rw [ht]; exact hP, va_K.moved hW.alike hK, hD⟩, hS.F ht⟩) hS.2.2 dX2_ranks_42
  · refine lv_if_eq (tgt := 41) hx hb dX2_ranks_7 (by decide) (fun _ => ?_) (fun c => absurd rfl c)
    refine lv_iconst (v := nI 0) hx hb dX2_ranks_41 (by decide) ?_
    exact W.zret (v := (nI 0)) hx hb hr (by rfl) (fun t ht hW => ⟨⟨(nI 0), (rc, rw, og, nx, no, hgh, lws, dh, dl, nc, fT, fB, wd), rfl, Or.inl ⟨rfl, fun q => h0 q.1.1⟩, by rw [ht]; exact hP, va_K.moved hW.alike hK, hD⟩, hS.F ht⟩) hS.2.2 dX2_ranks_42
