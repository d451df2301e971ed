/-! ===== the reference: eliminate ===== -/
def cpF {α : Type} (f g : Nat → α) (k : Nat) : Nat → α := fun i => if i < k then f i else g i
theorem cpF_0 {α : Type} (f g : Nat → α) : cpF f g 0 = g := by funext i; unfold cpF; rw [if_neg (by omega)]
theorem cpF_sL (f g : Nat → Int64) (k : Nat) : vp_updL (cpF f g k) k (f k) = cpF f g (k + 1) := by
  funext i; unfold vp_updL cpF
  by_cases e : i = k
  · subst e; rw [if_pos rfl, if_pos (by omega)]
  · rw [if_neg e]
    by_cases q : i < k
    · rw [if_pos q, if_pos (by omega)]
    · rw [if_neg q, if_neg (by omega)]
theorem cpF_sI (f g : Nat → Int32) (k : Nat) : upd (cpF f g k) k (f k) = cpF f g (k + 1) := by
  funext i; unfold upd cpF
  by_cases e : i = k
  · subst e; rw [if_pos rfl, if_pos (by omega)]
  · rw [if_neg e]
    by_cases q : i < k
    · rw [if_pos q, if_pos (by omega)]
    · rw [if_neg q, if_neg (by omega)]
theorem RI_cp {n : Nat} {M : Nat → Nat → Int} {t q : Nat} {f g : Nat → Int64} {o p : Nat → Int32} (h : RI n M t q f o) : RI n M t q (cpF f g (11 * q)) (cpF o p q) := by
  obtain ⟨W, h1, h2⟩ := h
  exact ⟨W, h1, fun r hr => RR_cg (h2 r hr) (fun j hj => by unfold cpF; rw [if_pos (by omega)]) (by unfold cpF; rw [if_pos hr])⟩
theorem tri9 (x : Int64) : x = 0 ∨ 0 < x ∨ x < 0 := by
  have e : ∀ x y : Int64, x.toInt = y.toInt → x = y := fun x y h => Int64.toInt_inj.mp h
  have z : (0 : Int64).toInt = 0 := rfl
  rcases (by omega : x.toInt = 0 ∨ 0 < x.toInt ∨ x.toInt < 0) with q | q | q
  · exact Or.inl (e _ _ q)
  · exact Or.inr (Or.inl (Int64.lt_iff_toInt_lt.mpr (by omega)))
  · exact Or.inr (Or.inr (Int64.lt_iff_toInt_lt.mpr (by omega)))
theorem pair_sup {n t : Nat} {M : Nat → Nat → Int} {c : Nat} {W : Nat → Nat → Rat} (hD : DD n (clm M) t c W) {rw : Nat → Int64} {og : Nat → Int32} (hR : ∀ r, r < c → RR n M (W r) rw r (og r)) {a b : Nat} (ha : a < c) (hb : b < c) (hva : 0 < va n (clm M) t (W a)) (hvb : va n (clm M) t (W b) < 0) :
    mkO n (fun k => 1 * ((-va n (clm M) t (W b)) * W a k + va n (clm M) t (W a) * W b k)) (og a ||| og b) := by
  have hq : 0 < -va n (clm M) t (W b) := by grind
  refine mkO_or (hR a ha).2.2 (hR b hb).2.2 fun k hk => ?_
  have p1 := (hD.1 a ha).1.1 k hk
  have p2 := (hD.1 b hb).1.1 k hk
  have m1 := Rat.mul_nonneg (Rat.le_of_lt hq) p1
  have m2 := Rat.mul_nonneg (Rat.le_of_lt hva) p2
  constructor
  · intro q
    apply Classical.byContradiction
    intro q2
    have z1 : W a k = 0 := by have : ¬ 0 < W a k := fun e => q2 (Or.inl e)
                              grind
    have z2 : W b k = 0 := by have : ¬ 0 < W b k := fun e => q2 (Or.inr e)
                              grind
    have q : 0 < 1 * ((-va n (clm M) t (W b)) * W a k + va n (clm M) t (W a) * W b k) := q
    rw [z1, z2] at q
    grind
  · intro q
    refine Rat.mul_pos (by decide) ?_
    rcases q with q | q
    · have := Rat.mul_pos hq q; grind
    · have := Rat.mul_pos hva q; grind
theorem EI_carry {n : Nat} {M : Nat → Nat → Int} {t c : Nat} {W : Nat → Nat → Rat} {nc : Nat} {rw nx : Nat → Int64} {og no : Nat → Int32} {a : Nat} (h : EI n M t c W nc nx no (fun x _ => x < a)) (hR : ∀ r, r < c → RR n M (W r) rw r (og r)) (ha : a < c) (hv : va n (clm M) t (W a) = 0) : EI n M t c W (nc + 1) (caF rw nx a nc 11) (upd no nc (og a)) (fun x _ => x < a + 1) := by
  refine EI_S (EI_add h (x := a) (y := a) (by omega) (w := W a) (Or.inl ⟨rfl, ha, hv, fun _ _ => rfl⟩) ?_ (fun i hi => by unfold caF; rw [if_neg (by omega)]) (fun i hi => by unfold upd; rw [if_neg (by omega)])) (fun x y q => by omega) (fun x y q g => ?_)
  · obtain ⟨h1, h2, h3⟩ := hR a ha
    have e : ∀ j, j < 11 → caF rw nx a nc 11 (11 * nc + j) = rw (11 * a + j) := fun j hj => by unfold caF; rw [if_pos (by omega)]; congr 1; omega
    refine ⟨fun j hj => by rw [e j hj]; exact h1 j hj, fun j hj => by rw [e j hj]; exact h2 j hj, ?_⟩
    have : upd no nc (og a) nc = og a := pk_us
    rw [this]; exact h3
  · by_cases e : x = a
    · subst e
      rcases g with ⟨g1, _⟩ | ⟨_, _, g3, _⟩
      · exact Or.inr ⟨rfl, g1.symm⟩
      · rw [hv] at g3; grind
    · exact Or.inl (by omega)
theorem EI_pair {n : Nat} {M : Nat → Nat → Int} (hM : okM n M) {t c : Nat} (ht : t < 9) {W : Nat → Nat → Rat} {nc : Nat} {rw nx f : Nat → Int64} {og no : Nat → Int32} {a b : Nat} (h : EI n M t c W nc nx no (fun x y => x < a ∨ (x = a ∧ y < b))) (hD : DD n (clm M) t c W) (hR : ∀ r, r < c → RR n M (W r) rw r (og r)) (ha : a < c) (hb : b < c) (hva : 0 < va n (clm M) t (W a)) (hvb : va n (clm M) t (W b) < 0) (hB : Bes n c W a b)
    (ho : outR f nx nc) (hf : ∀ j, j < 11 → cbF f nc (gcdN (cbE rw a b t) 11) (cbE rw a b t) j) : EI n M t c W (nc + 1) f (upd no nc (og a ||| og b)) (fun x y => x < a ∨ (x = a ∧ y < b + 1)) := by
  obtain ⟨s, hs, hr⟩ := pair_row hM ht hD hR ha hb hva hvb hB hf
  refine EI_S (EI_add h (x := a) (y := b) (by omega) (Or.inr ⟨ha, hb, hva, hvb, hB, s, hs, fun _ _ => rfl⟩) ?_ (fun i hi => ho i (Or.inl hi)) (fun i hi => by unfold upd; rw [if_neg (by omega)])) (fun x y q => by omega) (fun x y q g => by omega)
  have : upd no nc (og a ||| og b) nc = (og a ||| og b) := pk_us
  rw [this]; exact hr
theorem EI_skip {n : Nat} {M : Nat → Nat → Int} {t c : Nat} {W : Nat → Nat → Rat} {nc : Nat} {nx : Nat → Int64} {no : Nat → Int32} {a b : Nat} (h : EI n M t c W nc nx no (fun x y => x < a ∨ (x = a ∧ y < b))) (hg : ¬ Gp n M t c W a b) : EI n M t c W nc nx no (fun x y => x < a ∨ (x = a ∧ y < b + 1)) :=
  EI_S h (fun x y q => by omega) (fun x y q g => by
    by_cases e : x = a ∧ y = b
    · obtain ⟨e1, e2⟩ := e; subst e1; subst e2; exact absurd g hg
    · omega)
theorem pair_size {n t : Nat} {M : Nat → Nat → Int} {c : Nat} {W : Nat → Nat → Rat} (hD : DD n (clm M) t c W) {a b : Nat} (hG : Gp n M t c W a b) (hva : 0 < va n (clm M) t (W a)) : sz (fun k => 1 * ((-va n (clm M) t (W b)) * W a k + va n (clm M) t (W a) * W b k)) n ≤ t + 2 := by
  rcases hG with ⟨g1, _, g3⟩ | ⟨g1, g2, g3, g4, g5⟩
  · rw [g3] at hva; grind
  · exact (hD.pair g1 g2 g3 g4 g5 (s := 1) (by decide)).size
set_option maxHeartbeats 1000000 in
set_option maxRecDepth 100000 in
/-- eliminate(unknown, before) -/
theorem c_X2_eliminate (l : Launch) (dC : Nat → ClassId) (dI : Nat → Nat → Nat) (sz : Nat) (m0 aN aR aX aO aP aH aL aW : Nat) (cI cJ : ClassId) (vn ct : Nat) (nm : Nat → Int32) (tp bt : Int64) (an : Int32) (rw nx : Nat → Int64) (og no : Nat → Int32) (rc nc : Nat) (hgh lws : Nat → Int64) (dh dl fT fB : Int64) (wd : Nat → Int32) (n9 u : Nat) (Mx : Nat → Nat → Int) (hM : okM n9 Mx) (hn9 : n9 ≤ 16) (hu9 : u < 9) (hri : RI n9 Mx u rc rw og) : Met l yX2_eliminate wsX2_eliminate ({ frames := 3, cells := 0, slots := 0, locals := 104 }) (va_Pc [.ref m0, .int (nI u), .int (nI u)] (fun U => U.heap.size = sz ∧ va_P (dC, dI) vwCl (mdW m0 aN aR aX aO aP aH aL aW cI cJ vn ct nm tp bt an rw nx og no rc nc hgh lws dh dl fT fB wd) U.heap ∧ va_K (dC, dI) vwCl [(cI, .int), (cJ, .long)] U ∧ va_D (fun _ => True) (mdW m0 aN aR aX aO aP aH aL aW cI cJ vn ct nm tp bt an rw nx og no rc nc hgh lws dh dl fT fB wd))) (va_Qv (fun v : Nat × (Nat → Int64) × (Nat → Int32) × (Nat → Int64) × (Nat → Int32) × (Nat → Int64) × (Nat → Int64) × Int64 × Int64 => RI n9 Mx (u + 1) v.1 v.2.1 v.2.2.1) (fun v t => va_P (dC, dI) vwCl (mdW m0 aN aR aX aO aP aH aL aW cI cJ vn ct nm tp bt an v.2.1 v.2.2.2.1 v.2.2.1 v.2.2.2.2.1 v.1 v.1 v.2.2.2.2.2.1 v.2.2.2.2.2.2.1 v.2.2.2.2.2.2.2.1 v.2.2.2.2.2.2.2.2 fT fB wd) t.heap ∧ va_K (dC, dI) vwCl [(cI, .int), (cJ, .long)] t ∧ va_D (va_A (mdW m0 aN aR aX aO aP aH aL aW cI cJ vn ct nm tp bt an rw nx og no rc nc hgh lws dh dl fT fB wd) sz) (mdW m0 aN aR aX aO aP aH aL aW cI cJ vn ct nm tp bt an v.2.1 v.2.2.2.1 v.2.2.1 v.2.2.2.2.1 v.1 v.1 v.2.2.2.2.2.1 v.2.2.2.2.2.2.1 v.2.2.2.2.2.2.2.1 v.2.2.2.2.2.2.2.2 fT fB wd)) (va_A (mdW m0 aN aR aX aO aP aH aL aW cI cJ vn ct nm tp bt an rw nx og no rc nc hgh lws dh dl fT fB wd) sz)) 0 0 (va_A (mdW m0 aN aR aX aO aP aH aL aW cI cJ vn ct nm tp bt an rw nx og no rc nc hgh lws dh dl fT fB wd) sz) := by
  refine Met.ofW (cc := cX2_eliminate) (maxL := 8) (ret := none) (by decide) rfl ?_
  intro p e s m args below meth c s₁ B hml hv
  obtain ⟨rfl, hsz, hP, hK, hD0⟩ := hv
  have hx := B.exec
  have hb := B.bytes
  have hr := B.returns
  have hts := atoms_spec (ws := wsX2_eliminate) B.pre
  have hown : s.vm.findClass RX2 = some m.cls := findClass_of_methodNamed B.named
  subst hsz
  have hD := hD0.self (sz := s.heap.size)
  clear hD0
  generalize hAe : va_A (mdW m0 aN aR aX aO aP aH aL aW cI cJ vn ct nm tp bt an rw nx og no rc nc hgh lws dh dl fT fB wd) s.heap.size = A at hD ⊢
  have hA : ∀ q : Nat, s.heap.size ≤ q → A q := fun q h => by rw [← hAe]; exact Or.inr h
  have hl := lv_entry ([.ref m0, .int (nI u), .int (nI u)]) (n := 8) (Nat.le_of_ble_eq_true rfl)
  rw [lg_entry_eq]
  generalize (lg_sl ([.ref m0, .int (nI u), .int (nI u)]) ++ List.replicate (8 - (lg_sl ([.ref m0, .int (nI u), .int (nI u)])).length) Slot.unset).toArray = ls at hl ⊢
  have hl : lv_has ls 8 [(0, .ref m0), (1, .int (nI u)), (2, .int (nI u))] := hl
  have hP : va_P (dC, dI) vwCl (mdW m0 aN aR aX aO aP aH aL aW cI cJ vn ct nm tp bt an rw nx og no rc nc hgh lws dh dl fT fB wd) s.heap := hP
  obtain ⟨H, hH⟩ : ∃ H, H = s.heap := ⟨_, rfl⟩
  have hS : va_S A s.heap H [] := by rw [hH]; exact va_S.rf
  rw [← hH] at hP ⊢
  obtain ⟨W9, hDD, hRR⟩ := hri
  have hrc : rc ≤ 1200 := hDD.count (by omega)
  have copyO : ∀ (f : Nat → Int64) (o : Nat → Int32) (q9 : Nat) (hh ll : Nat → Int64) (Dh Dl : Int64), q9 ≤ 1200 → RI n9 Mx (u + 1) q9 f o → ∀ (d k : Nat) (H : Heap) (locs : List Loc) (ls : Array Slot), k + d = q9 → va_P (dC, dI) vwCl (mdW m0 aN aR aX aO aP aH aL aW cI cJ vn ct nm tp bt an (cpF f rw (11 * q9)) f (cpF o og k) o q9 q9 hh ll Dh Dl fT fB wd) H → va_K (dC, dI) vwCl [(cI, .int), (cJ, .long)] s → va_D A (mdW m0 aN aR aX aO aP aH aL aW cI cJ vn ct nm tp bt an (cpF f rw (11 * q9)) f (cpF o og k) o q9 q9 hh ll Dh Dl fT fB wd) → va_S A s.heap H locs → lv_has ls 8 [(3, .int (nI k)), (0, .ref m0), (1, .int (nI u)), (2, .int (nI u))] → W p l e (headSpec wsX2_eliminate ({ frames := 3, cells := 0, slots := 0, locals := 104 })).room s m #[.ref m0, .int (nI u), .int (nI u)] below meth c H locs 0 0 (MQ below (va_Qv (fun v : Nat × (Nat → Int64) × (Nat → Int32) × (Nat → Int64) × (Nat → Int32) × (Nat → Int64) × (Nat → Int64) × Int64 × Int64 => RI n9 Mx (u + 1) v.1 v.2.1 v.2.2.1) (fun v t => va_P (dC, dI) vwCl (mdW m0 aN aR aX aO aP aH aL aW cI cJ vn ct nm tp bt an v.2.1 v.2.2.2.1 v.2.2.1 v.2.2.2.2.1 v.1 v.1 v.2.2.2.2.2.1 v.2.2.2.2.2.2.1 v.2.2.2.2.2.2.2.1 v.2.2.2.2.2.2.2.2 fT fB wd) t.heap ∧ va_K (dC, dI) vwCl [(cI, .int), (cJ, .long)] t ∧ va_D A (mdW m0 aN aR aX aO aP aH aL aW cI cJ vn ct nm tp bt an v.2.1 v.2.2.2.1 v.2.2.1 v.2.2.2.2.1 v.1 v.1 v.2.2.2.2.2.1 v.2.2.2.2.2.2.1 v.2.2.2.2.2.2.2.1 v.2.2.2.2.2.2.2.2 fT fB wd)) A) #[.ref m0, .int (nI u), .int (nI u)] s 0 0 A) (F0 m 182 ls []) := by
    clear hP hK hD hS hl
    intro f o q9 hh ll Dh Dl hq9 hri d
    induction d with
    | zero =>
      intro k H locs ls hk hP hK hD hS hl
      refine lv_iload_n hx hb dX2_eliminate_182 rfl (lv_at hl 0 rfl) ?_
      refine lv_aload_n hx hb dX2_eliminate_183 rfl (lv_at hl 1 rfl) ?_
      refine va_get (D := (dC, dI)) (ci := 2) (v := .int (nI q9)) (C := RX2) (T := TX2) (N := 19) hx hb hts (fun _ h => List.mem_cons_of_mem _ (List.mem_append_right _ h)) hown hK hP 0 rfl rfl 10 (by decide) (hts (.fieldLink RX2 46 "RankFinderModel" "rowCount" "I") (List.mem_of_getElem? (i := 2) rfl)) (fun _ h9 => h9) rfl dX2_eliminate_184 ?_
      refine lv_icmp_ge (tgt := 208) hx hb dX2_eliminate_187 (by decide) (fun c1 => ?_) (fun c1 => ?_)
      · obtain rfl : k = q9 := by omega
        exact W.vret hx hb hr (fun t ht hW => ⟨⟨(k, cpF f rw (11 * k), cpF o og k, f, o, hh, ll, Dh, Dl), rfl, RI_cp hri, by rw [ht]; exact hP, va_K.moved hW.alike hK, hD⟩, hS.F ht⟩) hS.2.2 dX2_eliminate_208
      · exact absurd (nI_le (by omega) (by omega)) c1
    | succ d ih =>
      intro k H locs ls hk hP hK hD hS hl
      refine lv_iload_n hx hb dX2_eliminate_182 rfl (lv_at hl 0 rfl) ?_
      refine lv_aload_n hx hb dX2_eliminate_183 rfl (lv_at hl 1 rfl) ?_
      refine va_get (D := (dC, dI)) (ci := 2) (v := .int (nI q9)) (C := RX2) (T := TX2) (N := 19) hx hb hts (fun _ h => List.mem_cons_of_mem _ (List.mem_append_right _ h)) hown hK hP 0 rfl rfl 10 (by decide) (hts (.fieldLink RX2 46 "RankFinderModel" "rowCount" "I") (List.mem_of_getElem? (i := 2) rfl)) (fun _ h9 => h9) rfl dX2_eliminate_184 ?_
      refine lv_icmp_ge (tgt := 208) hx hb dX2_eliminate_187 (by decide) (fun c1 => ?_) (fun c1 => ?_)
      · exact absurd c1 (nI_ge (by omega) (by omega))
      · refine lv_aload_n hx hb dX2_eliminate_190 rfl (lv_at hl 1 rfl) ?_
        refine va_get (D := (dC, dI)) (ci := 2) (v := .ref aO) (C := RX2) (T := TX2) (N := 19) hx hb hts (fun _ h => List.mem_cons_of_mem _ (List.mem_append_right _ h)) hown hK hP 0 rfl rfl 8 (by decide) (hts (.fieldLink RX2 24 "RankFinderModel" "origins" "[I") (List.mem_of_getElem? (i := 4) rfl)) (fun _ h9 => h9) rfl dX2_eliminate_191 ?_
        refine lv_iload_n hx hb dX2_eliminate_194 rfl (lv_at hl 0 rfl) ?_
        refine lv_aload_n hx hb dX2_eliminate_195 rfl (lv_at hl 1 rfl) ?_
        refine va_get (D := (dC, dI)) (ci := 2) (v := .ref aP) (C := RX2) (T := TX2) (N := 19) hx hb hts (fun _ h => List.mem_cons_of_mem _ (List.mem_append_right _ h)) hown hK hP 0 rfl rfl 9 (by decide) (hts (.fieldLink RX2 27 "RankFinderModel" "nextOrigins" "[I") (List.mem_of_getElem? (i := 6) rfl)) (fun _ h9 => h9) rfl dX2_eliminate_196 ?_
        refine lv_iload_n hx hb dX2_eliminate_199 rfl (lv_at hl 0 rfl) ?_
        refine na_iald hx hb hK hP 5 0 rfl rfl (show k < 1200 by omega) (by decide) dX2_eliminate_200 ?_
        refine na_iast hx hb hK hP hD hS 4 0 rfl rfl (show k < 1200 by omega) (by decide) dX2_eliminate_201 (fun H locs hP hD hS => ?_)
        have hP : va_P (dC, dI) vwCl (mdW m0 aN aR aX aO aP aH aL aW cI cJ vn ct nm tp bt an (cpF f rw (11 * q9)) f (upd (cpF o og k) k (o k)) o q9 q9 hh ll Dh Dl fT fB wd) H := hP
        have hD : va_D A (mdW m0 aN aR aX aO aP aH aL aW cI cJ vn ct nm tp bt an (cpF f rw (11 * q9)) f (upd (cpF o og k) k (o k)) o q9 q9 hh ll Dh Dl fT fB wd) := hD
        rw [cpF_sI] at hP hD
        have hP : va_P (dC, dI) vwCl (mdW m0 aN aR aX aO aP aH aL aW cI cJ vn ct nm tp bt an (cpF f rw (11 * q9)) f (cpF o og (k + 1)) o q9 q9 hh ll Dh Dl fT fB wd) H := hP
        have hD : va_D A (mdW m0 aN aR aX aO aP aH aL aW cI cJ vn ct nm tp bt an (cpF f rw (11 * q9)) f (cpF o og (k + 1)) o q9 q9 hh ll Dh Dl fT fB wd) := hD
        refine lv_iinc (v := nI (k + 1)) (lv' := [(3, .int (nI (k + 1))), (0, .ref m0), (1, .int (nI u)), (2, .int (nI u))]) hx hb dX2_eliminate_202 hl (k := 0) rfl (nI_1 _) (by decide) rfl (fun ls hl => ?_)
        refine lv_goto (tgt := 182) hx hb dX2_eliminate_205 (by decide) ?_
        exact ih (k + 1) H _ ls (by omega) hP hK hD hS (lv_sub hl [0, 1, 2, 3] rfl)
  have copyR : ∀ (f : Nat → Int64) (o : Nat → Int32) (q9 : Nat) (hh ll : Nat → Int64) (Dh Dl : Int64), q9 ≤ 1200 → RI n9 Mx (u + 1) q9 f o → ∀ (d k : Nat) (H : Heap) (locs : List Loc) (ls : Array Slot), k + d = 11 * q9 → va_P (dC, dI) vwCl (mdW m0 aN aR aX aO aP aH aL aW cI cJ vn ct nm tp bt an (cpF f rw k) f og o q9 q9 hh ll Dh Dl fT fB wd) H → va_K (dC, dI) vwCl [(cI, .int), (cJ, .long)] s → va_D A (mdW m0 aN aR aX aO aP aH aL aW cI cJ vn ct nm tp bt an (cpF f rw k) f og o q9 q9 hh ll Dh Dl fT fB wd) → va_S A s.heap H locs → lv_has ls 8 [(3, .int (nI k)), (0, .ref m0), (1, .int (nI u)), (2, .int (nI u))] → W p l e (headSpec wsX2_eliminate ({ frames := 3, cells := 0, slots := 0, locals := 104 })).room s m #[.ref m0, .int (nI u), .int (nI u)] below meth c H locs 0 0 (MQ below (va_Qv (fun v : Nat × (Nat → Int64) × (Nat → Int32) × (Nat → Int64) × (Nat → Int32) × (Nat → Int64) × (Nat → Int64) × Int64 × Int64 => RI n9 Mx (u + 1) v.1 v.2.1 v.2.2.1) (fun v t => va_P (dC, dI) vwCl (mdW m0 aN aR aX aO aP aH aL aW cI cJ vn ct nm tp bt an v.2.1 v.2.2.2.1 v.2.2.1 v.2.2.2.2.1 v.1 v.1 v.2.2.2.2.2.1 v.2.2.2.2.2.2.1 v.2.2.2.2.2.2.2.1 v.2.2.2.2.2.2.2.2 fT fB wd) t.heap ∧ va_K (dC, dI) vwCl [(cI, .int), (cJ, .long)] t ∧ va_D A (mdW m0 aN aR aX aO aP aH aL aW cI cJ vn ct nm tp bt an v.2.1 v.2.2.2.1 v.2.2.1 v.2.2.2.2.1 v.1 v.1 v.2.2.2.2.2.1 v.2.2.2.2.2.2.1 v.2.2.2.2.2.2.2.1 v.2.2.2.2.2.2.2.2 fT fB wd)) A) #[.ref m0, .int (nI u), .int (nI u)] s 0 0 A) (F0 m 151 ls []) := by
    clear hP hK hD hS hl
    intro f o q9 hh ll Dh Dl hq9 hri d
    induction d with
    | zero =>
      intro k H locs ls hk hP hK hD hS hl
      refine lv_iload_n hx hb dX2_eliminate_151 rfl (lv_at hl 0 rfl) ?_
      refine lv_bipush (v := nI 11) hx hb dX2_eliminate_152 (by decide) ?_
      refine lv_aload_n hx hb dX2_eliminate_154 rfl (lv_at hl 1 rfl) ?_
      refine va_get (D := (dC, dI)) (ci := 2) (v := .int (nI q9)) (C := RX2) (T := TX2) (N := 19) hx hb hts (fun _ h => List.mem_cons_of_mem _ (List.mem_append_right _ h)) hown hK hP 0 rfl rfl 10 (by decide) (hts (.fieldLink RX2 46 "RankFinderModel" "rowCount" "I") (List.mem_of_getElem? (i := 2) rfl)) (fun _ h9 => h9) rfl dX2_eliminate_155 ?_
      refine lv_imul hx hb dX2_eliminate_158 ?_
      refine lv_topi (fun z_1 ez_1 => ?_)
      obtain rfl : z_1 = nI (11 * q9) := ez_1.trans (pk_mul 11 q9)
      refine lv_icmp_ge (tgt := 180) hx hb dX2_eliminate_159 (by decide) (fun c1 => ?_) (fun c1 => ?_)
      · obtain rfl : k = 11 * q9 := by omega
        refine lv_iconst (v := nI 0) hx hb dX2_eliminate_180 (by decide) ?_
        refine lv_istore_n (lv' := [(3, .int (nI 0)), (0, .ref m0), (1, .int (nI u)), (2, .int (nI u))]) hx hb dX2_eliminate_181 rfl hl (by decide) rfl (fun ls hl => ?_)
        exact copyO f o q9 hh ll Dh Dl hq9 hri q9 0 H _ ls (by omega) (by rw [cpF_0]; exact hP) hK (by rw [cpF_0]; exact hD) hS (lv_sub hl [0, 1, 2, 3] rfl)
      · exact absurd (nI_le (by omega) (by omega)) c1
    | succ d ih =>
      intro k H locs ls hk hP hK hD hS hl
      refine lv_iload_n hx hb dX2_eliminate_151 rfl (lv_at hl 0 rfl) ?_
      refine lv_bipush (v := nI 11) hx hb dX2_eliminate_152 (by decide) ?_
      refine lv_aload_n hx hb dX2_eliminate_154 rfl (lv_at hl 1 rfl) ?_
      refine va_get (D := (dC, dI)) (ci := 2) (v := .int (nI q9)) (C := RX2) (T := TX2) (N := 19) hx hb hts (fun _ h => List.mem_cons_of_mem _ (List.mem_append_right _ h)) hown hK hP 0 rfl rfl 10 (by decide) (hts (.fieldLink RX2 46 "RankFinderModel" "rowCount" "I") (List.mem_of_getElem? (i := 2) rfl)) (fun _ h9 => h9) rfl dX2_eliminate_155 ?_
      refine lv_imul hx hb dX2_eliminate_158 ?_
      refine lv_topi (fun z_1 ez_1 => ?_)
      obtain rfl : z_1 = nI (11 * q9) := ez_1.trans (pk_mul 11 q9)
      refine lv_icmp_ge (tgt := 180) hx hb dX2_eliminate_159 (by decide) (fun c1 => ?_) (fun c1 => ?_)
      · exact absurd c1 (nI_ge (by omega) (by omega))
      · refine lv_aload_n hx hb dX2_eliminate_162 rfl (lv_at hl 1 rfl) ?_
        refine va_get (D := (dC, dI)) (ci := 2) (v := .ref aR) (C := RX2) (T := TX2) (N := 19) hx hb hts (fun _ h => List.mem_cons_of_mem _ (List.mem_append_right _ h)) hown hK hP 0 rfl rfl 6 (by decide) (hts (.fieldLink RX2 17 "RankFinderModel" "rows" "[J") (List.mem_of_getElem? (i := 3) rfl)) (fun _ h9 => h9) rfl dX2_eliminate_163 ?_
        refine lv_iload_n hx hb dX2_eliminate_166 rfl (lv_at hl 0 rfl) ?_
        refine lv_aload_n hx hb dX2_eliminate_167 rfl (lv_at hl 1 rfl) ?_
        refine va_get (D := (dC, dI)) (ci := 2) (v := .ref aX) (C := RX2) (T := TX2) (N := 19) hx hb hts (fun _ h => List.mem_cons_of_mem _ (List.mem_append_right _ h)) hown hK hP 0 rfl rfl 7 (by decide) (hts (.fieldLink RX2 21 "RankFinderModel" "next" "[J") (List.mem_of_getElem? (i := 5) rfl)) (fun _ h9 => h9) rfl dX2_eliminate_168 ?_
        refine lv_iload_n hx hb dX2_eliminate_171 rfl (lv_at hl 0 rfl) ?_
        refine na_lald hx hb hK hP 3 1 rfl rfl (show k < 13200 by omega) (by decide) dX2_eliminate_172 ?_
        refine na_last hx hb hK hP hD hS 2 1 rfl rfl (show k < 13200 by omega) (by decide) dX2_eliminate_173 (fun H locs hP hD hS => ?_)
        have hP : va_P (dC, dI) vwCl (mdW m0 aN aR aX aO aP aH aL aW cI cJ vn ct nm tp bt an (vp_updL (cpF f rw k) k (f k)) f og o q9 q9 hh ll Dh Dl fT fB wd) H := hP
        have hD : va_D A (mdW m0 aN aR aX aO aP aH aL aW cI cJ vn ct nm tp bt an (vp_updL (cpF f rw k) k (f k)) f og o q9 q9 hh ll Dh Dl fT fB wd) := hD
        rw [cpF_sL] at hP hD
        have hP : va_P (dC, dI) vwCl (mdW m0 aN aR aX aO aP aH aL aW cI cJ vn ct nm tp bt an (cpF f rw (k + 1)) f og o q9 q9 hh ll Dh Dl fT fB wd) H := hP
        have hD : va_D A (mdW m0 aN aR aX aO aP aH aL aW cI cJ vn ct nm tp bt an (cpF f rw (k + 1)) f og o q9 q9 hh ll Dh Dl fT fB wd) := hD
        refine lv_iinc (v := nI (k + 1)) (lv' := [(3, .int (nI (k + 1))), (0, .ref m0), (1, .int (nI u)), (2, .int (nI u))]) hx hb dX2_eliminate_174 hl (k := 0) rfl (nI_1 _) (by decide) rfl (fun ls hl => ?_)
        refine lv_goto (tgt := 151) hx hb dX2_eliminate_177 (by decide) ?_
        exact ih (k + 1) H _ ls (by omega) hP hK hD hS (lv_sub hl [0, 1, 2, 3] rfl)
  have loop : ∀ (d a : Nat) (f : Nat → Int64) (o : Nat → Int32) (q9 : Nat) (hh ll : Nat → Int64) (Dh Dl : Int64) (H : Heap) (locs : List Loc) (ls : Array Slot), a + d = rc → EI n9 Mx u rc W9 q9 f o (fun x _ => x < a) → va_P (dC, dI) vwCl (mdW m0 aN aR aX aO aP aH aL aW cI cJ vn ct nm tp bt an rw f og o rc q9 hh ll Dh Dl fT fB wd) H → va_K (dC, dI) vwCl [(cI, .int), (cJ, .long)] s → va_D A (mdW m0 aN aR aX aO aP aH aL aW cI cJ vn ct nm tp bt an rw f og o rc q9 hh ll Dh Dl fT fB wd) → va_S A s.heap H locs → lv_has ls 8 [(3, .int (nI a)), (0, .ref m0), (1, .int (nI u)), (2, .int (nI u))] → W p l e (headSpec wsX2_eliminate ({ frames := 3, cells := 0, slots := 0, locals := 104 })).room s m #[.ref m0, .int (nI u), .int (nI u)] below meth c H locs 0 0 (MQ below (va_Qv (fun v : Nat × (Nat → Int64) × (Nat → Int32) × (Nat → Int64) × (Nat → Int32) × (Nat → Int64) × (Nat → Int64) × Int64 × Int64 => RI n9 Mx (u + 1) v.1 v.2.1 v.2.2.1) (fun v t => va_P (dC, dI) vwCl (mdW m0 aN aR aX aO aP aH aL aW cI cJ vn ct nm tp bt an v.2.1 v.2.2.2.1 v.2.2.1 v.2.2.2.2.1 v.1 v.1 v.2.2.2.2.2.1 v.2.2.2.2.2.2.1 v.2.2.2.2.2.2.2.1 v.2.2.2.2.2.2.2.2 fT fB wd) t.heap ∧ va_K (dC, dI) vwCl [(cI, .int), (cJ, .long)] t ∧ va_D A (mdW m0 aN aR aX aO aP aH aL aW cI cJ vn ct nm tp bt an v.2.1 v.2.2.2.1 v.2.2.1 v.2.2.2.2.1 v.1 v.1 v.2.2.2.2.2.1 v.2.2.2.2.2.2.1 v.2.2.2.2.2.2.2.1 v.2.2.2.2.2.2.2.2 fT fB wd)) A) #[.ref m0, .int (nI u), .int (nI u)] s 0 0 A) (F0 m 7 ls []) := by
    clear hP hK hD hS hl
    intro d
    induction d with
    | zero =>
      intro a f o q9 hh ll Dh Dl H locs ls ha hE hP hK hD hS hl
      refine lv_iload_n hx hb dX2_eliminate_7 rfl (lv_at hl 0 rfl) ?_
      refine lv_aload_n hx hb dX2_eliminate_8 rfl (lv_at hl 1 rfl) ?_
      refine va_get (D := (dC, dI)) (ci := 2) (v := .int (nI rc)) (C := RX2) (T := TX2) (N := 19) hx hb hts (fun _ h => List.mem_cons_of_mem _ (List.mem_append_right _ h)) hown hK hP 0 rfl rfl 10 (by decide) (hts (.fieldLink RX2 46 "RankFinderModel" "rowCount" "I") (List.mem_of_getElem? (i := 2) rfl)) (fun _ h9 => h9) rfl dX2_eliminate_9 ?_
      refine lv_icmp_ge (tgt := 141) hx hb dX2_eliminate_12 (by decide) (fun c1 => ?_) (fun c1 => ?_)
      · have hri : RI n9 Mx (u + 1) q9 f o := EI_end (EI_S hE (fun x y q => by omega) (fun x y q _ => by omega)) hDD
        have hq9 : q9 ≤ 1200 := by obtain ⟨W2, h2, _⟩ := hri; exact h2.count (by omega)
        refine lv_aload_n hx hb dX2_eliminate_141 rfl (lv_at hl 1 rfl) ?_
        refine lv_aload_n hx hb dX2_eliminate_142 rfl (lv_at hl 1 rfl) ?_
        refine va_get (D := (dC, dI)) (ci := 2) (v := .int (nI q9)) (C := RX2) (T := TX2) (N := 19) hx hb hts (fun _ h => List.mem_cons_of_mem _ (List.mem_append_right _ h)) hown hK hP 0 rfl rfl 11 (by decide) (hts (.fieldLink RX2 83 "RankFinderModel" "nextCount" "I") (List.mem_of_getElem? (i := 1) rfl)) (fun _ h9 => h9) rfl dX2_eliminate_143 ?_
        refine va_put (D := (dC, dI)) (ci := 2) (v := .int (nI q9)) (ty := .int) (C := RX2) (T := TX2) (N := 19) hx hb hts (fun _ h => List.mem_cons_of_mem _ (List.mem_append_right _ h)) tyX2 tyX2_ok nmX2 hown hK hP hD hS 0 rfl rfl 10 (by decide) (hts (.fieldLink RX2 46 "RankFinderModel" "rowCount" "I") (List.mem_of_getElem? (i := 2) rfl)) (fun _ h9 => h9) rfl (by decide +kernel) rfl rfl (Nat.le_of_ble_eq_true rfl) dX2_eliminate_146 (fun H locs hP hD hS => ?_)
        have hP : va_P (dC, dI) vwCl (mdW m0 aN aR aX aO aP aH aL aW cI cJ vn ct nm tp bt an rw f og o q9 q9 hh ll Dh Dl fT fB wd) H := hP
        have hD : va_D A (mdW m0 aN aR aX aO aP aH aL aW cI cJ vn ct nm tp bt an rw f og o q9 q9 hh ll Dh Dl fT fB wd) := hD
        refine lv_iconst (v := nI 0) hx hb dX2_eliminate_149 (by decide) ?_
        refine lv_istore_n (lv' := [(3, .int (nI 0)), (0, .ref m0), (1, .int (nI u)), (2, .int (nI u))]) hx hb dX2_eliminate_150 rfl hl (by decide) rfl (fun ls hl => ?_)
        exact copyR f o q9 hh ll Dh Dl hq9 hri (11 * q9) 0 H _ ls (by omega) (by rw [cpF_0]; exact hP) hK (by rw [cpF_0]; exact hD) hS (lv_sub hl [0, 1, 2, 3] rfl)
      · exact absurd (nI_le (by omega) (by omega)) c1
    | succ d ih =>
      intro a f o q9 hh ll Dh Dl H locs ls ha hE hP hK hD hS hl
      refine lv_iload_n hx hb dX2_eliminate_7 rfl (lv_at hl 0 rfl) ?_
      refine lv_aload_n hx hb dX2_eliminate_8 rfl (lv_at hl 1 rfl) ?_
      refine va_get (D := (dC, dI)) (ci := 2) (v := .int (nI rc)) (C := RX2) (T := TX2) (N := 19) hx hb hts (fun _ h => List.mem_cons_of_mem _ (List.mem_append_right _ h)) hown hK hP 0 rfl rfl 10 (by decide) (hts (.fieldLink RX2 46 "RankFinderModel" "rowCount" "I") (List.mem_of_getElem? (i := 2) rfl)) (fun _ h9 => h9) rfl dX2_eliminate_9 ?_
      refine lv_icmp_ge (tgt := 141) hx hb dX2_eliminate_12 (by decide) (fun c1 => ?_) (fun c1 => ?_)
      · exact absurd c1 (nI_ge (by omega) (by omega))
      · have hal : a < rc := by omega
        have hva := RR_va (hRR a hal) (show u < 11 by omega)
        refine lv_aload_n hx hb dX2_eliminate_15 rfl (lv_at hl 1 rfl) ?_
        refine va_get (D := (dC, dI)) (ci := 2) (v := .ref aR) (C := RX2) (T := TX2) (N := 19) hx hb hts (fun _ h => List.mem_cons_of_mem _ (List.mem_append_right _ h)) hown hK hP 0 rfl rfl 6 (by decide) (hts (.fieldLink RX2 17 "RankFinderModel" "rows" "[J") (List.mem_of_getElem? (i := 3) rfl)) (fun _ h9 => h9) rfl dX2_eliminate_16 ?_
        refine lv_bipush (v := nI 11) hx hb dX2_eliminate_19 (by decide) ?_
        refine lv_iload_n hx hb dX2_eliminate_21 rfl (lv_at hl 0 rfl) ?_
        refine lv_imul hx hb dX2_eliminate_22 ?_
        refine lv_topi (fun z_1 ez_1 => ?_)
        obtain rfl : z_1 = nI (11 * a) := ez_1.trans (pk_mul 11 a)
        refine lv_iload_n hx hb dX2_eliminate_23 rfl (lv_at hl 2 rfl) ?_
        refine lv_iadd hx hb dX2_eliminate_24 ?_
        refine lv_topi (fun z_2 ez_2 => ?_)
        obtain rfl : z_2 = nI ((11 * a) + u) := ez_2.trans (nI_add (11 * a) u)
        refine na_lald hx hb hK hP 2 1 rfl rfl (show 11 * a + u < 13200 by omega) (by decide) dX2_eliminate_25 ?_
        refine lv_lstore (lv' := [(4, .long (rw ((11 * a) + u))), (3, .int (nI a)), (0, .ref m0), (1, .int (nI u)), (2, .int (nI u))]) hx hb dX2_eliminate_26 hl (by decide) rfl (fun ls hl => ?_)
        refine lv_lload hx hb dX2_eliminate_28 (lv_at hl 0 rfl) ?_
        refine lv_lconst (v := 0) hx hb dX2_eliminate_30 (by decide) ?_
        refine W.lcmp hx hb dX2_eliminate_31 ?_
        have inner : 0 < rw (11 * a + u) → ∀ (d2 b : Nat) (f : Nat → Int64) (o : Nat → Int32) (q9 : Nat) (hh ll : Nat → Int64) (Dh Dl : Int64) (H : Heap) (locs : List Loc) (ls : Array Slot), b + d2 = rc → EI n9 Mx u rc W9 q9 f o (fun x y => x < a ∨ (x = a ∧ y < b)) → va_P (dC, dI) vwCl (mdW m0 aN aR aX aO aP aH aL aW cI cJ vn ct nm tp bt an rw f og o rc q9 hh ll Dh Dl fT fB wd) H → va_K (dC, dI) vwCl [(cI, .int), (cJ, .long)] s → va_D A (mdW m0 aN aR aX aO aP aH aL aW cI cJ vn ct nm tp bt an rw f og o rc q9 hh ll Dh Dl fT fB wd) → va_S A s.heap H locs → lv_has ls 8 [(6, .int (nI b)), (4, .long (rw (11 * a + u))), (3, .int (nI a)), (0, .ref m0), (1, .int (nI u)), (2, .int (nI u))] → W p l e (headSpec wsX2_eliminate ({ frames := 3, cells := 0, slots := 0, locals := 104 })).room s m #[.ref m0, .int (nI u), .int (nI u)] below meth c H locs 0 0 (MQ below (va_Qv (fun v : Nat × (Nat → Int64) × (Nat → Int32) × (Nat → Int64) × (Nat → Int32) × (Nat → Int64) × (Nat → Int64) × Int64 × Int64 => RI n9 Mx (u + 1) v.1 v.2.1 v.2.2.1) (fun v t => va_P (dC, dI) vwCl (mdW m0 aN aR aX aO aP aH aL aW cI cJ vn ct nm tp bt an v.2.1 v.2.2.2.1 v.2.2.1 v.2.2.2.2.1 v.1 v.1 v.2.2.2.2.2.1 v.2.2.2.2.2.2.1 v.2.2.2.2.2.2.2.1 v.2.2.2.2.2.2.2.2 fT fB wd) t.heap ∧ va_K (dC, dI) vwCl [(cI, .int), (cJ, .long)] t ∧ va_D A (mdW m0 aN aR aX aO aP aH aL aW cI cJ vn ct nm tp bt an v.2.1 v.2.2.2.1 v.2.2.1 v.2.2.2.2.1 v.1 v.1 v.2.2.2.2.2.1 v.2.2.2.2.2.2.1 v.2.2.2.2.2.2.2.1 v.2.2.2.2.2.2.2.2 fT fB wd)) A) #[.ref m0, .int (nI u), .int (nI u)] s 0 0 A) (F0 m 43 ls []) := by
          clear hP hK hD hS hl hE
          intro hv0 d2
          have hvap : 0 < va n9 (clm Mx) u (W9 a) := by rw [hva, rz_p]; rw [Int64.lt_iff_toInt_lt] at hv0; exact hv0
          induction d2 with
          | zero =>
            intro b f o q9 hh ll Dh Dl H locs ls hb2 hE hP hK hD hS hl
            refine lv_iload hx hb dX2_eliminate_43 (lv_at hl 0 rfl) ?_
            refine lv_aload_n hx hb dX2_eliminate_45 rfl (lv_at hl 3 rfl) ?_
            refine va_get (D := (dC, dI)) (ci := 2) (v := .int (nI rc)) (C := RX2) (T := TX2) (N := 19) hx hb hts (fun _ h => List.mem_cons_of_mem _ (List.mem_append_right _ h)) hown hK hP 0 rfl rfl 10 (by decide) (hts (.fieldLink RX2 46 "RankFinderModel" "rowCount" "I") (List.mem_of_getElem? (i := 2) rfl)) (fun _ h9 => h9) rfl dX2_eliminate_46 ?_
            refine lv_icmp_ge (tgt := 135) hx hb dX2_eliminate_49 (by decide) (fun c3 => ?_) (fun c3 => ?_)
            · refine lv_iinc (v := nI (a + 1)) (lv' := [(3, .int (nI (a + 1))), (6, .int (nI b)), (4, .long (rw (11 * a + u))), (0, .ref m0), (1, .int (nI u)), (2, .int (nI u))]) hx hb dX2_eliminate_135 hl (k := 2) rfl (nI_1 _) (by decide) rfl (fun ls hl => ?_)
              refine lv_goto (tgt := 7) hx hb dX2_eliminate_138 (by decide) ?_
              exact ih (a + 1) f o q9 hh ll Dh Dl H _ ls (by omega) (EI_S hE (fun x y q => by omega) (fun x y q g => by rcases g with ⟨g1, g2, _⟩ | ⟨_, g2, _⟩ <;> omega)) hP hK hD hS (lv_sub hl [0, 3, 4, 5] rfl)
            · exact absurd (nI_le (by omega) (by omega)) c3
          | succ d2 ih2 =>
            intro b f o q9 hh ll Dh Dl H locs ls hb2 hE hP hK hD hS hl
            have hbl : b < rc := by omega
            have hvb := RR_va (hRR b hbl) (show u < 11 by omega)
            refine lv_iload hx hb dX2_eliminate_43 (lv_at hl 0 rfl) ?_
            refine lv_aload_n hx hb dX2_eliminate_45 rfl (lv_at hl 3 rfl) ?_
            refine va_get (D := (dC, dI)) (ci := 2) (v := .int (nI rc)) (C := RX2) (T := TX2) (N := 19) hx hb hts (fun _ h => List.mem_cons_of_mem _ (List.mem_append_right _ h)) hown hK hP 0 rfl rfl 10 (by decide) (hts (.fieldLink RX2 46 "RankFinderModel" "rowCount" "I") (List.mem_of_getElem? (i := 2) rfl)) (fun _ h9 => h9) rfl dX2_eliminate_46 ?_
            refine lv_icmp_ge (tgt := 135) hx hb dX2_eliminate_49 (by decide) (fun c3 => ?_) (fun c3 => ?_)
            · exact absurd c3 (nI_ge (by omega) (by omega))
            · refine lv_lload hx hb dX2_eliminate_52 (lv_at hl 1 rfl) ?_
              refine lv_lconst (v := 0) hx hb dX2_eliminate_54 (by decide) ?_
              refine W.lcmp hx hb dX2_eliminate_55 ?_
              refine lv_if_le (tgt := 135) hx hb dX2_eliminate_56 (by decide) (fun c4 => ?_) (fun c4 => ?_)
              · rw [lg_cmp_le] at c4
                exact absurd hv0 (Int64.not_lt.mpr c4)
              · refine lv_aload_n hx hb dX2_eliminate_59 rfl (lv_at hl 3 rfl) ?_
                refine va_get (D := (dC, dI)) (ci := 2) (v := .ref aR) (C := RX2) (T := TX2) (N := 19) hx hb hts (fun _ h => List.mem_cons_of_mem _ (List.mem_append_right _ h)) hown hK hP 0 rfl rfl 6 (by decide) (hts (.fieldLink RX2 17 "RankFinderModel" "rows" "[J") (List.mem_of_getElem? (i := 3) rfl)) (fun _ h9 => h9) rfl dX2_eliminate_60 ?_
                refine lv_bipush (v := nI 11) hx hb dX2_eliminate_63 (by decide) ?_
                refine lv_iload hx hb dX2_eliminate_65 (lv_at hl 0 rfl) ?_
                refine lv_imul hx hb dX2_eliminate_67 ?_
                refine lv_topi (fun z_1 ez_1 => ?_)
                obtain rfl : z_1 = nI (11 * b) := ez_1.trans (pk_mul 11 b)
                refine lv_iload_n hx hb dX2_eliminate_68 rfl (lv_at hl 4 rfl) ?_
                refine lv_iadd hx hb dX2_eliminate_69 ?_
                refine lv_topi (fun z_2 ez_2 => ?_)
                obtain rfl : z_2 = nI ((11 * b) + u) := ez_2.trans (nI_add (11 * b) u)
                refine na_lald hx hb hK hP 2 1 rfl rfl (show 11 * b + u < 13200 by omega) (by decide) dX2_eliminate_70 ?_
                refine lv_lconst (v := 0) hx hb dX2_eliminate_71 (by decide) ?_
                refine W.lcmp hx hb dX2_eliminate_72 ?_
                refine lv_if_ge (tgt := 80) hx hb dX2_eliminate_73 (by decide) (fun c5 => ?_) (fun c5 => ?_)
                · rw [lg_cmp_ge] at c5
                  refine lv_iconst (v := nI 0) hx hb dX2_eliminate_80 (by decide) ?_
                  refine lv_istore (lv' := [(7, .int (nI 0)), (6, .int (nI b)), (4, .long (rw (11 * a + u))), (3, .int (nI a)), (0, .ref m0), (1, .int (nI u)), (2, .int (nI u))]) hx hb dX2_eliminate_81 hl (by decide) rfl (fun ls hl => ?_)
                  refine lv_iload hx hb dX2_eliminate_83 (lv_at hl 0 rfl) ?_
                  refine lv_if_eq (tgt := 129) hx hb dX2_eliminate_85 (by decide) (fun _ => ?_) (fun c => absurd rfl c)
                  refine lv_iinc (v := nI (b + 1)) (lv' := [(6, .int (nI (b + 1))), (7, .int (nI 0)), (4, .long (rw (11 * a + u))), (3, .int (nI a)), (0, .ref m0), (1, .int (nI u)), (2, .int (nI u))]) hx hb dX2_eliminate_129 hl (k := 1) rfl (nI_1 _) (by decide) rfl (fun ls hl => ?_)
                  refine lv_goto (tgt := 43) hx hb dX2_eliminate_132 (by decide) ?_
                  exact ih2 (b + 1) f o q9 hh ll Dh Dl H _ ls (by omega) (EI_skip hE (fun g => by
                    rcases g with ⟨_, _, g3⟩ | ⟨_, _, _, g4, _⟩
                    · rw [g3] at hvap; grind
                    · rw [hvb, rz_n] at g4
                      rw [Int64.le_iff_toInt_le] at c5
                      exact absurd g4 (Int.not_lt.mpr c5))) hP hK hD hS (lv_sub hl [0, 2, 3, 4, 5, 6] rfl)
                · rw [lg_cmp_ge] at c5
                  refine lv_iconst (v := nI 1) hx hb dX2_eliminate_76 (by decide) ?_
                  refine lv_goto (tgt := 81) hx hb dX2_eliminate_77 (by decide) ?_
                  refine lv_istore (lv' := [(7, .int (nI 1)), (6, .int (nI b)), (4, .long (rw (11 * a + u))), (3, .int (nI a)), (0, .ref m0), (1, .int (nI u)), (2, .int (nI u))]) hx hb dX2_eliminate_81 hl (by decide) rfl (fun ls hl => ?_)
                  refine lv_iload hx hb dX2_eliminate_83 (lv_at hl 0 rfl) ?_
                  refine lv_if_eq (tgt := 129) hx hb dX2_eliminate_85 (by decide) (fun c => absurd c (by decide)) (fun _ => ?_)
                  have hvbn : va n9 (clm Mx) u (W9 b) < 0 := by rw [hvb, rz_n]; have c5 := Int64.not_le.mp c5; rw [Int64.lt_iff_toInt_lt] at c5; exact c5
                  obtain ⟨mk, hmk, hmk1, hmk2⟩ := pair_sup hDD hRR hal hbl hvap hvbn
                  refine lv_aload_n hx hb dX2_eliminate_88 rfl (lv_at hl 4 rfl) ?_
                  refine va_get (D := (dC, dI)) (ci := 2) (v := .ref aO) (C := RX2) (T := TX2) (N := 19) hx hb hts (fun _ h => List.mem_cons_of_mem _ (List.mem_append_right _ h)) hown hK hP 0 rfl rfl 8 (by decide) (hts (.fieldLink RX2 24 "RankFinderModel" "origins" "[I") (List.mem_of_getElem? (i := 4) rfl)) (fun _ h9 => h9) rfl dX2_eliminate_89 ?_
                  refine lv_iload_n hx hb dX2_eliminate_92 rfl (lv_at hl 3 rfl) ?_
                  refine na_iald hx hb hK hP 4 0 rfl rfl (show a < 1200 by omega) (by decide) dX2_eliminate_93 ?_
                  refine lv_aload_n hx hb dX2_eliminate_94 rfl (lv_at hl 4 rfl) ?_
                  refine va_get (D := (dC, dI)) (ci := 2) (v := .ref aO) (C := RX2) (T := TX2) (N := 19) hx hb hts (fun _ h => List.mem_cons_of_mem _ (List.mem_append_right _ h)) hown hK hP 0 rfl rfl 8 (by decide) (hts (.fieldLink RX2 24 "RankFinderModel" "origins" "[I") (List.mem_of_getElem? (i := 4) rfl)) (fun _ h9 => h9) rfl dX2_eliminate_95 ?_
                  refine lv_iload hx hb dX2_eliminate_98 (lv_at hl 1 rfl) ?_
                  refine na_iald hx hb hK hP 4 0 rfl rfl (show b < 1200 by omega) (by decide) dX2_eliminate_100 ?_
                  refine lv_ior hx hb dX2_eliminate_101 ?_
                  refine lv_topi (fun z_3 ez_3 => ?_)
                  obtain rfl : z_3 = nI mk := ez_3.trans (hmk)
                  have hFc : ∀ q, va_A ([] : va_W) H.size q → A q := fun q h => va_nilA hS hA q h
                  refine va_calli (va_runS (As := [.int (nI mk)]) (rest := []) ⟨hx, hb, hml, hown, hts⟩ (c_X2_size l dC dI H.size mk hmk1) (va_cwS 1 hts gX2_eliminate_X2_size rfl rfl rfl (by decide +kernel) ⟨Nat.le_of_ble_eq_true rfl, Nat.le_of_ble_eq_true rfl⟩) ⟨fun a U g mk q => by obtain ⟨q0, q1, qP, qK, qD⟩ := q; exact ⟨q0, q1, qP, va_K.moved (u := U) (U := U.calling g mk a) (Vm.Alike.refl U.vm) qK, qD⟩, fun U hU hW => ⟨rfl, by rw [hU], va_nilP, va_K.moved hW.alike (hK.sub (tys' := []) [] rfl), va_nilD⟩⟩ rfl rfl hl.1 rfl (lv_room (Nat.le_of_ble_eq_true rfl)) dX2_eliminate_102 ⟨(Nat.zero_le _), (Nat.zero_le _)⟩) hS (fun q _ h => hFc q h) hFc (fun r_102 v9 t H1 locs ht hvm hw hB hz1 hk1 hS => ?_)
                  have hP := va_keep hP hk1
                  clear hB hk1 hz1 ht hvm hFc
                  generalize H1 = H at hP hS ⊢
                  obtain ⟨z9, rfl, hz9⟩ : ∃ z, r_102 = nI z ∧ z = sz (fun k => 1 * ((-va n9 (clm Mx) u (W9 b)) * W9 a k + va n9 (clm Mx) u (W9 a) * W9 b k)) n9 := ⟨_, hw, mkO_size (by omega) hmk2⟩
                  have hz16 : z9 ≤ n9 := by rw [hz9, sz_ct]; exact ct_le _ _
                  refine lv_iload_n hx hb dX2_eliminate_105 rfl (lv_at hl 6 rfl) ?_
                  refine lv_iconst (v := nI 2) hx hb dX2_eliminate_106 (by decide) ?_
                  refine lv_iadd hx hb dX2_eliminate_107 ?_
                  refine lv_topi (fun z_4 ez_4 => ?_)
                  obtain rfl : z_4 = nI (u + 2) := ez_4.trans (nI_add u 2)
                  refine lv_icmp_gt (tgt := 129) hx hb dX2_eliminate_108 (by decide) (fun c6 => ?_) (fun c6 => ?_)
                  · have hz : u + 2 < z9 := (nI_ltI (by omega) (by omega)).mp c6
                    refine lv_iinc (v := nI (b + 1)) (lv' := [(6, .int (nI (b + 1))), (7, .int (nI 1)), (4, .long (rw (11 * a + u))), (3, .int (nI a)), (0, .ref m0), (1, .int (nI u)), (2, .int (nI u))]) hx hb dX2_eliminate_129 hl (k := 1) rfl (nI_1 _) (by decide) rfl (fun ls hl => ?_)
                    refine lv_goto (tgt := 43) hx hb dX2_eliminate_132 (by decide) ?_
                    exact ih2 (b + 1) f o q9 hh ll Dh Dl H _ ls (by omega) (EI_skip hE (fun g => by have := pair_size hDD g hvap; omega)) hP hK hD hS (lv_sub hl [0, 2, 3, 4, 5, 6] rfl)
                  · refine lv_aload_n hx hb dX2_eliminate_111 rfl (lv_at hl 4 rfl) ?_
                    refine lv_iload_n hx hb dX2_eliminate_112 rfl (lv_at hl 3 rfl) ?_
                    refine lv_iload hx hb dX2_eliminate_113 (lv_at hl 1 rfl) ?_
                    have hFc : ∀ q, va_A (mdW m0 aN aR aX aO aP aH aL aW cI cJ vn ct nm tp bt an rw f og o rc q9 hh ll Dh Dl fT fB wd) H.size q → A q := va_fall hD hS hA
                    refine va_calli (va_runV (As := [.int (nI a), .int (nI b)]) (rest := []) ⟨hx, hb, hml, hown, hts⟩ (c_X2_areBeside l dC dI H.size m0 aN aR aX aO aP aH aL aW cI cJ vn ct nm tp bt an rw f og o rc q9 hh ll Dh Dl fT fB wd a b hrc hal hbl) (cwV 2 hts gX2_eliminate_X2_areBeside rfl rfl rfl (by decide +kernel) ⟨Nat.le_of_ble_eq_true rfl, Nat.le_of_ble_eq_true rfl⟩) ⟨fun a U g mk q => by obtain ⟨q0, q1, qP, qK, qD⟩ := q; exact ⟨q0, q1, qP, va_K.moved (u := U) (U := U.calling g mk a) (Vm.Alike.refl U.vm) qK, qD⟩, va_recv hK hP (ci := 2) (q0 := 0) rfl rfl, fun U hU hW => ⟨rfl, by rw [hU], by rw [hU]; exact hP, va_K.moved hW.alike hK, hD.weaken (fun _ _ _ _ => trivial)⟩⟩ rfl rfl hl.1 rfl (lv_room (Nat.le_of_ble_eq_true rfl)) dX2_eliminate_115 ⟨(Nat.zero_le _), (Nat.zero_le _)⟩) hS (fun q _ h => hFc q h) hFc (fun r_115 v9 t H1 locs ht hvm hw hB hz1 hk1 hS => ?_)
                    obtain ⟨hP1, hK1, hD1⟩ := hB
                    rw [ht] at hP1
                    clear hP hD hK
                    have hK := va_K.moved hvm.symm hK1
                    have hP := hP1
                    have hD := hD1.weaken (B := A) (fun _ q _ h => hFc q.1 h)
                    clear hP1 hD1 hK1 hFc hk1 hz1 ht hvm
                    generalize H1 = H at hP hS ⊢
                    rcases hw with ⟨rfl, hw⟩ | ⟨rfl, hw⟩
                    · refine lv_if_eq (tgt := 129) hx hb dX2_eliminate_118 (by decide) (fun c => absurd c (by decide)) (fun _ => ?_)
                      rw [RI_bes hRR hal hbl] at hw
                      have hnc := EI_room hE hDD (by omega) (x := a) (y := b) (by omega) (Or.inr ⟨hal, hbl, hvap, hvbn, hw⟩)
                      have hb9e := hw
                      have hfit := pair_fit hM hu9 hDD hRR hal hbl hvap hvbn hb9e
                      refine lv_aload_n hx hb dX2_eliminate_121 rfl (lv_at hl 4 rfl) ?_
                      refine lv_iload_n hx hb dX2_eliminate_122 rfl (lv_at hl 3 rfl) ?_
                      refine lv_iload hx hb dX2_eliminate_123 (lv_at hl 1 rfl) ?_
                      refine lv_iload_n hx hb dX2_eliminate_125 rfl (lv_at hl 5 rfl) ?_
                      have hFc : ∀ q, va_A (mdW m0 aN aR aX aO aP aH aL aW cI cJ vn ct nm tp bt an rw f og o rc q9 hh ll Dh Dl fT fB wd) H.size q → A q := va_fall hD hS hA
                      refine va_callv (va_runV (As := [.int (nI a), .int (nI b), .int (nI u)]) (rest := []) ⟨hx, hb, hml, hown, hts⟩ (c_X2_combine l dC dI H.size m0 aN aR aX aO aP aH aL aW cI cJ vn ct nm tp bt an rw f og o rc q9 hh ll Dh Dl fT fB wd a b u (by omega) (by omega) (by omega) hnc (hRR a hal).2.1 (hRR b hbl).2.1 (fun j hj => by have := hfit j hj; omega)) (cwV 3 hts gX2_eliminate_X2_combine rfl rfl rfl (by decide +kernel) ⟨Nat.le_of_ble_eq_true rfl, Nat.le_of_ble_eq_true rfl⟩) ⟨fun a U g mk q => by obtain ⟨q0, q1, qP, qK, qD⟩ := q; exact ⟨q0, q1, qP, va_K.moved (u := U) (U := U.calling g mk a) (Vm.Alike.refl U.vm) qK, qD⟩, va_recv hK hP (ci := 2) (q0 := 0) rfl rfl, fun U hU hW => ⟨rfl, by rw [hU], by rw [hU]; exact hP, va_K.moved hW.alike hK, hD.weaken (fun _ _ _ _ => trivial)⟩⟩ rfl rfl hl.1 rfl (lv_room (Nat.le_of_ble_eq_true rfl)) dX2_eliminate_126 ⟨(Nat.zero_le _), (Nat.zero_le _)⟩) hS (fun q _ h => hFc q h) hFc (fun v9 t H1 locs ht hvm hw hB hz1 hk1 hS => ?_)
                      obtain ⟨hP1, hK1, hD1⟩ := hB
                      rw [ht] at hP1
                      clear hP hD hK
                      have hK := va_K.moved hvm.symm hK1
                      have hP := hP1
                      have hD := hD1.weaken (B := A) (fun _ q _ h => hFc q.1 h)
                      clear hP1 hD1 hK1 hFc hk1 hz1 ht hvm
                      generalize H1 = H at hP hS ⊢
                      have hP : va_P (dC, dI) vwCl (mdW m0 aN aR aX aO aP aH aL aW cI cJ vn ct nm tp bt an rw v9.2.2.2.2 og (upd o q9 (og a ||| og b)) rc (q9 + 1) v9.1 v9.2.1 v9.2.2.1 v9.2.2.2.1 fT fB wd) H := hP
                      have hD : va_D A (mdW m0 aN aR aX aO aP aH aL aW cI cJ vn ct nm tp bt an rw v9.2.2.2.2 og (upd o q9 (og a ||| og b)) rc (q9 + 1) v9.1 v9.2.1 v9.2.2.1 v9.2.2.2.1 fT fB wd) := hD
                      refine lv_iinc (v := nI (b + 1)) (lv' := [(6, .int (nI (b + 1))), (7, .int (nI 1)), (4, .long (rw (11 * a + u))), (3, .int (nI a)), (0, .ref m0), (1, .int (nI u)), (2, .int (nI u))]) hx hb dX2_eliminate_129 hl (k := 1) rfl (nI_1 _) (by decide) rfl (fun ls hl => ?_)
                      refine lv_goto (tgt := 43) hx hb dX2_eliminate_132 (by decide) ?_
                      exact ih2 (b + 1) _ _ _ _ _ _ _ H _ ls (by omega) (EI_pair hM hu9 hE hDD hRR hal hbl hvap hvbn hb9e hw.1 hw.2) hP hK hD hS (lv_sub hl [0, 2, 3, 4, 5, 6] rfl)
                    · refine lv_if_eq (tgt := 129) hx hb dX2_eliminate_118 (by decide) (fun _ => ?_) (fun c => absurd rfl c)
                      rw [RI_bes hRR hal hbl] at hw
                      refine lv_iinc (v := nI (b + 1)) (lv' := [(6, .int (nI (b + 1))), (7, .int (nI 1)), (4, .long (rw (11 * a + u))), (3, .int (nI a)), (0, .ref m0), (1, .int (nI u)), (2, .int (nI u))]) hx hb dX2_eliminate_129 hl (k := 1) rfl (nI_1 _) (by decide) rfl (fun ls hl => ?_)
                      refine lv_goto (tgt := 43) hx hb dX2_eliminate_132 (by decide) ?_
                      exact ih2 (b + 1) f o q9 hh ll Dh Dl H _ ls (by omega) (EI_skip hE (fun g => by
                        rcases g with ⟨_, _, g3⟩ | ⟨_, _, _, _, g5⟩
                        · rw [g3] at hvap; grind
                        · exact hw g5)) hP hK hD hS (lv_sub hl [0, 2, 3, 4, 5, 6] rfl)
        rcases tri9 (rw (11 * a + u)) with hv0 | hv0 | hv0
        · refine lv_if_ne (tgt := 40) hx hb dX2_eliminate_32 (by decide) (fun c2 => ?_) (fun c2 => ?_)
          · rw [lg_cmp_eq] at c2
            exact absurd hv0 c2
          · have hvz : va n9 (clm Mx) u (W9 a) = 0 := by rw [hva, hv0]; rfl
            have hnc := EI_room hE hDD (by omega) (x := a) (y := a) (by omega) (Or.inl ⟨rfl, hal, hvz⟩)
            refine lv_aload_n hx hb dX2_eliminate_35 rfl (lv_at hl 2 rfl) ?_
            refine lv_iload_n hx hb dX2_eliminate_36 rfl (lv_at hl 1 rfl) ?_
            have hFc : ∀ q, va_A (mdW m0 aN aR aX aO aP aH aL aW cI cJ vn ct nm tp bt an rw f og o rc q9 hh ll Dh Dl fT fB wd) H.size q → A q := va_fall hD hS hA
            refine va_callv (va_runV (As := [.int (nI a)]) (rest := []) ⟨hx, hb, hml, hown, hts⟩ (c_X2_carry l dC dI H.size m0 aN aR aX aO aP aH aL aW cI cJ vn ct nm tp bt an rw f og o rc q9 hh ll Dh Dl fT fB wd a (by omega) hnc) (cwV 1 hts gX2_eliminate_X2_carry rfl rfl rfl (by decide +kernel) ⟨Nat.le_of_ble_eq_true rfl, Nat.le_of_ble_eq_true rfl⟩) ⟨fun a U g mk q => by obtain ⟨q0, q1, qP, qK, qD⟩ := q; exact ⟨q0, q1, qP, va_K.moved (u := U) (U := U.calling g mk a) (Vm.Alike.refl U.vm) qK, qD⟩, va_recv hK hP (ci := 2) (q0 := 0) rfl rfl, fun U hU hW => ⟨rfl, by rw [hU], by rw [hU]; exact hP, va_K.moved hW.alike hK, hD.weaken (fun _ _ _ _ => trivial)⟩⟩ rfl rfl hl.1 rfl (lv_room (Nat.le_of_ble_eq_true rfl)) dX2_eliminate_37 ⟨(Nat.zero_le _), (Nat.zero_le _)⟩) hS (fun q _ h => hFc q h) hFc (fun v9 t H1 locs ht hvm hw hB hz1 hk1 hS => ?_)
            obtain ⟨hP1, hK1, hD1⟩ := hB
            rw [ht] at hP1
            clear hP hD hK
            have hK := va_K.moved hvm.symm hK1
            have hP := hP1
            have hD := hD1.weaken (B := A) (fun _ q _ h => hFc q.1 h)
            clear hP1 hD1 hK1 hFc hk1 hz1 ht hvm
            generalize H1 = H at hP hS ⊢
            have hP : va_P (dC, dI) vwCl (mdW m0 aN aR aX aO aP aH aL aW cI cJ vn ct nm tp bt an rw (caF rw f a q9 11) og (upd o q9 (og a)) rc (q9 + 1) hh ll Dh Dl fT fB wd) H := hP
            have hD : va_D A (mdW m0 aN aR aX aO aP aH aL aW cI cJ vn ct nm tp bt an rw (caF rw f a q9 11) og (upd o q9 (og a)) rc (q9 + 1) hh ll Dh Dl fT fB wd) := hD
            refine lv_iconst (v := nI 0) hx hb dX2_eliminate_40 (by decide) ?_
            refine lv_istore (lv' := [(6, .int (nI 0)), (4, .long (rw ((11 * a) + u))), (3, .int (nI a)), (0, .ref m0), (1, .int (nI u)), (2, .int (nI u))]) hx hb dX2_eliminate_41 hl (by decide) rfl (fun ls hl => ?_)
            refine lv_iload hx hb dX2_eliminate_43 (lv_at hl 0 rfl) ?_
            refine lv_aload_n hx hb dX2_eliminate_45 rfl (lv_at hl 3 rfl) ?_
            refine va_get (D := (dC, dI)) (ci := 2) (v := .int (nI rc)) (C := RX2) (T := TX2) (N := 19) hx hb hts (fun _ h => List.mem_cons_of_mem _ (List.mem_append_right _ h)) hown hK hP 0 rfl rfl 10 (by decide) (hts (.fieldLink RX2 46 "RankFinderModel" "rowCount" "I") (List.mem_of_getElem? (i := 2) rfl)) (fun _ h9 => h9) rfl dX2_eliminate_46 ?_
            refine lv_icmp_ge (tgt := 135) hx hb dX2_eliminate_49 (by decide) (fun c3 => ?_) (fun c3 => ?_)
            · exact absurd c3 (nI_ge (by omega) (by omega))
            · refine lv_lload hx hb dX2_eliminate_52 (lv_at hl 1 rfl) ?_
              refine lv_lconst (v := 0) hx hb dX2_eliminate_54 (by decide) ?_
              refine W.lcmp hx hb dX2_eliminate_55 ?_
              refine lv_if_le (tgt := 135) hx hb dX2_eliminate_56 (by decide) (fun c4 => ?_) (fun c4 => ?_)
              · refine lv_iinc (v := nI (a + 1)) (lv' := [(3, .int (nI (a + 1))), (6, .int (nI 0)), (4, .long (rw ((11 * a) + u))), (0, .ref m0), (1, .int (nI u)), (2, .int (nI u))]) hx hb dX2_eliminate_135 hl (k := 2) rfl (nI_1 _) (by decide) rfl (fun ls hl => ?_)
                refine lv_goto (tgt := 7) hx hb dX2_eliminate_138 (by decide) ?_
                exact ih (a + 1) (caF rw f a q9 11) (upd o q9 (og a)) (q9 + 1) hh ll Dh Dl H _ ls (by omega) (EI_carry hE hRR hal hvz) hP hK hD hS (lv_sub hl [0, 3, 4, 5] rfl)
              · rw [lg_cmp_le] at c4
                exact absurd (by rw [hv0]; exact Int64.le_refl _) c4
        · refine lv_if_ne (tgt := 40) hx hb dX2_eliminate_32 (by decide) (fun c2 => ?_) (fun c2 => ?_)
          · clear c2
            refine lv_iconst (v := nI 0) hx hb dX2_eliminate_40 (by decide) ?_
            refine lv_istore (lv' := [(6, .int (nI 0)), (4, .long (rw ((11 * a) + u))), (3, .int (nI a)), (0, .ref m0), (1, .int (nI u)), (2, .int (nI u))]) hx hb dX2_eliminate_41 hl (by decide) rfl (fun ls hl => ?_)
            exact inner hv0 rc 0 f o q9 hh ll Dh Dl H _ ls (by omega) (EI_S hE (fun x y q => Or.inl q) (fun x y q _ => by omega)) hP hK hD hS (lv_sub hl [0, 1, 2, 3, 4, 5] rfl)
          · rw [lg_cmp_eq] at c2
            rw [c2] at hv0
            exact absurd hv0 (by decide)
        · refine lv_if_ne (tgt := 40) hx hb dX2_eliminate_32 (by decide) (fun c2 => ?_) (fun c2 => ?_)
          · clear c2
            refine lv_iconst (v := nI 0) hx hb dX2_eliminate_40 (by decide) ?_
            refine lv_istore (lv' := [(6, .int (nI 0)), (4, .long (rw ((11 * a) + u))), (3, .int (nI a)), (0, .ref m0), (1, .int (nI u)), (2, .int (nI u))]) hx hb dX2_eliminate_41 hl (by decide) rfl (fun ls hl => ?_)
            refine lv_iload hx hb dX2_eliminate_43 (lv_at hl 0 rfl) ?_
            refine lv_aload_n hx hb dX2_eliminate_45 rfl (lv_at hl 3 rfl) ?_
            refine va_get (D := (dC, dI)) (ci := 2) (v := .int (nI rc)) (C := RX2) (T := TX2) (N := 19) hx hb hts (fun _ h => List.mem_cons_of_mem _ (List.mem_append_right _ h)) hown hK hP 0 rfl rfl 10 (by decide) (hts (.fieldLink RX2 46 "RankFinderModel" "rowCount" "I") (List.mem_of_getElem? (i := 2) rfl)) (fun _ h9 => h9) rfl dX2_eliminate_46 ?_
            refine lv_icmp_ge (tgt := 135) hx hb dX2_eliminate_49 (by decide) (fun c3 => ?_) (fun c3 => ?_)
            · exact absurd c3 (nI_ge (by omega) (by omega))
            · refine lv_lload hx hb dX2_eliminate_52 (lv_at hl 1 rfl) ?_
              refine lv_lconst (v := 0) hx hb dX2_eliminate_54 (by decide) ?_
              refine W.lcmp hx hb dX2_eliminate_55 ?_
              refine lv_if_le (tgt := 135) hx hb dX2_eliminate_56 (by decide) (fun c4 => ?_) (fun c4 => ?_)
              · refine lv_iinc (v := nI (a + 1)) (lv' := [(3, .int (nI (a + 1))), (6, .int (nI 0)), (4, .long (rw ((11 * a) + u))), (0, .ref m0), (1, .int (nI u)), (2, .int (nI u))]) hx hb dX2_eliminate_135 hl (k := 2) rfl (nI_1 _) (by decide) rfl (fun ls hl => ?_)
                refine lv_goto (tgt := 7) hx hb dX2_eliminate_138 (by decide) ?_
                exact ih (a + 1) f o q9 hh ll Dh Dl H _ ls (by omega) (EI_S hE (fun x y q => by omega) (fun x y q g => by
                  by_cases e : x = a
                  · subst e
                    rw [Int64.lt_iff_toInt_lt] at hv0
                    have hvn : va n9 (clm Mx) u (W9 x) < 0 := by rw [hva, rz_n]; exact hv0
                    rcases g with ⟨_, _, g3⟩ | ⟨_, _, g3, _⟩
                    · rw [g3] at hvn; grind
                    · grind
                  · omega)) hP hK hD hS (lv_sub hl [0, 3, 4, 5] rfl)
              · rw [lg_cmp_le] at c4
                exact absurd (Int64.le_of_lt hv0) c4
          · rw [lg_cmp_eq] at c2
            rw [c2] at hv0
            exact absurd hv0 (by decide)
  refine lv_aload_n hx hb dX2_eliminate_0 rfl (lv_at hl 0 rfl) ?_
  refine lv_iconst (v := nI 0) hx hb dX2_eliminate_1 (by decide) ?_
  refine va_put (D := (dC, dI)) (ci := 2) (v := .int (nI 0)) (ty := .int) (C := RX2) (T := TX2) (N := 19) hx hb hts (fun _ h => List.mem_cons_of_mem _ (List.mem_append_right _ h)) tyX2 tyX2_ok nmX2 hown hK hP hD hS 0 rfl rfl 11 (by decide) (hts (.fieldLink RX2 83 "RankFinderModel" "nextCount" "I") (List.mem_of_getElem? (i := 1) rfl)) (fun _ h9 => h9) rfl (by decide +kernel) rfl rfl (Nat.le_of_ble_eq_true rfl) dX2_eliminate_2 (fun H locs hP hD hS => ?_)
  have hP : va_P (dC, dI) vwCl (mdW m0 aN aR aX aO aP aH aL aW cI cJ vn ct nm tp bt an rw nx og no rc 0 hgh lws dh dl fT fB wd) H := hP
  have hD : va_D A (mdW m0 aN aR aX aO aP aH aL aW cI cJ vn ct nm tp bt an rw nx og no rc 0 hgh lws dh dl fT fB wd) := hD
  refine lv_iconst (v := nI 0) hx hb dX2_eliminate_5 (by decide) ?_
  refine lv_istore_n (lv' := [(3, .int (nI 0)), (0, .ref m0), (1, .int (nI u)), (2, .int (nI u))]) hx hb dX2_eliminate_6 rfl hl (by decide) rfl (fun ls hl => ?_)
  exact loop rc 0 nx no 0 hgh lws dh dl H _ ls (by omega) (EI_0 _ _ _ _ _ _ _) hP hK hD hS (lv_sub hl [0, 1, 2, 3] rfl)
