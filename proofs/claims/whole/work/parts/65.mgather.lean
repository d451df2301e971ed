/-! ===== the reference: gather, share ===== -/
theorem pw_lt {hs g G : Nat} (h : 2 ^ hs * g = G) (h0 : 0 < G) (hG : G < 170141183460469231731687303715884105728) : hs < 127 ∧ g ≤ G := by
  have hg : 0 < g := by
    rcases Nat.eq_zero_or_pos g with e | e
    · rw [e] at h; omega
    · exact e
  have h1 : 2 ^ hs ≤ G := by rw [← h]; exact Nat.le_mul_of_pos_right _ hg
  have h2 : g ≤ G := by rw [← h]; exact Nat.le_mul_of_pos_left _ (Nat.two_pow_pos _)
  refine ⟨?_, h2⟩
  apply Classical.byContradiction
  intro q
  have := Nat.pow_le_pow_right (n := 2) (by decide) (show 127 ≤ hs by omega)
  rw [show (2:Nat) ^ 127 = 170141183460469231731687303715884105728 from rfl] at this
  omega
set_option maxHeartbeats 1000000 in
set_option maxRecDepth 100000 in
/-- gather(high, low) -/
theorem c_X2_gather (l : Launch) (dC : Nat → ClassId) (dI : Nat → Nat → Nat) (sz : Nat) (m0 aN aR aX aO aP aH aL aW : Nat) (cI cJ : ClassId) (vn ct : Nat) (nm : Nat → Int32) (tp bt : Int64) (an : Int32) (rw nx : Nat → Int64) (og no : Nat → Int32) (rc nc : Nat) (hgh lws : Nat → Int64) (dh dl fT fB : Int64) (wd : Nat → Int32) (xh xl : Int64) (hd9 : w2 dh dl < 170141183460469231731687303715884105728) (hx9 : w2 xh xl < 170141183460469231731687303715884105728) : Met l yX2_gather wsX2_gather ({ frames := 1, cells := 0, slots := 0, locals := 23 }) (va_Pc [.ref m0, .long xh, .long xl] (fun U => U.heap.size = sz ∧ va_P (dC, dI) vwCl (mdW m0 aN aR aX aO aP aH aL aW cI cJ vn ct nm tp bt an rw nx og no rc nc hgh lws dh dl fT fB wd) U.heap ∧ va_K (dC, dI) vwCl [(cI, .int), (cJ, .long)] U ∧ va_D (fun _ => True) (mdW m0 aN aR aX aO aP aH aL aW cI cJ vn ct nm tp bt an rw nx og no rc nc hgh lws dh dl fT fB wd))) (va_Qv (fun v : Int64 × Int64 => w2 v.1 v.2 = (Nat.gcd (w2 dh dl) (w2 xh xl))) (fun v t => va_P (dC, dI) vwCl (mdW m0 aN aR aX aO aP aH aL aW cI cJ vn ct nm tp bt an rw nx og no rc nc hgh lws v.1 v.2 fT fB wd) t.heap ∧ va_K (dC, dI) vwCl [(cI, .int), (cJ, .long)] t ∧ va_D (va_A (mdW m0 aN aR aX aO aP aH aL aW cI cJ vn ct nm tp bt an rw nx og no rc nc hgh lws dh dl fT fB wd) sz) (mdW m0 aN aR aX aO aP aH aL aW cI cJ vn ct nm tp bt an rw nx og no rc nc hgh lws v.1 v.2 fT fB wd)) (va_A (mdW m0 aN aR aX aO aP aH aL aW cI cJ vn ct nm tp bt an rw nx og no rc nc hgh lws dh dl fT fB wd) sz)) 0 0 (va_A (mdW m0 aN aR aX aO aP aH aL aW cI cJ vn ct nm tp bt an rw nx og no rc nc hgh lws dh dl fT fB wd) sz) := by
  refine Met.ofW (cc := cX2_gather) (maxL := 18) (ret := none) (by decide) rfl ?_
  intro p e s m args below meth c s₁ B hml hv
  obtain ⟨rfl, hsz, hP, hK, hD0⟩ := hv
  have hx := B.exec
  have hb := B.bytes
  have hr := B.returns
  have hts := atoms_spec (ws := wsX2_gather) B.pre
  have hown : s.vm.findClass RX2 = some m.cls := findClass_of_methodNamed B.named
  subst hsz
  have hD := hD0.self (sz := s.heap.size)
  clear hD0
  generalize hAe : va_A (mdW m0 aN aR aX aO aP aH aL aW cI cJ vn ct nm tp bt an rw nx og no rc nc hgh lws dh dl fT fB wd) s.heap.size = A at hD ⊢
  have hA : ∀ q : Nat, s.heap.size ≤ q → A q := fun q h => by rw [← hAe]; exact Or.inr h
  have hl := lv_entry ([.ref m0, .long xh, .long xl]) (n := 18) (Nat.le_of_ble_eq_true rfl)
  rw [lg_entry_eq]
  generalize (lg_sl ([.ref m0, .long xh, .long xl]) ++ List.replicate (18 - (lg_sl ([.ref m0, .long xh, .long xl])).length) Slot.unset).toArray = ls at hl ⊢
  have hl : lv_has ls 18 [(0, .ref m0), (1, .long xh), (3, .long xl)] := hl
  have hP : va_P (dC, dI) vwCl (mdW m0 aN aR aX aO aP aH aL aW cI cJ vn ct nm tp bt an rw nx og no rc nc hgh lws dh dl fT fB wd) s.heap := hP
  obtain ⟨H, hH⟩ : ∃ H, H = s.heap := ⟨_, rfl⟩
  have hS : va_S A s.heap H [] := by rw [hH]; exact va_S.rf
  rw [← hH] at hP ⊢
  have main : 0 < w2 dh dl → 0 < w2 xh xl → ∀ (H : Heap) (locs : List Loc) (ls : Array Slot), va_P (dC, dI) vwCl (mdW m0 aN aR aX aO aP aH aL aW cI cJ vn ct nm tp bt an rw nx og no rc nc hgh lws dh dl fT fB wd) H → va_K (dC, dI) vwCl [(cI, .int), (cJ, .long)] s → va_D A (mdW m0 aN aR aX aO aP aH aL aW cI cJ vn ct nm tp bt an rw nx og no rc nc hgh lws dh dl fT fB wd) → va_S A s.heap H locs → lv_has ls 18 [(13, .int (nI 0)), (5, .long dh), (7, .long dl), (9, .long xh), (11, .long xl), (0, .ref m0), (1, .long xh), (3, .long xl)] → W p l e (headSpec wsX2_gather ({ frames := 1, cells := 0, slots := 0, locals := 23 })).room s m #[.ref m0, .long xh, .long xl] below meth c H locs 0 0 (MQ below (va_Qv (fun v : Int64 × Int64 => w2 v.1 v.2 = (Nat.gcd (w2 dh dl) (w2 xh xl))) (fun v t => va_P (dC, dI) vwCl (mdW m0 aN aR aX aO aP aH aL aW cI cJ vn ct nm tp bt an rw nx og no rc nc hgh lws v.1 v.2 fT fB wd) t.heap ∧ va_K (dC, dI) vwCl [(cI, .int), (cJ, .long)] t ∧ va_D A (mdW m0 aN aR aX aO aP aH aL aW cI cJ vn ct nm tp bt an rw nx og no rc nc hgh lws v.1 v.2 fT fB wd)) A) #[.ref m0, .long xh, .long xl] s 0 0 A) (F0 m 63 ls []) := by
    clear hP hK hD hS hl
    intro hd0 hx0
    obtain ⟨G, hG⟩ : ∃ G, G = (Nat.gcd (w2 dh dl) (w2 xh xl)) := ⟨_, rfl⟩
    have hG0 : 0 < G := by rw [hG]; exact Nat.gcd_pos_of_pos_left _ hd0
    have hGb : G < 170141183460469231731687303715884105728 := by rw [hG]; exact Nat.lt_of_le_of_lt (Nat.gcd_le_left _ hd0) hd9
    have L4 : ∀ (hs : Nat), hs < 127 → ∀ (d k : Nat) (uh ul : Int64) (H : Heap) (locs : List Loc) (ls : Array Slot), k + d = hs → 2 ^ d * w2 uh ul = G → va_P (dC, dI) vwCl (mdW m0 aN aR aX aO aP aH aL aW cI cJ vn ct nm tp bt an rw nx og no rc nc hgh lws dh dl fT fB wd) H → va_K (dC, dI) vwCl [(cI, .int), (cJ, .long)] s → va_D A (mdW m0 aN aR aX aO aP aH aL aW cI cJ vn ct nm tp bt an rw nx og no rc nc hgh lws dh dl fT fB wd) → va_S A s.heap H locs → lv_has ls 18 [(14, .int (nI k)), (13, .int (nI hs)), (5, .long uh), (7, .long ul), (0, .ref m0), (1, .long xh), (3, .long xl)] → W p l e (headSpec wsX2_gather ({ frames := 1, cells := 0, slots := 0, locals := 23 })).room s m #[.ref m0, .long xh, .long xl] below meth c H locs 0 0 (MQ below (va_Qv (fun v : Int64 × Int64 => w2 v.1 v.2 = (Nat.gcd (w2 dh dl) (w2 xh xl))) (fun v t => va_P (dC, dI) vwCl (mdW m0 aN aR aX aO aP aH aL aW cI cJ vn ct nm tp bt an rw nx og no rc nc hgh lws v.1 v.2 fT fB wd) t.heap ∧ va_K (dC, dI) vwCl [(cI, .int), (cJ, .long)] t ∧ va_D A (mdW m0 aN aR aX aO aP aH aL aW cI cJ vn ct nm tp bt an rw nx og no rc nc hgh lws v.1 v.2 fT fB wd)) A) #[.ref m0, .long xh, .long xl] s 0 0 A) (F0 m 277 ls []) := by
      intro hs hhs d
      induction d with
      | zero =>
        intro k uh ul H locs ls hk hu hP hK hD hS hl
        refine lv_iload hx hb dX2_gather_277 (lv_at hl 0 rfl) ?_
        refine lv_iload hx hb dX2_gather_279 (lv_at hl 1 rfl) ?_
        refine lv_icmp_ge (tgt := 308) hx hb dX2_gather_281 (by decide) (fun c1 => ?_) (fun c1 => ?_)
        · refine lv_aload_n hx hb dX2_gather_308 rfl (lv_at hl 4 rfl) ?_
          refine lv_lload hx hb dX2_gather_309 (lv_at hl 2 rfl) ?_
          refine va_put (D := (dC, dI)) (ci := 2) (v := .long uh) (ty := .long) (C := RX2) (T := TX2) (N := 19) hx hb hts (fun _ h => List.mem_cons_of_mem _ (List.mem_append_right _ h)) tyX2 tyX2_ok nmX2 hown hK hP hD hS 0 rfl rfl 14 (by decide) (hts (.fieldLink RX2 65 "RankFinderModel" "divisorHigh" "J") (List.mem_of_getElem? (i := 1) rfl)) (fun _ h9 => h9) rfl (by decide +kernel) rfl rfl (Nat.le_of_ble_eq_true rfl) dX2_gather_311 (fun H locs hP hD hS => ?_)
          have hP : va_P (dC, dI) vwCl (mdW m0 aN aR aX aO aP aH aL aW cI cJ vn ct nm tp bt an rw nx og no rc nc hgh lws uh dl fT fB wd) H := hP
          have hD : va_D A (mdW m0 aN aR aX aO aP aH aL aW cI cJ vn ct nm tp bt an rw nx og no rc nc hgh lws uh dl fT fB wd) := hD
          refine lv_aload_n hx hb dX2_gather_314 rfl (lv_at hl 4 rfl) ?_
          refine lv_lload hx hb dX2_gather_315 (lv_at hl 3 rfl) ?_
          refine va_put (D := (dC, dI)) (ci := 2) (v := .long ul) (ty := .long) (C := RX2) (T := TX2) (N := 19) hx hb hts (fun _ h => List.mem_cons_of_mem _ (List.mem_append_right _ h)) tyX2 tyX2_ok nmX2 hown hK hP hD hS 0 rfl rfl 15 (by decide) (hts (.fieldLink RX2 69 "RankFinderModel" "divisorLow" "J") (List.mem_of_getElem? (i := 2) rfl)) (fun _ h9 => h9) rfl (by decide +kernel) rfl rfl (Nat.le_of_ble_eq_true rfl) dX2_gather_317 (fun H locs hP hD hS => ?_)
          have hP : va_P (dC, dI) vwCl (mdW m0 aN aR aX aO aP aH aL aW cI cJ vn ct nm tp bt an rw nx og no rc nc hgh lws uh ul fT fB wd) H := hP
          have hD : va_D A (mdW m0 aN aR aX aO aP aH aL aW cI cJ vn ct nm tp bt an rw nx og no rc nc hgh lws uh ul fT fB wd) := hD
          exact W.vret hx hb hr (fun t ht hW => ⟨⟨(uh, ul), rfl, by rw [← hG, ← hu]; show w2 uh ul = _; omega, by rw [ht]; exact hP, va_K.moved hW.alike hK, hD⟩, hS.F ht⟩) hS.2.2 dX2_gather_320
        · exact absurd (nI_le (by omega) (by omega)) c1
      | succ d ih =>
        intro k uh ul H locs ls hk hu hP hK hD hS hl
        refine lv_iload hx hb dX2_gather_277 (lv_at hl 0 rfl) ?_
        refine lv_iload hx hb dX2_gather_279 (lv_at hl 1 rfl) ?_
        refine lv_icmp_ge (tgt := 308) hx hb dX2_gather_281 (by decide) (fun c1 => ?_) (fun c1 => ?_)
        · exact absurd c1 (nI_ge (by omega) (by omega))
        · have hub := (pw_lt hu hG0 hGb).2
          refine lv_lload hx hb dX2_gather_284 (lv_at hl 2 rfl) ?_
          refine lv_iconst (v := nI 1) hx hb dX2_gather_286 (by decide) ?_
          refine lv_lshl hx hb dX2_gather_287 rfl ?_
          refine lv_lload hx hb dX2_gather_288 (lv_at hl 3 rfl) ?_
          refine lv_bipush (v := nI 63) hx hb dX2_gather_290 (by decide) ?_
          refine lv_lushr hx hb dX2_gather_292 rfl ?_
          refine lv_lor hx hb dX2_gather_293 ?_
          refine lv_lstore (lv' := [(5, .long ((uh <<< (Int32.toInt64 (nI 1) &&& 63)) ||| ((Int64.toUInt64 ul >>> ((Int32.toInt64 (nI 63)).toUInt64 &&& Int64.toUInt64 63)).toInt64))), (14, .int (nI k)), (13, .int (nI hs)), (7, .long ul), (0, .ref m0), (1, .long xh), (3, .long xl)]) hx hb dX2_gather_294 hl (by decide) rfl (fun ls hl => ?_)
          refine lv_lload hx hb dX2_gather_296 (lv_at hl 3 rfl) ?_
          refine lv_iconst (v := nI 1) hx hb dX2_gather_298 (by decide) ?_
          refine lv_lshl hx hb dX2_gather_299 rfl ?_
          refine lv_lstore (lv' := [(7, .long (ul <<< (Int32.toInt64 (nI 1) &&& 63))), (5, .long ((uh <<< (Int32.toInt64 (nI 1) &&& 63)) ||| ((Int64.toUInt64 ul >>> ((Int32.toInt64 (nI 63)).toUInt64 &&& Int64.toUInt64 63)).toInt64))), (14, .int (nI k)), (13, .int (nI hs)), (0, .ref m0), (1, .long xh), (3, .long xl)]) hx hb dX2_gather_300 hl (by decide) rfl (fun ls hl => ?_)
          refine lv_iinc (v := nI (k + 1)) (lv' := [(14, .int (nI (k + 1))), (7, .long (ul <<< (Int32.toInt64 (nI 1) &&& 63))), (5, .long ((uh <<< (Int32.toInt64 (nI 1) &&& 63)) ||| ((Int64.toUInt64 ul >>> ((Int32.toInt64 (nI 63)).toUInt64 &&& Int64.toUInt64 63)).toInt64))), (13, .int (nI hs)), (0, .ref m0), (1, .long xh), (3, .long xl)]) hx hb dX2_gather_302 hl (k := 2) rfl (nI_1 _) (by decide) rfl (fun ls hl => ?_)
          refine lv_goto (tgt := 277) hx hb dX2_gather_305 (by decide) ?_
          exact ih (k + 1) (sl uh (nI 1) ||| ur ul (nI 63)) (sl ul (nI 1)) H _ ls (by omega) (by rw [w2_dbl (by omega), ← hu, Nat.pow_succ]; grind) hP hK hD hS (lv_sub hl [0, 3, 2, 1, 4, 5, 6] rfl)
    have L3 : ∀ (hs : Nat), hs < 127 → ∀ (d : Nat) (uh ul vh vl : Int64) (H : Heap) (locs : List Loc) (ls : Array Slot), w2 uh ul + w2 vh vl ≤ d → w2 uh ul < 170141183460469231731687303715884105728 → w2 vh vl < 170141183460469231731687303715884105728 → w2 uh ul % 2 = 1 → 2 ^ hs * Nat.gcd (w2 uh ul) (w2 vh vl) = G → va_P (dC, dI) vwCl (mdW m0 aN aR aX aO aP aH aL aW cI cJ vn ct nm tp bt an rw nx og no rc nc hgh lws dh dl fT fB wd) H → va_K (dC, dI) vwCl [(cI, .int), (cJ, .long)] s → va_D A (mdW m0 aN aR aX aO aP aH aL aW cI cJ vn ct nm tp bt an rw nx og no rc nc hgh lws dh dl fT fB wd) → va_S A s.heap H locs → lv_has ls 18 [(13, .int (nI hs)), (5, .long uh), (7, .long ul), (9, .long vh), (11, .long vl), (0, .ref m0), (1, .long xh), (3, .long xl)] → W p l e (headSpec wsX2_gather ({ frames := 1, cells := 0, slots := 0, locals := 23 })).room s m #[.ref m0, .long xh, .long xl] below meth c H locs 0 0 (MQ below (va_Qv (fun v : Int64 × Int64 => w2 v.1 v.2 = (Nat.gcd (w2 dh dl) (w2 xh xl))) (fun v t => va_P (dC, dI) vwCl (mdW m0 aN aR aX aO aP aH aL aW cI cJ vn ct nm tp bt an rw nx og no rc nc hgh lws v.1 v.2 fT fB wd) t.heap ∧ va_K (dC, dI) vwCl [(cI, .int), (cJ, .long)] t ∧ va_D A (mdW m0 aN aR aX aO aP aH aL aW cI cJ vn ct nm tp bt an rw nx og no rc nc hgh lws v.1 v.2 fT fB wd)) A) #[.ref m0, .long xh, .long xl] s 0 0 A) (F0 m 147 ls []) := by
      intro hs hhs d
      induction d with
      | zero => intro uh ul vh vl H locs ls hd9 hub hvb huo; exact absurd huo (by omega)
      | succ d ih =>
        intro uh ul vh vl H locs ls hd9 hub hvb huo hg hP hK hD hS hl
        have fin : ∀ (uh ul vh vl : Int64) (H : Heap) (locs : List Loc) (ls : Array Slot), w2 uh ul + w2 vh vl ≤ d + 1 → w2 uh ul < 170141183460469231731687303715884105728 → w2 vh vl < 170141183460469231731687303715884105728 → w2 uh ul % 2 = 1 → w2 uh ul ≤ w2 vh vl → 2 ^ hs * Nat.gcd (w2 uh ul) (w2 vh vl) = G → va_P (dC, dI) vwCl (mdW m0 aN aR aX aO aP aH aL aW cI cJ vn ct nm tp bt an rw nx og no rc nc hgh lws dh dl fT fB wd) H → va_K (dC, dI) vwCl [(cI, .int), (cJ, .long)] s → va_D A (mdW m0 aN aR aX aO aP aH aL aW cI cJ vn ct nm tp bt an rw nx og no rc nc hgh lws dh dl fT fB wd) → va_S A s.heap H locs → lv_has ls 18 [(13, .int (nI hs)), (5, .long uh), (7, .long ul), (9, .long vh), (11, .long vl), (0, .ref m0), (1, .long xh), (3, .long xl)] → W p l e (headSpec wsX2_gather ({ frames := 1, cells := 0, slots := 0, locals := 23 })).room s m #[.ref m0, .long xh, .long xl] below meth c H locs 0 0 (MQ below (va_Qv (fun v : Int64 × Int64 => w2 v.1 v.2 = (Nat.gcd (w2 dh dl) (w2 xh xl))) (fun v t => va_P (dC, dI) vwCl (mdW m0 aN aR aX aO aP aH aL aW cI cJ vn ct nm tp bt an rw nx og no rc nc hgh lws v.1 v.2 fT fB wd) t.heap ∧ va_K (dC, dI) vwCl [(cI, .int), (cJ, .long)] t ∧ va_D A (mdW m0 aN aR aX aO aP aH aL aW cI cJ vn ct nm tp bt an rw nx og no rc nc hgh lws v.1 v.2 fT fB wd)) A) #[.ref m0, .long xh, .long xl] s 0 0 A) (F0 m 241 ls []) := by
          clear hP hK hD hS hl hg hub hvb huo hd9
          intro uh ul vh vl H locs ls hd9 hub hvb huo hle hg hP hK hD hS hl
          refine lv_lload hx hb dX2_gather_241 (lv_at hl 3 rfl) ?_
          refine lv_lload hx hb dX2_gather_243 (lv_at hl 1 rfl) ?_
          refine lv_lsub hx hb dX2_gather_245 ?_
          refine lv_lload hx hb dX2_gather_246 (lv_at hl 4 rfl) ?_
          refine lv_lload hx hb dX2_gather_248 (lv_at hl 2 rfl) ?_
          have hFc : ∀ q, va_A ([] : va_W) H.size q → A q := fun q h => va_nilA hS hA q h
          refine va_calli (va_runS (As := [.long vl, .long ul]) (rest := [.long (vh - uh)]) ⟨hx, hb, hml, hown, hts⟩ (c_X2_isBelow l dC dI H.size vl ul) (va_cwS 2 hts gX2_gather_X2_isBelow rfl rfl rfl (by decide +kernel) ⟨Nat.le_of_ble_eq_true rfl, Nat.le_of_ble_eq_true rfl⟩) ⟨fun a U g mk q => by obtain ⟨q0, q1, qP, qK, qD⟩ := q; exact ⟨q0, q1, qP, va_K.moved (u := U) (U := U.calling g mk a) (Vm.Alike.refl U.vm) qK, qD⟩, fun U hU hW => ⟨rfl, by rw [hU], va_nilP, va_K.moved hW.alike (hK.sub (tys' := []) [] rfl), va_nilD⟩⟩ rfl rfl hl.1 rfl (lv_room (Nat.le_of_ble_eq_true rfl)) dX2_gather_250 ⟨(Nat.zero_le _), (Nat.zero_le _)⟩) hS (fun q _ h => hFc q h) hFc (fun r_250 v9 t H1 locs ht hvm hw hB hz1 hk1 hS => ?_)
          have hP := va_keep hP hk1
          clear hB hk1 hz1 ht hvm hFc
          generalize H1 = H at hP hS ⊢
          rcases hw with ⟨rfl, hq⟩ | ⟨rfl, hq⟩
          · refine lv_if_eq (tgt := 260) hx hb dX2_gather_253 (by decide) (fun c => absurd c (by decide)) (fun _ => ?_)
            refine lv_lconst (v := 1) hx hb dX2_gather_256 (by decide) ?_
            refine lv_goto (tgt := 261) hx hb dX2_gather_257 (by decide) ?_
            refine lv_lsub hx hb dX2_gather_261 ?_
            refine lv_lstore (lv' := [(9, .long ((vh - uh) - 1)), (13, .int (nI hs)), (5, .long uh), (7, .long ul), (11, .long vl), (0, .ref m0), (1, .long xh), (3, .long xl)]) hx hb dX2_gather_262 hl (by decide) rfl (fun ls hl => ?_)
            refine lv_lload hx hb dX2_gather_264 (lv_at hl 4 rfl) ?_
            refine lv_lload hx hb dX2_gather_266 (lv_at hl 3 rfl) ?_
            refine lv_lsub hx hb dX2_gather_268 ?_
            refine lv_lstore (lv' := [(11, .long (vl - ul)), (9, .long ((vh - uh) - 1)), (13, .int (nI hs)), (5, .long uh), (7, .long ul), (0, .ref m0), (1, .long xh), (3, .long xl)]) hx hb dX2_gather_269 hl (by decide) rfl (fun ls hl => ?_)
            refine lv_goto (tgt := 147) hx hb dX2_gather_271 (by decide) ?_
            have e9 : w2 (vh - uh - 1) (vl - ul) = w2 vh vl - w2 uh ul := w2_sub hle (by rw [if_pos hq])
            exact ih uh ul (vh - uh - 1) (vl - ul) H _ ls (by rw [e9]; omega) hub (by rw [e9]; omega) huo (by rw [e9, gcd_sub hle]; exact hg) hP hK hD hS (lv_sub hl [2, 3, 4, 1, 0, 5, 6, 7] rfl)
          · refine lv_if_eq (tgt := 260) hx hb dX2_gather_253 (by decide) (fun _ => ?_) (fun c => absurd rfl c)
            refine lv_lconst (v := 0) hx hb dX2_gather_260 (by decide) ?_
            refine lv_lsub hx hb dX2_gather_261 ?_
            refine lv_lstore (lv' := [(9, .long ((vh - uh) - 0)), (13, .int (nI hs)), (5, .long uh), (7, .long ul), (11, .long vl), (0, .ref m0), (1, .long xh), (3, .long xl)]) hx hb dX2_gather_262 hl (by decide) rfl (fun ls hl => ?_)
            refine lv_lload hx hb dX2_gather_264 (lv_at hl 4 rfl) ?_
            refine lv_lload hx hb dX2_gather_266 (lv_at hl 3 rfl) ?_
            refine lv_lsub hx hb dX2_gather_268 ?_
            refine lv_lstore (lv' := [(11, .long (vl - ul)), (9, .long ((vh - uh) - 0)), (13, .int (nI hs)), (5, .long uh), (7, .long ul), (0, .ref m0), (1, .long xh), (3, .long xl)]) hx hb dX2_gather_269 hl (by decide) rfl (fun ls hl => ?_)
            refine lv_goto (tgt := 147) hx hb dX2_gather_271 (by decide) ?_
            have e9 : w2 (vh - uh - 0) (vl - ul) = w2 vh vl - w2 uh ul := w2_sub hle (by rw [if_neg hq])
            exact ih uh ul (vh - uh - 0) (vl - ul) H _ ls (by rw [e9]; omega) hub (by rw [e9]; omega) huo (by rw [e9, gcd_sub hle]; exact hg) hP hK hD hS (lv_sub hl [2, 3, 4, 1, 0, 5, 6, 7] rfl)
        have inn : 0 < w2 vh vl → ∀ (d2 : Nat) (vh vl : Int64) (H : Heap) (locs : List Loc) (ls : Array Slot), w2 vh vl ≤ d2 → 0 < w2 vh vl → w2 uh ul + w2 vh vl ≤ d + 1 → w2 vh vl < 170141183460469231731687303715884105728 → 2 ^ hs * Nat.gcd (w2 uh ul) (w2 vh vl) = G → va_P (dC, dI) vwCl (mdW m0 aN aR aX aO aP aH aL aW cI cJ vn ct nm tp bt an rw nx og no rc nc hgh lws dh dl fT fB wd) H → va_K (dC, dI) vwCl [(cI, .int), (cJ, .long)] s → va_D A (mdW m0 aN aR aX aO aP aH aL aW cI cJ vn ct nm tp bt an rw nx og no rc nc hgh lws dh dl fT fB wd) → va_S A s.heap H locs → lv_has ls 18 [(13, .int (nI hs)), (5, .long uh), (7, .long ul), (9, .long vh), (11, .long vl), (0, .ref m0), (1, .long xh), (3, .long xl)] → W p l e (headSpec wsX2_gather ({ frames := 1, cells := 0, slots := 0, locals := 23 })).room s m #[.ref m0, .long xh, .long xl] below meth c H locs 0 0 (MQ below (va_Qv (fun v : Int64 × Int64 => w2 v.1 v.2 = (Nat.gcd (w2 dh dl) (w2 xh xl))) (fun v t => va_P (dC, dI) vwCl (mdW m0 aN aR aX aO aP aH aL aW cI cJ vn ct nm tp bt an rw nx og no rc nc hgh lws v.1 v.2 fT fB wd) t.heap ∧ va_K (dC, dI) vwCl [(cI, .int), (cJ, .long)] t ∧ va_D A (mdW m0 aN aR aX aO aP aH aL aW cI cJ vn ct nm tp bt an rw nx og no rc nc hgh lws v.1 v.2 fT fB wd)) A) #[.ref m0, .long xh, .long xl] s 0 0 A) (F0 m 161 ls []) := by
          clear hP hK hD hS hl hg hd9 hvb
          intro _ d2
          induction d2 with
          | zero => intro vh vl H locs ls h1 h2; omega
          | succ d2 ih2 =>
            intro vh vl H locs ls h1 h2 hd9 hvb hg hP hK hD hS hl
            refine lv_lload hx hb dX2_gather_161 (lv_at hl 4 rfl) ?_
            refine lv_lconst (v := 1) hx hb dX2_gather_163 (by decide) ?_
            refine lv_land hx hb dX2_gather_164 ?_
            refine lv_lconst (v := 0) hx hb dX2_gather_165 (by decide) ?_
            refine W.lcmp hx hb dX2_gather_166 ?_
            refine lv_if_ne (tgt := 191) hx hb dX2_gather_167 (by decide) (fun c1 => ?_) (fun c1 => ?_)
            · rw [lg_cmp_eq, w2_odd (h := vh)] at c1
              refine lv_lload hx hb dX2_gather_191 (lv_at hl 3 rfl) ?_
              refine lv_lload hx hb dX2_gather_193 (lv_at hl 1 rfl) ?_
              refine W.lcmp hx hb dX2_gather_195 ?_
              refine lv_if_lt (tgt := 217) hx hb dX2_gather_196 (by decide) (fun c2 => ?_) (fun c2 => ?_)
              · rw [lg_cmp_lt] at c2
                refine lv_lload hx hb dX2_gather_217 (lv_at hl 3 rfl) ?_
                refine lv_lstore (lv' := [(14, .long vh), (13, .int (nI hs)), (5, .long uh), (7, .long ul), (9, .long vh), (11, .long vl), (0, .ref m0), (1, .long xh), (3, .long xl)]) hx hb dX2_gather_219 hl (by decide) rfl (fun ls hl => ?_)
                refine lv_lload hx hb dX2_gather_221 (lv_at hl 5 rfl) ?_
                refine lv_lstore (lv' := [(16, .long vl), (14, .long vh), (13, .int (nI hs)), (5, .long uh), (7, .long ul), (9, .long vh), (11, .long vl), (0, .ref m0), (1, .long xh), (3, .long xl)]) hx hb dX2_gather_223 hl (by decide) rfl (fun ls hl => ?_)
                refine lv_lload hx hb dX2_gather_225 (lv_at hl 3 rfl) ?_
                refine lv_lstore (lv' := [(9, .long uh), (16, .long vl), (14, .long vh), (13, .int (nI hs)), (5, .long uh), (7, .long ul), (11, .long vl), (0, .ref m0), (1, .long xh), (3, .long xl)]) hx hb dX2_gather_227 hl (by decide) rfl (fun ls hl => ?_)
                refine lv_lload hx hb dX2_gather_229 (lv_at hl 5 rfl) ?_
                refine lv_lstore (lv' := [(11, .long ul), (9, .long uh), (16, .long vl), (14, .long vh), (13, .int (nI hs)), (5, .long uh), (7, .long ul), (0, .ref m0), (1, .long xh), (3, .long xl)]) hx hb dX2_gather_231 hl (by decide) rfl (fun ls hl => ?_)
                refine lv_lload hx hb dX2_gather_233 (lv_at hl 3 rfl) ?_
                refine lv_lstore (lv' := [(5, .long vh), (11, .long ul), (9, .long uh), (16, .long vl), (14, .long vh), (13, .int (nI hs)), (7, .long ul), (0, .ref m0), (1, .long xh), (3, .long xl)]) hx hb dX2_gather_235 hl (by decide) rfl (fun ls hl => ?_)
                refine lv_lload hx hb dX2_gather_237 (lv_at hl 3 rfl) ?_
                refine lv_lstore (lv' := [(7, .long vl), (5, .long vh), (11, .long ul), (9, .long uh), (16, .long vl), (14, .long vh), (13, .int (nI hs)), (0, .ref m0), (1, .long xh), (3, .long xl)]) hx hb dX2_gather_239 hl (by decide) rfl (fun ls hl => ?_)
                exact fin vh vl uh ul H _ ls (by omega) hvb hub (by omega) (Nat.le_of_lt (w2_lt1 hvb hub c2)) (by rw [Nat.gcd_comm]; exact hg) hP hK hD hS (lv_sub hl [6, 1, 0, 3, 2, 7, 8, 9] rfl)
              · rw [lg_cmp_lt] at c2
                refine lv_lload hx hb dX2_gather_199 (lv_at hl 3 rfl) ?_
                refine lv_lload hx hb dX2_gather_201 (lv_at hl 1 rfl) ?_
                refine W.lcmp hx hb dX2_gather_203 ?_
                refine lv_if_ne (tgt := 241) hx hb dX2_gather_204 (by decide) (fun c3 => ?_) (fun c3 => ?_)
                · rw [lg_cmp_eq] at c3
                  exact fin uh ul vh vl H _ ls (by omega) hub hvb huo (w2_le1 hvb hub c2 c3) hg hP hK hD hS (lv_sub hl [0, 1, 2, 3, 4, 5, 6, 7] rfl)
                · rw [lg_cmp_eq] at c3
                  refine lv_lload hx hb dX2_gather_207 (lv_at hl 4 rfl) ?_
                  refine lv_lload hx hb dX2_gather_209 (lv_at hl 2 rfl) ?_
                  have hFc : ∀ q, va_A ([] : va_W) H.size q → A q := fun q h => va_nilA hS hA q h
                  refine va_calli (va_runS (As := [.long vl, .long ul]) (rest := []) ⟨hx, hb, hml, hown, hts⟩ (c_X2_isBelow l dC dI H.size vl ul) (va_cwS 2 hts gX2_gather_X2_isBelow rfl rfl rfl (by decide +kernel) ⟨Nat.le_of_ble_eq_true rfl, Nat.le_of_ble_eq_true rfl⟩) ⟨fun a U g mk q => by obtain ⟨q0, q1, qP, qK, qD⟩ := q; exact ⟨q0, q1, qP, va_K.moved (u := U) (U := U.calling g mk a) (Vm.Alike.refl U.vm) qK, qD⟩, fun U hU hW => ⟨rfl, by rw [hU], va_nilP, va_K.moved hW.alike (hK.sub (tys' := []) [] rfl), va_nilD⟩⟩ rfl rfl hl.1 rfl (lv_room (Nat.le_of_ble_eq_true rfl)) dX2_gather_211 ⟨(Nat.zero_le _), (Nat.zero_le _)⟩) hS (fun q _ h => hFc q h) hFc (fun r_211 v9 t H1 locs ht hvm hw hB hz1 hk1 hS => ?_)
                  have hP := va_keep hP hk1
                  clear hB hk1 hz1 ht hvm hFc
                  generalize H1 = H at hP hS ⊢
                  rcases hw with ⟨rfl, hq⟩ | ⟨rfl, hq⟩
                  · refine lv_if_eq (tgt := 241) hx hb dX2_gather_214 (by decide) (fun c => absurd c (by decide)) (fun _ => ?_)
                    refine lv_lload hx hb dX2_gather_217 (lv_at hl 3 rfl) ?_
                    refine lv_lstore (lv' := [(14, .long vh), (13, .int (nI hs)), (5, .long uh), (7, .long ul), (9, .long vh), (11, .long vl), (0, .ref m0), (1, .long xh), (3, .long xl)]) hx hb dX2_gather_219 hl (by decide) rfl (fun ls hl => ?_)
                    refine lv_lload hx hb dX2_gather_221 (lv_at hl 5 rfl) ?_
                    refine lv_lstore (lv' := [(16, .long vl), (14, .long vh), (13, .int (nI hs)), (5, .long uh), (7, .long ul), (9, .long vh), (11, .long vl), (0, .ref m0), (1, .long xh), (3, .long xl)]) hx hb dX2_gather_223 hl (by decide) rfl (fun ls hl => ?_)
                    refine lv_lload hx hb dX2_gather_225 (lv_at hl 3 rfl) ?_
                    refine lv_lstore (lv' := [(9, .long uh), (16, .long vl), (14, .long vh), (13, .int (nI hs)), (5, .long uh), (7, .long ul), (11, .long vl), (0, .ref m0), (1, .long xh), (3, .long xl)]) hx hb dX2_gather_227 hl (by decide) rfl (fun ls hl => ?_)
                    refine lv_lload hx hb dX2_gather_229 (lv_at hl 5 rfl) ?_
                    refine lv_lstore (lv' := [(11, .long ul), (9, .long uh), (16, .long vl), (14, .long vh), (13, .int (nI hs)), (5, .long uh), (7, .long ul), (0, .ref m0), (1, .long xh), (3, .long xl)]) hx hb dX2_gather_231 hl (by decide) rfl (fun ls hl => ?_)
                    refine lv_lload hx hb dX2_gather_233 (lv_at hl 3 rfl) ?_
                    refine lv_lstore (lv' := [(5, .long vh), (11, .long ul), (9, .long uh), (16, .long vl), (14, .long vh), (13, .int (nI hs)), (7, .long ul), (0, .ref m0), (1, .long xh), (3, .long xl)]) hx hb dX2_gather_235 hl (by decide) rfl (fun ls hl => ?_)
                    refine lv_lload hx hb dX2_gather_237 (lv_at hl 3 rfl) ?_
                    refine lv_lstore (lv' := [(7, .long vl), (5, .long vh), (11, .long ul), (9, .long uh), (16, .long vl), (14, .long vh), (13, .int (nI hs)), (0, .ref m0), (1, .long xh), (3, .long xl)]) hx hb dX2_gather_239 hl (by decide) rfl (fun ls hl => ?_)
                    exact fin vh vl uh ul H _ ls (by omega) hvb hub (by omega) (Nat.le_of_lt (by rw [c3]; exact w2_lt2 hq)) (by rw [Nat.gcd_comm]; exact hg) hP hK hD hS (lv_sub hl [6, 1, 0, 3, 2, 7, 8, 9] rfl)
                  · refine lv_if_eq (tgt := 241) hx hb dX2_gather_214 (by decide) (fun _ => ?_) (fun c => absurd rfl c)
                    exact fin uh ul vh vl H _ ls (by omega) hub hvb huo (by rw [c3]; exact w2_le2 hq) hg hP hK hD hS (lv_sub hl [0, 1, 2, 3, 4, 5, 6, 7] rfl)
            · rw [lg_cmp_eq, w2_odd (h := vh)] at c1
              refine lv_lload hx hb dX2_gather_170 (lv_at hl 4 rfl) ?_
              refine lv_iconst (v := nI 1) hx hb dX2_gather_172 (by decide) ?_
              refine lv_lushr hx hb dX2_gather_173 rfl ?_
              refine lv_lload hx hb dX2_gather_174 (lv_at hl 3 rfl) ?_
              refine lv_bipush (v := nI 63) hx hb dX2_gather_176 (by decide) ?_
              refine lv_lshl hx hb dX2_gather_178 rfl ?_
              refine lv_lor hx hb dX2_gather_179 ?_
              refine lv_lstore (lv' := [(11, .long (((Int64.toUInt64 vl >>> ((Int32.toInt64 (nI 1)).toUInt64 &&& Int64.toUInt64 63)).toInt64) ||| (vh <<< (Int32.toInt64 (nI 63) &&& 63)))), (13, .int (nI hs)), (5, .long uh), (7, .long ul), (9, .long vh), (0, .ref m0), (1, .long xh), (3, .long xl)]) hx hb dX2_gather_180 hl (by decide) rfl (fun ls hl => ?_)
              refine lv_lload hx hb dX2_gather_182 (lv_at hl 4 rfl) ?_
              refine lv_iconst (v := nI 1) hx hb dX2_gather_184 (by decide) ?_
              refine lv_lushr hx hb dX2_gather_185 rfl ?_
              refine lv_lstore (lv' := [(9, .long ((Int64.toUInt64 vh >>> ((Int32.toInt64 (nI 1)).toUInt64 &&& Int64.toUInt64 63)).toInt64)), (11, .long (((Int64.toUInt64 vl >>> ((Int32.toInt64 (nI 1)).toUInt64 &&& Int64.toUInt64 63)).toInt64) ||| (vh <<< (Int32.toInt64 (nI 63) &&& 63)))), (13, .int (nI hs)), (5, .long uh), (7, .long ul), (0, .ref m0), (1, .long xh), (3, .long xl)]) hx hb dX2_gather_186 hl (by decide) rfl (fun ls hl => ?_)
              refine lv_goto (tgt := 161) hx hb dX2_gather_188 (by decide) ?_
              have e9 := w2_half vh vl
              exact ih2 (ur vh (nI 1)) (ur vl (nI 1) ||| sl vh (nI 63)) H _ ls (by omega) (by omega) (by omega) (by omega) (by rw [e9, Nat.gcd_comm, gcd_half c1 huo, Nat.gcd_comm]; exact hg) hP hK hD hS (lv_sub hl [2, 3, 4, 0, 1, 5, 6, 7] rfl)
        refine lv_lload hx hb dX2_gather_147 (lv_at hl 3 rfl) ?_
        refine lv_lconst (v := 0) hx hb dX2_gather_149 (by decide) ?_
        refine W.lcmp hx hb dX2_gather_150 ?_
        refine lv_if_ne (tgt := 161) hx hb dX2_gather_151 (by decide) (fun c1 => ?_) (fun c1 => ?_)
        · rw [lg_cmp_eq] at c1
          have hv0 : 0 < w2 vh vl := Nat.pos_of_ne_zero (fun e => c1 (w2_0.mp e).1)
          exact inn hv0 _ vh vl H _ ls (Nat.le_refl _) hv0 hd9 hvb hg hP hK hD hS (lv_sub hl [0, 1, 2, 3, 4, 5, 6, 7] rfl)
        · rw [lg_cmp_eq] at c1
          refine lv_lload hx hb dX2_gather_154 (lv_at hl 4 rfl) ?_
          refine lv_lconst (v := 0) hx hb dX2_gather_156 (by decide) ?_
          refine W.lcmp hx hb dX2_gather_157 ?_
          refine lv_if_eq (tgt := 274) hx hb dX2_gather_158 (by decide) (fun c2 => ?_) (fun c2 => ?_)
          · rw [lg_cmp_eq] at c2
            refine lv_iconst (v := nI 0) hx hb dX2_gather_274 (by decide) ?_
            refine lv_istore (lv' := [(14, .int (nI 0)), (13, .int (nI hs)), (5, .long uh), (7, .long ul), (9, .long vh), (11, .long vl), (0, .ref m0), (1, .long xh), (3, .long xl)]) hx hb dX2_gather_275 hl (by decide) rfl (fun ls hl => ?_)
            exact L4 hs hhs hs 0 uh ul H _ ls (by omega) (by rw [← hg, w2_0.mpr ⟨c1, c2⟩, Nat.gcd_zero_right]) hP hK hD hS (lv_sub hl [0, 1, 2, 3, 6, 7, 8] rfl)
          · rw [lg_cmp_eq] at c2
            have hv0 : 0 < w2 vh vl := Nat.pos_of_ne_zero (fun e => c2 (w2_0.mp e).2)
            exact inn hv0 _ vh vl H _ ls (Nat.le_refl _) hv0 hd9 hvb hg hP hK hD hS (lv_sub hl [0, 1, 2, 3, 4, 5, 6, 7] rfl)
    have L2 : ∀ (hs : Nat), hs < 127 → ∀ (vh vl : Int64), w2 vh vl < 170141183460469231731687303715884105728 → ∀ (d : Nat) (uh ul : Int64) (H : Heap) (locs : List Loc) (ls : Array Slot), w2 uh ul ≤ d → 0 < w2 uh ul → w2 uh ul < 170141183460469231731687303715884105728 → (w2 uh ul % 2 = 1 ∨ w2 vh vl % 2 = 1) → 2 ^ hs * Nat.gcd (w2 uh ul) (w2 vh vl) = G → va_P (dC, dI) vwCl (mdW m0 aN aR aX aO aP aH aL aW cI cJ vn ct nm tp bt an rw nx og no rc nc hgh lws dh dl fT fB wd) H → va_K (dC, dI) vwCl [(cI, .int), (cJ, .long)] s → va_D A (mdW m0 aN aR aX aO aP aH aL aW cI cJ vn ct nm tp bt an rw nx og no rc nc hgh lws dh dl fT fB wd) → va_S A s.heap H locs → lv_has ls 18 [(13, .int (nI hs)), (5, .long uh), (7, .long ul), (9, .long vh), (11, .long vl), (0, .ref m0), (1, .long xh), (3, .long xl)] → W p l e (headSpec wsX2_gather ({ frames := 1, cells := 0, slots := 0, locals := 23 })).room s m #[.ref m0, .long xh, .long xl] below meth c H locs 0 0 (MQ below (va_Qv (fun v : Int64 × Int64 => w2 v.1 v.2 = (Nat.gcd (w2 dh dl) (w2 xh xl))) (fun v t => va_P (dC, dI) vwCl (mdW m0 aN aR aX aO aP aH aL aW cI cJ vn ct nm tp bt an rw nx og no rc nc hgh lws v.1 v.2 fT fB wd) t.heap ∧ va_K (dC, dI) vwCl [(cI, .int), (cJ, .long)] t ∧ va_D A (mdW m0 aN aR aX aO aP aH aL aW cI cJ vn ct nm tp bt an rw nx og no rc nc hgh lws v.1 v.2 fT fB wd)) A) #[.ref m0, .long xh, .long xl] s 0 0 A) (F0 m 117 ls []) := by
      intro hs hhs vh vl hvb d
      induction d with
      | zero => intro uh ul H locs ls h1 h2; omega
      | succ d ih =>
        intro uh ul H locs ls h1 h2 hub hod hg hP hK hD hS hl
        refine lv_lload hx hb dX2_gather_117 (lv_at hl 2 rfl) ?_
        refine lv_lconst (v := 1) hx hb dX2_gather_119 (by decide) ?_
        refine lv_land hx hb dX2_gather_120 ?_
        refine lv_lconst (v := 0) hx hb dX2_gather_121 (by decide) ?_
        refine W.lcmp hx hb dX2_gather_122 ?_
        refine lv_if_ne (tgt := 147) hx hb dX2_gather_123 (by decide) (fun c1 => ?_) (fun c1 => ?_)
        · rw [lg_cmp_eq, w2_odd (h := uh)] at c1
          exact L3 hs hhs _ uh ul vh vl H _ ls (Nat.le_refl _) hub hvb (by omega) hg hP hK hD hS (lv_sub hl [0, 1, 2, 3, 4, 5, 6, 7] rfl)
        · rw [lg_cmp_eq, w2_odd (h := uh)] at c1
          refine lv_lload hx hb dX2_gather_126 (lv_at hl 2 rfl) ?_
          refine lv_iconst (v := nI 1) hx hb dX2_gather_128 (by decide) ?_
          refine lv_lushr hx hb dX2_gather_129 rfl ?_
          refine lv_lload hx hb dX2_gather_130 (lv_at hl 1 rfl) ?_
          refine lv_bipush (v := nI 63) hx hb dX2_gather_132 (by decide) ?_
          refine lv_lshl hx hb dX2_gather_134 rfl ?_
          refine lv_lor hx hb dX2_gather_135 ?_
          refine lv_lstore (lv' := [(7, .long (((Int64.toUInt64 ul >>> ((Int32.toInt64 (nI 1)).toUInt64 &&& Int64.toUInt64 63)).toInt64) ||| (uh <<< (Int32.toInt64 (nI 63) &&& 63)))), (13, .int (nI hs)), (5, .long uh), (9, .long vh), (11, .long vl), (0, .ref m0), (1, .long xh), (3, .long xl)]) hx hb dX2_gather_136 hl (by decide) rfl (fun ls hl => ?_)
          refine lv_lload hx hb dX2_gather_138 (lv_at hl 2 rfl) ?_
          refine lv_iconst (v := nI 1) hx hb dX2_gather_140 (by decide) ?_
          refine lv_lushr hx hb dX2_gather_141 rfl ?_
          refine lv_lstore (lv' := [(5, .long ((Int64.toUInt64 uh >>> ((Int32.toInt64 (nI 1)).toUInt64 &&& Int64.toUInt64 63)).toInt64)), (7, .long (((Int64.toUInt64 ul >>> ((Int32.toInt64 (nI 1)).toUInt64 &&& Int64.toUInt64 63)).toInt64) ||| (uh <<< (Int32.toInt64 (nI 63) &&& 63)))), (13, .int (nI hs)), (9, .long vh), (11, .long vl), (0, .ref m0), (1, .long xh), (3, .long xl)]) hx hb dX2_gather_142 hl (by decide) rfl (fun ls hl => ?_)
          refine lv_goto (tgt := 117) hx hb dX2_gather_144 (by decide) ?_
          have e9 := w2_half uh ul
          exact ih (ur uh (nI 1)) (ur ul (nI 1) ||| sl uh (nI 63)) H _ ls (by omega) (by omega) (by omega) (Or.inr (by omega)) (by rw [e9, gcd_half c1 (by omega)]; exact hg) hP hK hD hS (lv_sub hl [2, 0, 1, 3, 4, 5, 6, 7] rfl)
    have L1 : ∀ (d hs : Nat) (uh ul vh vl : Int64) (H : Heap) (locs : List Loc) (ls : Array Slot), w2 uh ul ≤ d → 0 < w2 uh ul → 0 < w2 vh vl → w2 uh ul < 170141183460469231731687303715884105728 → w2 vh vl < 170141183460469231731687303715884105728 → 2 ^ hs * Nat.gcd (w2 uh ul) (w2 vh vl) = G → va_P (dC, dI) vwCl (mdW m0 aN aR aX aO aP aH aL aW cI cJ vn ct nm tp bt an rw nx og no rc nc hgh lws dh dl fT fB wd) H → va_K (dC, dI) vwCl [(cI, .int), (cJ, .long)] s → va_D A (mdW m0 aN aR aX aO aP aH aL aW cI cJ vn ct nm tp bt an rw nx og no rc nc hgh lws dh dl fT fB wd) → va_S A s.heap H locs → lv_has ls 18 [(13, .int (nI hs)), (5, .long uh), (7, .long ul), (9, .long vh), (11, .long vl), (0, .ref m0), (1, .long xh), (3, .long xl)] → W p l e (headSpec wsX2_gather ({ frames := 1, cells := 0, slots := 0, locals := 23 })).room s m #[.ref m0, .long xh, .long xl] below meth c H locs 0 0 (MQ below (va_Qv (fun v : Int64 × Int64 => w2 v.1 v.2 = (Nat.gcd (w2 dh dl) (w2 xh xl))) (fun v t => va_P (dC, dI) vwCl (mdW m0 aN aR aX aO aP aH aL aW cI cJ vn ct nm tp bt an rw nx og no rc nc hgh lws v.1 v.2 fT fB wd) t.heap ∧ va_K (dC, dI) vwCl [(cI, .int), (cJ, .long)] t ∧ va_D A (mdW m0 aN aR aX aO aP aH aL aW cI cJ vn ct nm tp bt an rw nx og no rc nc hgh lws v.1 v.2 fT fB wd)) A) #[.ref m0, .long xh, .long xl] s 0 0 A) (F0 m 63 ls []) := by
      intro d
      induction d with
      | zero => intro hs uh ul vh vl H locs ls h1 h2; omega
      | succ d ih =>
        intro hs uh ul vh vl H locs ls h1 h2 h3 hub hvb hg hP hK hD hS hl
        have hhs := (pw_lt hg hG0 hGb).1
        refine lv_lload hx hb dX2_gather_63 (lv_at hl 2 rfl) ?_
        refine lv_lload hx hb dX2_gather_65 (lv_at hl 4 rfl) ?_
        refine lv_lor hx hb dX2_gather_67 ?_
        refine lv_lconst (v := 1) hx hb dX2_gather_68 (by decide) ?_
        refine lv_land hx hb dX2_gather_69 ?_
        refine lv_lconst (v := 0) hx hb dX2_gather_70 (by decide) ?_
        refine W.lcmp hx hb dX2_gather_71 ?_
        refine lv_if_ne (tgt := 117) hx hb dX2_gather_72 (by decide) (fun c1 => ?_) (fun c1 => ?_)
        · rw [lg_cmp_eq, w2_odd2 (h := uh) (g := vh)] at c1
          exact L2 hs hhs vh vl hvb _ uh ul H _ ls (Nat.le_refl _) h2 hub (by omega) hg hP hK hD hS (lv_sub hl [0, 1, 2, 3, 4, 5, 6, 7] rfl)
        · rw [lg_cmp_eq, w2_odd2 (h := uh) (g := vh)] at c1
          refine lv_lload hx hb dX2_gather_75 (lv_at hl 2 rfl) ?_
          refine lv_iconst (v := nI 1) hx hb dX2_gather_77 (by decide) ?_
          refine lv_lushr hx hb dX2_gather_78 rfl ?_
          refine lv_lload hx hb dX2_gather_79 (lv_at hl 1 rfl) ?_
          refine lv_bipush (v := nI 63) hx hb dX2_gather_81 (by decide) ?_
          refine lv_lshl hx hb dX2_gather_83 rfl ?_
          refine lv_lor hx hb dX2_gather_84 ?_
          refine lv_lstore (lv' := [(7, .long (((Int64.toUInt64 ul >>> ((Int32.toInt64 (nI 1)).toUInt64 &&& Int64.toUInt64 63)).toInt64) ||| (uh <<< (Int32.toInt64 (nI 63) &&& 63)))), (13, .int (nI hs)), (5, .long uh), (9, .long vh), (11, .long vl), (0, .ref m0), (1, .long xh), (3, .long xl)]) hx hb dX2_gather_85 hl (by decide) rfl (fun ls hl => ?_)
          refine lv_lload hx hb dX2_gather_87 (lv_at hl 2 rfl) ?_
          refine lv_iconst (v := nI 1) hx hb dX2_gather_89 (by decide) ?_
          refine lv_lushr hx hb dX2_gather_90 rfl ?_
          refine lv_lstore (lv' := [(5, .long ((Int64.toUInt64 uh >>> ((Int32.toInt64 (nI 1)).toUInt64 &&& Int64.toUInt64 63)).toInt64)), (7, .long (((Int64.toUInt64 ul >>> ((Int32.toInt64 (nI 1)).toUInt64 &&& Int64.toUInt64 63)).toInt64) ||| (uh <<< (Int32.toInt64 (nI 63) &&& 63)))), (13, .int (nI hs)), (9, .long vh), (11, .long vl), (0, .ref m0), (1, .long xh), (3, .long xl)]) hx hb dX2_gather_91 hl (by decide) rfl (fun ls hl => ?_)
          refine lv_lload hx hb dX2_gather_93 (lv_at hl 4 rfl) ?_
          refine lv_iconst (v := nI 1) hx hb dX2_gather_95 (by decide) ?_
          refine lv_lushr hx hb dX2_gather_96 rfl ?_
          refine lv_lload hx hb dX2_gather_97 (lv_at hl 3 rfl) ?_
          refine lv_bipush (v := nI 63) hx hb dX2_gather_99 (by decide) ?_
          refine lv_lshl hx hb dX2_gather_101 rfl ?_
          refine lv_lor hx hb dX2_gather_102 ?_
          refine lv_lstore (lv' := [(11, .long (((Int64.toUInt64 vl >>> ((Int32.toInt64 (nI 1)).toUInt64 &&& Int64.toUInt64 63)).toInt64) ||| (vh <<< (Int32.toInt64 (nI 63) &&& 63)))), (5, .long ((Int64.toUInt64 uh >>> ((Int32.toInt64 (nI 1)).toUInt64 &&& Int64.toUInt64 63)).toInt64)), (7, .long (((Int64.toUInt64 ul >>> ((Int32.toInt64 (nI 1)).toUInt64 &&& Int64.toUInt64 63)).toInt64) ||| (uh <<< (Int32.toInt64 (nI 63) &&& 63)))), (13, .int (nI hs)), (9, .long vh), (0, .ref m0), (1, .long xh), (3, .long xl)]) hx hb dX2_gather_103 hl (by decide) rfl (fun ls hl => ?_)
          refine lv_lload hx hb dX2_gather_105 (lv_at hl 4 rfl) ?_
          refine lv_iconst (v := nI 1) hx hb dX2_gather_107 (by decide) ?_
          refine lv_lushr hx hb dX2_gather_108 rfl ?_
          refine lv_lstore (lv' := [(9, .long ((Int64.toUInt64 vh >>> ((Int32.toInt64 (nI 1)).toUInt64 &&& Int64.toUInt64 63)).toInt64)), (11, .long (((Int64.toUInt64 vl >>> ((Int32.toInt64 (nI 1)).toUInt64 &&& Int64.toUInt64 63)).toInt64) ||| (vh <<< (Int32.toInt64 (nI 63) &&& 63)))), (5, .long ((Int64.toUInt64 uh >>> ((Int32.toInt64 (nI 1)).toUInt64 &&& Int64.toUInt64 63)).toInt64)), (7, .long (((Int64.toUInt64 ul >>> ((Int32.toInt64 (nI 1)).toUInt64 &&& Int64.toUInt64 63)).toInt64) ||| (uh <<< (Int32.toInt64 (nI 63) &&& 63)))), (13, .int (nI hs)), (0, .ref m0), (1, .long xh), (3, .long xl)]) hx hb dX2_gather_109 hl (by decide) rfl (fun ls hl => ?_)
          refine lv_iinc (v := nI (hs + 1)) (lv' := [(13, .int (nI (hs + 1))), (9, .long ((Int64.toUInt64 vh >>> ((Int32.toInt64 (nI 1)).toUInt64 &&& Int64.toUInt64 63)).toInt64)), (11, .long (((Int64.toUInt64 vl >>> ((Int32.toInt64 (nI 1)).toUInt64 &&& Int64.toUInt64 63)).toInt64) ||| (vh <<< (Int32.toInt64 (nI 63) &&& 63)))), (5, .long ((Int64.toUInt64 uh >>> ((Int32.toInt64 (nI 1)).toUInt64 &&& Int64.toUInt64 63)).toInt64)), (7, .long (((Int64.toUInt64 ul >>> ((Int32.toInt64 (nI 1)).toUInt64 &&& Int64.toUInt64 63)).toInt64) ||| (uh <<< (Int32.toInt64 (nI 63) &&& 63)))), (0, .ref m0), (1, .long xh), (3, .long xl)]) hx hb dX2_gather_111 hl (k := 4) rfl (nI_1 _) (by decide) rfl (fun ls hl => ?_)
          refine lv_goto (tgt := 63) hx hb dX2_gather_114 (by decide) ?_
          have e9 := w2_half uh ul
          have e8 := w2_half vh vl
          exact ih (hs + 1) (ur uh (nI 1)) (ur ul (nI 1) ||| sl uh (nI 63)) (ur vh (nI 1)) (ur vl (nI 1) ||| sl vh (nI 63)) H _ ls (by omega) (by omega) (by omega) (by omega) (by omega) (by rw [e9, e8, Nat.pow_succ, Nat.mul_assoc, gcd_half2 c1.1 c1.2]; exact hg) hP hK hD hS (lv_sub hl [0, 3, 4, 1, 2, 5, 6, 7] rfl)
    intro H locs ls hP hK hD hS hl
    exact L1 _ 0 dh dl xh xl H locs ls (Nat.le_refl _) hd0 hx0 hd9 hx9 (by rw [hG]; omega) hP hK hD hS (lv_sub hl [0, 1, 2, 3, 4, 5, 6, 7] rfl)
  refine lv_aload_n hx hb dX2_gather_0 rfl (lv_at hl 0 rfl) ?_
  refine va_get (D := (dC, dI)) (ci := 2) (v := .long dh) (C := RX2) (T := TX2) (N := 19) hx hb hts (fun _ h => List.mem_cons_of_mem _ (List.mem_append_right _ h)) hown hK hP 0 rfl rfl 14 (by decide) (hts (.fieldLink RX2 65 "RankFinderModel" "divisorHigh" "J") (List.mem_of_getElem? (i := 1) rfl)) (fun _ h9 => h9) rfl dX2_gather_1 ?_
  refine lv_lstore (lv' := [(5, .long dh), (0, .ref m0), (1, .long xh), (3, .long xl)]) hx hb dX2_gather_4 hl (by decide) rfl (fun ls hl => ?_)
  refine lv_aload_n hx hb dX2_gather_6 rfl (lv_at hl 1 rfl) ?_
  refine va_get (D := (dC, dI)) (ci := 2) (v := .long dl) (C := RX2) (T := TX2) (N := 19) hx hb hts (fun _ h => List.mem_cons_of_mem _ (List.mem_append_right _ h)) hown hK hP 0 rfl rfl 15 (by decide) (hts (.fieldLink RX2 69 "RankFinderModel" "divisorLow" "J") (List.mem_of_getElem? (i := 2) rfl)) (fun _ h9 => h9) rfl dX2_gather_7 ?_
  refine lv_lstore (lv' := [(7, .long dl), (5, .long dh), (0, .ref m0), (1, .long xh), (3, .long xl)]) hx hb dX2_gather_10 hl (by decide) rfl (fun ls hl => ?_)
  refine lv_lload_n hx hb dX2_gather_12 rfl (lv_at hl 3 rfl) ?_
  refine lv_lstore (lv' := [(9, .long xh), (7, .long dl), (5, .long dh), (0, .ref m0), (1, .long xh), (3, .long xl)]) hx hb dX2_gather_13 hl (by decide) rfl (fun ls hl => ?_)
  refine lv_lload_n hx hb dX2_gather_15 rfl (lv_at hl 5 rfl) ?_
  refine lv_lstore (lv' := [(11, .long xl), (9, .long xh), (7, .long dl), (5, .long dh), (0, .ref m0), (1, .long xh), (3, .long xl)]) hx hb dX2_gather_16 hl (by decide) rfl (fun ls hl => ?_)
  refine lv_lload hx hb dX2_gather_18 (lv_at hl 3 rfl) ?_
  refine lv_lconst (v := 0) hx hb dX2_gather_20 (by decide) ?_
  refine W.lcmp hx hb dX2_gather_21 ?_
  refine lv_if_ne (tgt := 45) hx hb dX2_gather_22 (by decide) (fun c1 => ?_) (fun c1 => ?_)
  · rw [lg_cmp_eq] at c1
    refine lv_lload hx hb dX2_gather_45 (lv_at hl 1 rfl) ?_
    refine lv_lconst (v := 0) hx hb dX2_gather_47 (by decide) ?_
    refine W.lcmp hx hb dX2_gather_48 ?_
    refine lv_if_ne (tgt := 60) hx hb dX2_gather_49 (by decide) (fun c3 => ?_) (fun c3 => ?_)
    · rw [lg_cmp_eq] at c3
      refine lv_iconst (v := nI 0) hx hb dX2_gather_60 (by decide) ?_
      refine lv_istore (lv' := [(13, .int (nI 0)), (11, .long xl), (9, .long xh), (7, .long dl), (5, .long dh), (0, .ref m0), (1, .long xh), (3, .long xl)]) hx hb dX2_gather_61 hl (by decide) rfl (fun ls hl => ?_)
      exact main (Nat.pos_of_ne_zero (fun e => c1 (w2_0.mp e).1)) (Nat.pos_of_ne_zero (fun e => c3 (w2_0.mp e).1)) H _ ls hP hK hD hS (lv_sub hl [0, 4, 3, 2, 1, 5, 6, 7] rfl)
    · rw [lg_cmp_eq] at c3
      refine lv_lload hx hb dX2_gather_52 (lv_at hl 0 rfl) ?_
      refine lv_lconst (v := 0) hx hb dX2_gather_54 (by decide) ?_
      refine W.lcmp hx hb dX2_gather_55 ?_
      refine lv_if_ne (tgt := 60) hx hb dX2_gather_56 (by decide) (fun c4 => ?_) (fun c4 => ?_)
      · rw [lg_cmp_eq] at c4
        refine lv_iconst (v := nI 0) hx hb dX2_gather_60 (by decide) ?_
        refine lv_istore (lv' := [(13, .int (nI 0)), (11, .long xl), (9, .long xh), (7, .long dl), (5, .long dh), (0, .ref m0), (1, .long xh), (3, .long xl)]) hx hb dX2_gather_61 hl (by decide) rfl (fun ls hl => ?_)
        exact main (Nat.pos_of_ne_zero (fun e => c1 (w2_0.mp e).1)) (Nat.pos_of_ne_zero (fun e => c4 (w2_0.mp e).2)) H _ ls hP hK hD hS (lv_sub hl [0, 4, 3, 2, 1, 5, 6, 7] rfl)
      · rw [lg_cmp_eq] at c4
        exact W.vret hx hb hr (fun t ht hW => ⟨⟨(dh, dl), rfl, by rw [w2_0.mpr ⟨c3, c4⟩, Nat.gcd_zero_right], by rw [ht]; exact hP, va_K.moved hW.alike hK, hD⟩, hS.F ht⟩) hS.2.2 dX2_gather_59
  · rw [lg_cmp_eq] at c1
    refine lv_lload hx hb dX2_gather_25 (lv_at hl 2 rfl) ?_
    refine lv_lconst (v := 0) hx hb dX2_gather_27 (by decide) ?_
    refine W.lcmp hx hb dX2_gather_28 ?_
    refine lv_if_ne (tgt := 45) hx hb dX2_gather_29 (by decide) (fun c2 => ?_) (fun c2 => ?_)
    · rw [lg_cmp_eq] at c2
      refine lv_lload hx hb dX2_gather_45 (lv_at hl 1 rfl) ?_
      refine lv_lconst (v := 0) hx hb dX2_gather_47 (by decide) ?_
      refine W.lcmp hx hb dX2_gather_48 ?_
      refine lv_if_ne (tgt := 60) hx hb dX2_gather_49 (by decide) (fun c3 => ?_) (fun c3 => ?_)
      · rw [lg_cmp_eq] at c3
        refine lv_iconst (v := nI 0) hx hb dX2_gather_60 (by decide) ?_
        refine lv_istore (lv' := [(13, .int (nI 0)), (11, .long xl), (9, .long xh), (7, .long dl), (5, .long dh), (0, .ref m0), (1, .long xh), (3, .long xl)]) hx hb dX2_gather_61 hl (by decide) rfl (fun ls hl => ?_)
        exact main (Nat.pos_of_ne_zero (fun e => c2 (w2_0.mp e).2)) (Nat.pos_of_ne_zero (fun e => c3 (w2_0.mp e).1)) H _ ls hP hK hD hS (lv_sub hl [0, 4, 3, 2, 1, 5, 6, 7] rfl)
      · rw [lg_cmp_eq] at c3
        refine lv_lload hx hb dX2_gather_52 (lv_at hl 0 rfl) ?_
        refine lv_lconst (v := 0) hx hb dX2_gather_54 (by decide) ?_
        refine W.lcmp hx hb dX2_gather_55 ?_
        refine lv_if_ne (tgt := 60) hx hb dX2_gather_56 (by decide) (fun c4 => ?_) (fun c4 => ?_)
        · rw [lg_cmp_eq] at c4
          refine lv_iconst (v := nI 0) hx hb dX2_gather_60 (by decide) ?_
          refine lv_istore (lv' := [(13, .int (nI 0)), (11, .long xl), (9, .long xh), (7, .long dl), (5, .long dh), (0, .ref m0), (1, .long xh), (3, .long xl)]) hx hb dX2_gather_61 hl (by decide) rfl (fun ls hl => ?_)
          exact main (Nat.pos_of_ne_zero (fun e => c2 (w2_0.mp e).2)) (Nat.pos_of_ne_zero (fun e => c4 (w2_0.mp e).2)) H _ ls hP hK hD hS (lv_sub hl [0, 4, 3, 2, 1, 5, 6, 7] rfl)
        · rw [lg_cmp_eq] at c4
          exact W.vret hx hb hr (fun t ht hW => ⟨⟨(dh, dl), rfl, by rw [w2_0.mpr ⟨c3, c4⟩, Nat.gcd_zero_right], by rw [ht]; exact hP, va_K.moved hW.alike hK, hD⟩, hS.F ht⟩) hS.2.2 dX2_gather_59
    · rw [lg_cmp_eq] at c2
      refine lv_aload_n hx hb dX2_gather_32 rfl (lv_at hl 4 rfl) ?_
      refine lv_lload hx hb dX2_gather_33 (lv_at hl 1 rfl) ?_
      refine va_put (D := (dC, dI)) (ci := 2) (v := .long xh) (ty := .long) (C := RX2) (T := TX2) (N := 19) hx hb hts (fun _ h => List.mem_cons_of_mem _ (List.mem_append_right _ h)) tyX2 tyX2_ok nmX2 hown hK hP hD hS 0 rfl rfl 14 (by decide) (hts (.fieldLink RX2 65 "RankFinderModel" "divisorHigh" "J") (List.mem_of_getElem? (i := 1) rfl)) (fun _ h9 => h9) rfl (by decide +kernel) rfl rfl (Nat.le_of_ble_eq_true rfl) dX2_gather_35 (fun H locs hP hD hS => ?_)
      have hP : va_P (dC, dI) vwCl (mdW m0 aN aR aX aO aP aH aL aW cI cJ vn ct nm tp bt an rw nx og no rc nc hgh lws xh dl fT fB wd) H := hP
      have hD : va_D A (mdW m0 aN aR aX aO aP aH aL aW cI cJ vn ct nm tp bt an rw nx og no rc nc hgh lws xh dl fT fB wd) := hD
      refine lv_aload_n hx hb dX2_gather_38 rfl (lv_at hl 4 rfl) ?_
      refine lv_lload hx hb dX2_gather_39 (lv_at hl 0 rfl) ?_
      refine va_put (D := (dC, dI)) (ci := 2) (v := .long xl) (ty := .long) (C := RX2) (T := TX2) (N := 19) hx hb hts (fun _ h => List.mem_cons_of_mem _ (List.mem_append_right _ h)) tyX2 tyX2_ok nmX2 hown hK hP hD hS 0 rfl rfl 15 (by decide) (hts (.fieldLink RX2 69 "RankFinderModel" "divisorLow" "J") (List.mem_of_getElem? (i := 2) rfl)) (fun _ h9 => h9) rfl (by decide +kernel) rfl rfl (Nat.le_of_ble_eq_true rfl) dX2_gather_41 (fun H locs hP hD hS => ?_)
      have hP : va_P (dC, dI) vwCl (mdW m0 aN aR aX aO aP aH aL aW cI cJ vn ct nm tp bt an rw nx og no rc nc hgh lws xh xl fT fB wd) H := hP
      have hD : va_D A (mdW m0 aN aR aX aO aP aH aL aW cI cJ vn ct nm tp bt an rw nx og no rc nc hgh lws xh xl fT fB wd) := hD
      exact W.vret hx hb hr (fun t ht hW => ⟨⟨(xh, xl), rfl, by rw [w2_0.mpr ⟨c1, c2⟩, Nat.gcd_zero_left], by rw [ht]; exact hP, va_K.moved hW.alike hK, hD⟩, hS.F ht⟩) hS.2.2 dX2_gather_44
