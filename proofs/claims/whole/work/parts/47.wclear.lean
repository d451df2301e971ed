/-! ===== Arrays.fill; Weighing.clear ===== -/
def filL (f : Nat → Int64) (k : Nat) (v : Int64) : Nat → Int64 := fun j => if j < k then v else f j
def filI (f : Nat → Int32) (k : Nat) (v : Int32) : Nat → Int32 := fun j => if j < k then v else f j
theorem filL_s (f : Nat → Int64) (k : Nat) (v : Int64) : vp_updL (filL f k v) k v = filL f (k + 1) v := by
  funext j; unfold vp_updL filL
  by_cases e : j = k
  · subst e; simp
  · by_cases h : j < k
    · simp [e, h, show j < k + 1 by omega]
    · simp [e, h, show ¬ j < k + 1 by omega]
theorem filI_s (f : Nat → Int32) (k : Nat) (v : Int32) : upd (filI f k v) k v = filI f (k + 1) v := by
  funext j; unfold upd filI
  by_cases e : j = k
  · subst e; simp
  · by_cases h : j < k
    · simp [e, h, show j < k + 1 by omega]
    · simp [e, h, show ¬ j < k + 1 by omega]
theorem filL_0 (f : Nat → Int64) (v : Int64) : filL f 0 v = f := by funext j; simp [filL]
theorem filI_0 (f : Nat → Int32) (v : Int32) : filI f 0 v = f := by funext j; simp [filI]
/-- behind a call whose world is one cell of this world -/
theorem jn_at {D : va_G} {cl : List vw_C} {A : Nat → Prop} {ws : va_W} {k a : Nat} {e e' : va_E} {H H1 : Heap} (hP : va_P D cl ws H) (hD : va_D A ws) (hk : ws[k]? = some (a, e)) (hF : ∀ q : Nat, q < H.size → ¬ va_A [(a, e)] H.size q → H1[q]? = H[q]?) (hP1 : va_P D cl [(a, e')] H1) : va_P D cl (ws.set k (a, e')) H1 ∧ va_D A (ws.set k (a, e')) := by
  refine ⟨?_, hD.set hk⟩
  intro j q hj
  rw [List.getElem?_set] at hj
  by_cases h : k = j
  · subst h
    rw [if_pos rfl] at hj
    split at hj
    · cases hj
      exact hP1 0 _ rfl
    · cases hj
  · rw [if_neg h] at hj
    have h1 := hP j q hj
    refine h1.kept (hF q.1 h1.lt ?_)
    rintro (⟨i, e9, h9⟩ | h9)
    · cases i with
      | zero =>
        simp at h9
        exact h (hD.1 k j _ _ hk hj h9.1)
      | succ i => simp at h9
    · have := h1.lt; omega
theorem va_oneD {A : Nat → Prop} {a : Nat} {e : va_E} (h : A a) : va_D A [(a, e)] := by
  refine ⟨fun i j p q hi hj _ => ?_, fun k q hk => ?_⟩
  · cases i with
    | zero => cases j with
      | zero => rfl
      | succ j => simp at hj
    | succ i => simp at hi
  · cases k with
    | zero => simp at hk; rw [← hk]; exact h
    | succ k => simp at hk
theorem va_oneP {D : va_G} {cl : List vw_C} {ws : va_W} {k a : Nat} {e : va_E} {H : Heap} (hP : va_P D cl ws H) (hk : ws[k]? = some (a, e)) : va_P D cl [(a, e)] H := fun i q hi => by
  cases i with
  | zero => simp at hi; rw [← hi]; exact hP k _ hk
  | succ i => simp at hi
theorem va_oneA {A0 : Nat → Prop} {ws : va_W} {k a : Nat} {e : va_E} {H0 H : Heap} {locs : List Loc} (hD : va_D A0 ws) (hk : ws[k]? = some (a, e)) (hS : va_S A0 H0 H locs) (hA : ∀ q, H0.size ≤ q → A0 q) : ∀ q, va_A [(a, e)] H.size q → A0 q := fun q h => by
  rcases h with ⟨i, e9, h⟩ | h
  · cases i with
    | zero => simp at h; rw [← h.1]; exact hD.2 k _ hk
    | succ i => simp at h
  · exact hA q (Nat.le_trans hS.1 h)
set_option maxHeartbeats 1000000 in
set_option maxRecDepth 100000 in
/-- Arrays.fill -/
theorem c_J7_fillL (l : Launch) (dC : Nat → ClassId) (dI : Nat → Nat → Nat) (sz : Nat) (cX : ClassId) (a n : Nat) (f : Nat → Int64) (y9 : Int64) (hn : n < 2 ^ 31) : Met l yJ7_fill_d0a16 wsJ7_fill_d0a16 ({ frames := 0, cells := 0, slots := 0, locals := 0 }) (va_Pc [.ref a, .long y9] (fun U => U.heap.size = sz ∧ va_P (dC, dI) vwCl [(a, .inl (cX, n, .inr (.inl f)))] U.heap ∧ va_K (dC, dI) vwCl [(cX, .long)] U ∧ va_D (fun _ => True) [(a, .inl (cX, n, .inr (.inl f)))])) (va_Qv (fun v : Unit => True) (fun v t => va_P (dC, dI) vwCl [(a, .inl (cX, n, .inr (.inl (filL f n y9))))] t.heap ∧ va_K (dC, dI) vwCl [(cX, .long)] t ∧ va_D (va_A [(a, .inl (cX, n, .inr (.inl f)))] sz) [(a, .inl (cX, n, .inr (.inl (filL f n y9))))]) (va_A [(a, .inl (cX, n, .inr (.inl f)))] sz)) 0 0 (va_A [(a, .inl (cX, n, .inr (.inl f)))] sz) := by
  refine Met.ofW (cc := cJ7_fill_d0a16) (maxL := 5) (ret := none) (by decide) rfl ?_
  intro p e s m args below meth c s₁ B hml hv
  obtain ⟨rfl, hsz, hP, hK, hD0⟩ := hv
  have hx := B.exec
  have hb := B.bytes
  have hr := B.returns
  have hts := atoms_spec (ws := wsJ7_fill_d0a16) B.pre
  have hown : s.vm.findClass RJ7 = some m.cls := findClass_of_methodNamed B.named
  subst hsz
  have hD := hD0.self (sz := s.heap.size)
  clear hD0
  generalize hAe : va_A [(a, .inl (cX, n, .inr (.inl f)))] s.heap.size = A at hD ⊢
  have hA : ∀ q : Nat, s.heap.size ≤ q → A q := fun q h => by rw [← hAe]; exact Or.inr h
  have hl := lv_entry ([.ref a, .long y9]) (n := 5) (Nat.le_of_ble_eq_true rfl)
  rw [lg_entry_eq]
  generalize (lg_sl ([.ref a, .long y9]) ++ List.replicate (5 - (lg_sl ([.ref a, .long y9])).length) Slot.unset).toArray = ls at hl ⊢
  have hl : lv_has ls 5 [(0, .ref a), (1, .long y9)] := hl
  have hP : va_P (dC, dI) vwCl [(a, .inl (cX, n, .inr (.inl f)))] s.heap := hP
  obtain ⟨H, hH⟩ : ∃ H, H = s.heap := ⟨_, rfl⟩
  have hS : va_S A s.heap H [] := by rw [hH]; exact va_S.rf
  rw [← hH] at hP ⊢
  refine lv_iconst (v := nI 0) hx hb dJ7_fill_d0a16_0 (by decide) ?_
  refine lv_istore_n (lv' := [(3, .int (nI 0)), (0, .ref a), (1, .long y9)]) hx hb dJ7_fill_d0a16_1 rfl hl (by decide) rfl (fun ls hl => ?_)
  refine lv_aload_n hx hb dJ7_fill_d0a16_2 rfl (lv_at hl 1 rfl) ?_
  refine va_alen (v := nI n) hx hb hK hP 0 0 rfl rfl rfl dJ7_fill_d0a16_3 ?_
  refine lv_istore (lv' := [(4, .int (nI n)), (3, .int (nI 0)), (0, .ref a), (1, .long y9)]) hx hb dJ7_fill_d0a16_4 hl (by decide) rfl (fun ls hl => ?_)
  have loop : ∀ (d k : Nat) (H : Heap) (locs : List Loc) (ls : Array Slot), k + d = n → va_P (dC, dI) vwCl [(a, .inl (cX, n, .inr (.inl (filL f k y9))))] H → va_D A [(a, .inl (cX, n, .inr (.inl (filL f k y9))))] → va_S A s.heap H locs → lv_has ls 5 [(3, .int (nI k)), (4, .int (nI n)), (0, .ref a), (1, .long y9)] → W p l e (headSpec wsJ7_fill_d0a16 ({ frames := 0, cells := 0, slots := 0, locals := 0 })).room s m #[.ref a, .long y9] below meth c H locs 0 0 (MQ below (va_Qv (fun v : Unit => True) (fun v t => va_P (dC, dI) vwCl [(a, .inl (cX, n, .inr (.inl (filL f n y9))))] t.heap ∧ va_K (dC, dI) vwCl [(cX, .long)] t ∧ va_D A [(a, .inl (cX, n, .inr (.inl (filL f n y9))))]) A) #[.ref a, .long y9] s 0 0 A) (F0 m 6 ls []) := by
    clear hP hD hS hl
    intro d
    induction d with
    | zero =>
      intro k H locs ls hk hP hD hS hl
      refine lv_iload_n hx hb dJ7_fill_d0a16_6 rfl (lv_at hl 0 rfl) ?_
      refine lv_iload hx hb dJ7_fill_d0a16_7 (lv_at hl 1 rfl) ?_
      refine lv_icmp_ge (tgt := 22) hx hb dJ7_fill_d0a16_9 (by decide) (fun c1 => ?_) (fun c1 => ?_)
      · obtain rfl : k = n := by omega
        exact W.vret hx hb hr (fun t ht hW => ⟨⟨(), rfl, trivial, by rw [ht]; exact hP, va_K.moved hW.alike hK, hD⟩, hS.F ht⟩) hS.2.2 dJ7_fill_d0a16_22
      · exact absurd (nI_le (by omega) (by omega)) c1
    | succ d ih =>
      intro k H locs ls hk hP hD hS hl
      refine lv_iload_n hx hb dJ7_fill_d0a16_6 rfl (lv_at hl 0 rfl) ?_
      refine lv_iload hx hb dJ7_fill_d0a16_7 (lv_at hl 1 rfl) ?_
      refine lv_icmp_ge (tgt := 22) hx hb dJ7_fill_d0a16_9 (by decide) (fun c1 => ?_) (fun c1 => ?_)
      · exact absurd c1 (nI_ge (by omega) (by omega))
      · refine lv_aload_n hx hb dJ7_fill_d0a16_12 rfl (lv_at hl 2 rfl) ?_
        refine lv_iload_n hx hb dJ7_fill_d0a16_13 rfl (lv_at hl 0 rfl) ?_
        refine lv_lload_n hx hb dJ7_fill_d0a16_14 rfl (lv_at hl 3 rfl) ?_
        refine na_last hx hb hK hP hD hS 0 0 rfl rfl (show k < n by omega) hn dJ7_fill_d0a16_15 (fun H locs hP hD hS => ?_)
        rw [filL_s] at hP hD
        have hP : va_P (dC, dI) vwCl [(a, .inl (cX, n, .inr (.inl (filL f (k + 1) y9))))] H := hP
        have hD : va_D A [(a, .inl (cX, n, .inr (.inl (filL f (k + 1) y9))))] := hD
        refine lv_iinc (v := nI (k + 1)) (lv' := [(3, .int (nI (k + 1))), (4, .int (nI n)), (0, .ref a), (1, .long y9)]) hx hb dJ7_fill_d0a16_16 hl (k := 0) rfl (nI_1 _) (by decide) rfl (fun ls hl => ?_)
        refine lv_goto (tgt := 6) hx hb dJ7_fill_d0a16_19 (by decide) ?_
        exact ih (k + 1) H _ ls (by omega) hP hD hS (lv_sub hl [0, 1, 2, 3] rfl)
  exact loop n 0 H [] ls (by omega) (by rw [filL_0]; exact hP) (by rw [filL_0]; exact hD) hS (lv_sub hl [1, 0, 2, 3] rfl)
set_option maxHeartbeats 1000000 in
set_option maxRecDepth 100000 in
/-- Arrays.fill -/
theorem c_J7_fillI (l : Launch) (dC : Nat → ClassId) (dI : Nat → Nat → Nat) (sz : Nat) (cX : ClassId) (a n : Nat) (f : Nat → Int32) (y9 : Int32) (hn : n < 2 ^ 31) : Met l yJ7_fill_53178 wsJ7_fill_53178 ({ frames := 0, cells := 0, slots := 0, locals := 0 }) (va_Pc [.ref a, .int y9] (fun U => U.heap.size = sz ∧ va_P (dC, dI) vwCl [(a, .inl (cX, n, .inl f))] U.heap ∧ va_K (dC, dI) vwCl [(cX, .int)] U ∧ va_D (fun _ => True) [(a, .inl (cX, n, .inl f))])) (va_Qv (fun v : Unit => True) (fun v t => va_P (dC, dI) vwCl [(a, .inl (cX, n, .inl (filI f n y9)))] t.heap ∧ va_K (dC, dI) vwCl [(cX, .int)] t ∧ va_D (va_A [(a, .inl (cX, n, .inl f))] sz) [(a, .inl (cX, n, .inl (filI f n y9)))]) (va_A [(a, .inl (cX, n, .inl f))] sz)) 0 0 (va_A [(a, .inl (cX, n, .inl f))] sz) := by
  refine Met.ofW (cc := cJ7_fill_53178) (maxL := 4) (ret := none) (by decide) rfl ?_
  intro p e s m args below meth c s₁ B hml hv
  obtain ⟨rfl, hsz, hP, hK, hD0⟩ := hv
  have hx := B.exec
  have hb := B.bytes
  have hr := B.returns
  have hts := atoms_spec (ws := wsJ7_fill_53178) B.pre
  have hown : s.vm.findClass RJ7 = some m.cls := findClass_of_methodNamed B.named
  subst hsz
  have hD := hD0.self (sz := s.heap.size)
  clear hD0
  generalize hAe : va_A [(a, .inl (cX, n, .inl f))] s.heap.size = A at hD ⊢
  have hA : ∀ q : Nat, s.heap.size ≤ q → A q := fun q h => by rw [← hAe]; exact Or.inr h
  have hl := lv_entry ([.ref a, .int y9]) (n := 4) (Nat.le_of_ble_eq_true rfl)
  rw [lg_entry_eq]
  generalize (lg_sl ([.ref a, .int y9]) ++ List.replicate (4 - (lg_sl ([.ref a, .int y9])).length) Slot.unset).toArray = ls at hl ⊢
  have hl : lv_has ls 4 [(0, .ref a), (1, .int y9)] := hl
  have hP : va_P (dC, dI) vwCl [(a, .inl (cX, n, .inl f))] s.heap := hP
  obtain ⟨H, hH⟩ : ∃ H, H = s.heap := ⟨_, rfl⟩
  have hS : va_S A s.heap H [] := by rw [hH]; exact va_S.rf
  rw [← hH] at hP ⊢
  refine lv_iconst (v := nI 0) hx hb dJ7_fill_53178_0 (by decide) ?_
  refine lv_istore_n (lv' := [(2, .int (nI 0)), (0, .ref a), (1, .int y9)]) hx hb dJ7_fill_53178_1 rfl hl (by decide) rfl (fun ls hl => ?_)
  refine lv_aload_n hx hb dJ7_fill_53178_2 rfl (lv_at hl 1 rfl) ?_
  refine va_alen (v := nI n) hx hb hK hP 0 0 rfl rfl rfl dJ7_fill_53178_3 ?_
  refine lv_istore_n (lv' := [(3, .int (nI n)), (2, .int (nI 0)), (0, .ref a), (1, .int y9)]) hx hb dJ7_fill_53178_4 rfl hl (by decide) rfl (fun ls hl => ?_)
  have loop : ∀ (d k : Nat) (H : Heap) (locs : List Loc) (ls : Array Slot), k + d = n → va_P (dC, dI) vwCl [(a, .inl (cX, n, .inl (filI f k y9)))] H → va_D A [(a, .inl (cX, n, .inl (filI f k y9)))] → va_S A s.heap H locs → lv_has ls 4 [(2, .int (nI k)), (3, .int (nI n)), (0, .ref a), (1, .int y9)] → W p l e (headSpec wsJ7_fill_53178 ({ frames := 0, cells := 0, slots := 0, locals := 0 })).room s m #[.ref a, .int y9] below meth c H locs 0 0 (MQ below (va_Qv (fun v : Unit => True) (fun v t => va_P (dC, dI) vwCl [(a, .inl (cX, n, .inl (filI f n y9)))] t.heap ∧ va_K (dC, dI) vwCl [(cX, .int)] t ∧ va_D A [(a, .inl (cX, n, .inl (filI f n y9)))]) A) #[.ref a, .int y9] s 0 0 A) (F0 m 5 ls []) := by
    clear hP hD hS hl
    intro d
    induction d with
    | zero =>
      intro k H locs ls hk hP hD hS hl
      refine lv_iload_n hx hb dJ7_fill_53178_5 rfl (lv_at hl 0 rfl) ?_
      refine lv_iload_n hx hb dJ7_fill_53178_6 rfl (lv_at hl 1 rfl) ?_
      refine lv_icmp_ge (tgt := 20) hx hb dJ7_fill_53178_7 (by decide) (fun c1 => ?_) (fun c1 => ?_)
      · obtain rfl : k = n := by omega
        exact W.vret hx hb hr (fun t ht hW => ⟨⟨(), rfl, trivial, by rw [ht]; exact hP, va_K.moved hW.alike hK, hD⟩, hS.F ht⟩) hS.2.2 dJ7_fill_53178_20
      · exact absurd (nI_le (by omega) (by omega)) c1
    | succ d ih =>
      intro k H locs ls hk hP hD hS hl
      refine lv_iload_n hx hb dJ7_fill_53178_5 rfl (lv_at hl 0 rfl) ?_
      refine lv_iload_n hx hb dJ7_fill_53178_6 rfl (lv_at hl 1 rfl) ?_
      refine lv_icmp_ge (tgt := 20) hx hb dJ7_fill_53178_7 (by decide) (fun c1 => ?_) (fun c1 => ?_)
      · exact absurd c1 (nI_ge (by omega) (by omega))
      · refine lv_aload_n hx hb dJ7_fill_53178_10 rfl (lv_at hl 2 rfl) ?_
        refine lv_iload_n hx hb dJ7_fill_53178_11 rfl (lv_at hl 0 rfl) ?_
        refine lv_iload_n hx hb dJ7_fill_53178_12 rfl (lv_at hl 3 rfl) ?_
        refine na_iast hx hb hK hP hD hS 0 0 rfl rfl (show k < n by omega) hn dJ7_fill_53178_13 (fun H locs hP hD hS => ?_)
        rw [filI_s] at hP hD
        have hP : va_P (dC, dI) vwCl [(a, .inl (cX, n, .inl (filI f (k + 1) y9)))] H := hP
        have hD : va_D A [(a, .inl (cX, n, .inl (filI f (k + 1) y9)))] := hD
        refine lv_iinc (v := nI (k + 1)) (lv' := [(2, .int (nI (k + 1))), (3, .int (nI n)), (0, .ref a), (1, .int y9)]) hx hb dJ7_fill_53178_14 hl (k := 0) rfl (nI_1 _) (by decide) rfl (fun ls hl => ?_)
        refine lv_goto (tgt := 5) hx hb dJ7_fill_53178_17 (by decide) ?_
        exact ih (k + 1) H _ ls (by omega) hP hD hS (lv_sub hl [0, 1, 2, 3] rfl)
  exact loop n 0 H [] ls (by omega) (by rw [filI_0]; exact hP) (by rw [filI_0]; exact hD) hS (lv_sub hl [1, 0, 2, 3] rfl)
/-- the rows before k are zeros -/
def clF (M : Nat → Nat → Int64) (k : Nat) : Nat → Nat → Int64 := fun i j => if i < k ∧ j < 17 then 0 else M i j
theorem clF_0 (M : Nat → Nat → Int64) : clF M 0 = M := by funext i j; simp [clF]
theorem clF_s (M : Nat → Nat → Int64) (k : Nat) : fup (clF M k) k (filL (clF M k k) 17 0) = clF M (k + 1) := by
  funext i j
  unfold fup filL clF
  by_cases e : i = k
  · subst e
    by_cases h : j < 17
    · simp [h]
    · simp [h]
  · by_cases h : i < k
    · simp [e, h, show i < k + 1 by omega]
    · simp [e, h, show ¬ i < k + 1 by omega]
theorem wgW_row {h0 qc qh : Nat} {r : Nat → Nat} {cA cI cJ : ClassId} {m n : Nat} {u : Int64} {tw : Int32} {iv : Int64} {hd : Nat → Int32} {M : Nat → Nat → Int64} {i : Nat} (hi : i < 10) (f : Nat → Int64) : (wgW h0 qc qh r cA cI cJ m n u tw iv hd M).set (3 + i) (r i, .inl (cJ, 17, .inr (.inl f))) = wgW h0 qc qh r cA cI cJ m n u tw iv hd (fup M i f) := by
  refine (gG_set (k := 3 + i) hi rfl _).trans ?_
  refine congrArg (fun g => _ ++ (List.range 10).map g) ?_
  funext k
  by_cases e : k = i
  · subst e; simp [fup]
  · simp [fup, e]
set_option maxHeartbeats 1000000 in
set_option maxRecDepth 100000 in
/-- clear(a, b) -/
theorem c_X0_clear (l : Launch) (dC : Nat → ClassId) (dI : Nat → Nat → Nat) (h0 qc qh : Nat) (r : Nat → Nat) (cA cI cJ : ClassId) (sz : Nat) (me nw : Nat) (u : Int64) (tw : Int32) (iv : Int64) (hd : Nat → Int32) (M : Nat → Nat → Int64) (a b : Nat) (ha : a ≤ 9) (hb9 : b ≤ 16) : Met l yX0_clear wsX0_clear ({ frames := 2, cells := 0, slots := 0, locals := 48 }) (va_Pc [.ref h0, .int (nI a), .int (nI b)] (fun U => U.heap.size = sz ∧ va_P (dC, dI) vwCl (wgW h0 qc qh r cA cI cJ me nw u tw iv hd M) U.heap ∧ va_K (dC, dI) vwCl (wgT cA cI cJ) U ∧ va_D (fun _ => True) (wgW h0 qc qh r cA cI cJ me nw u tw iv hd M))) (va_Qv (fun v : Unit => True) (fun v t => va_P (dC, dI) vwCl (wgW h0 qc qh r cA cI cJ a b 1 (bcF ((1 &&& -1) - 1)) (nwF (sr 1 (bcF ((1 &&& -1) - 1))) 5) (filI hd 9 (-1)) (clF M (a + 1))) t.heap ∧ va_K (dC, dI) vwCl (wgT cA cI cJ) t ∧ va_D (va_A (wgW h0 qc qh r cA cI cJ me nw u tw iv hd M) sz) (wgW h0 qc qh r cA cI cJ a b 1 (bcF ((1 &&& -1) - 1)) (nwF (sr 1 (bcF ((1 &&& -1) - 1))) 5) (filI hd 9 (-1)) (clF M (a + 1)))) (va_A (wgW h0 qc qh r cA cI cJ me nw u tw iv hd M) sz)) 0 0 (va_A (wgW h0 qc qh r cA cI cJ me nw u tw iv hd M) sz) := by
  refine Met.ofW (cc := cX0_clear) (maxL := 4) (ret := none) (by decide) rfl ?_
  intro p e s m args below meth c s₁ B hml hv
  obtain ⟨rfl, hsz, hP, hK, hD0⟩ := hv
  have hx := B.exec
  have hb := B.bytes
  have hr := B.returns
  have hts := atoms_spec (ws := wsX0_clear) B.pre
  have hown : s.vm.findClass RX0 = some m.cls := findClass_of_methodNamed B.named
  subst hsz
  have hD := hD0.self (sz := s.heap.size)
  clear hD0
  generalize hAe : va_A (wgW h0 qc qh r cA cI cJ me nw u tw iv hd M) s.heap.size = A at hD ⊢
  have hA : ∀ q : Nat, s.heap.size ≤ q → A q := fun q h => by rw [← hAe]; exact Or.inr h
  have hl := lv_entry ([.ref h0, .int (nI a), .int (nI b)]) (n := 4) (Nat.le_of_ble_eq_true rfl)
  rw [lg_entry_eq]
  generalize (lg_sl ([.ref h0, .int (nI a), .int (nI b)]) ++ List.replicate (4 - (lg_sl ([.ref h0, .int (nI a), .int (nI b)])).length) Slot.unset).toArray = ls at hl ⊢
  have hl : lv_has ls 4 [(0, .ref h0), (1, .int (nI a)), (2, .int (nI b))] := hl
  have hP : va_P (dC, dI) vwCl (wgW h0 qc qh r cA cI cJ me nw u tw iv hd M) s.heap := hP
  obtain ⟨H, hH⟩ : ∃ H, H = s.heap := ⟨_, rfl⟩
  have hS : va_S A s.heap H [] := by rw [hH]; exact va_S.rf
  rw [← hH] at hP ⊢
  refine lv_aload_n hx hb dX0_clear_0 rfl (lv_at hl 0 rfl) ?_
  refine lv_iload_n hx hb dX0_clear_1 rfl (lv_at hl 1 rfl) ?_
  refine lv_bipush (v := nI 9) hx hb dX0_clear_2 (by decide) ?_
  refine va_mmin (R := (headSpec wsX0_clear ({ frames := 2, cells := 0, slots := 0, locals := 48 })).room) hx hb (hml.trans hl.1.symm) hown (hts (.methodLink RX0 37 Lib.Math.min.name) (List.mem_of_getElem? (i := 1) rfl)) (hts (.static Lib.Math.min.name) (List.mem_of_getElem? (i := 2) rfl)) (hts (.initialized "java/lang/Math") (List.mem_of_getElem? (i := 3) rfl)) (hts (.code Lib.Math.min.name Lib.Math.min.code 2 (some .int)) (List.mem_of_getElem? (i := 4) rfl)) (Nat.le_of_ble_eq_true rfl) (Nat.le_of_ble_eq_true rfl) (Nat.zero_le _) (Nat.zero_le _) dX0_clear_4 ?_
  rw [if_neg (nI_nlt (show a ≤ 9 by omega) (by omega))]
  refine va_put (D := (dC, dI)) (ci := 0) (v := .int (nI a)) (ty := .int) (C := RX0) (T := TX0) (N := 7) hx hb hts (fun _ h => List.mem_cons_of_mem _ (List.mem_append_right _ h)) tyX0 tyX0_ok nmX0 hown hK hP hD hS 0 rfl rfl 2 (by decide) (hts (.fieldLink RX0 20 "RankFinder$Weighing" "equations" "I") (List.mem_of_getElem? (i := 5) rfl)) (fun _ h9 => h9) rfl (by decide +kernel) rfl rfl (Nat.le_of_ble_eq_true rfl) dX0_clear_7 (fun H locs hP hD hS => ?_)
  have hP : va_P (dC, dI) vwCl (wgW h0 qc qh r cA cI cJ a nw u tw iv hd M) H := hP
  have hD : va_D A (wgW h0 qc qh r cA cI cJ a nw u tw iv hd M) := hD
  refine lv_aload_n hx hb dX0_clear_10 rfl (lv_at hl 0 rfl) ?_
  refine lv_iload_n hx hb dX0_clear_11 rfl (lv_at hl 2 rfl) ?_
  refine lv_bipush (v := nI 16) hx hb dX0_clear_12 (by decide) ?_
  refine va_mmin (R := (headSpec wsX0_clear ({ frames := 2, cells := 0, slots := 0, locals := 48 })).room) hx hb (hml.trans hl.1.symm) hown (hts (.methodLink RX0 37 Lib.Math.min.name) (List.mem_of_getElem? (i := 1) rfl)) (hts (.static Lib.Math.min.name) (List.mem_of_getElem? (i := 2) rfl)) (hts (.initialized "java/lang/Math") (List.mem_of_getElem? (i := 3) rfl)) (hts (.code Lib.Math.min.name Lib.Math.min.code 2 (some .int)) (List.mem_of_getElem? (i := 4) rfl)) (Nat.le_of_ble_eq_true rfl) (Nat.le_of_ble_eq_true rfl) (Nat.zero_le _) (Nat.zero_le _) dX0_clear_14 ?_
  rw [if_neg (nI_nlt (show b ≤ 16 by omega) (by omega))]
  refine va_put (D := (dC, dI)) (ci := 0) (v := .int (nI b)) (ty := .int) (C := RX0) (T := TX0) (N := 7) hx hb hts (fun _ h => List.mem_cons_of_mem _ (List.mem_append_right _ h)) tyX0 tyX0_ok nmX0 hown hK hP hD hS 0 rfl rfl 3 (by decide) (hts (.fieldLink RX0 24 "RankFinder$Weighing" "weights" "I") (List.mem_of_getElem? (i := 6) rfl)) (fun _ h9 => h9) rfl (by decide +kernel) rfl rfl (Nat.le_of_ble_eq_true rfl) dX0_clear_17 (fun H locs hP hD hS => ?_)
  have hP : va_P (dC, dI) vwCl (wgW h0 qc qh r cA cI cJ a b u tw iv hd M) H := hP
  have hD : va_D A (wgW h0 qc qh r cA cI cJ a b u tw iv hd M) := hD
  refine lv_iconst (v := nI 0) hx hb dX0_clear_20 (by decide) ?_
  refine lv_istore_n (lv' := [(3, .int (nI 0)), (0, .ref h0), (1, .int (nI a)), (2, .int (nI b))]) hx hb dX0_clear_21 rfl hl (by decide) rfl (fun ls hl => ?_)
  have loop : ∀ (d k : Nat) (H : Heap) (locs : List Loc) (ls : Array Slot), k + d = a + 1 → va_P (dC, dI) vwCl (wgW h0 qc qh r cA cI cJ a b u tw iv hd (clF M k)) H → va_K (dC, dI) vwCl (wgT cA cI cJ) s → va_D A (wgW h0 qc qh r cA cI cJ a b u tw iv hd (clF M k)) → va_S A s.heap H locs → lv_has ls 4 [(3, .int (nI k)), (0, .ref h0), (1, .int (nI a)), (2, .int (nI b))] → W p l e (headSpec wsX0_clear ({ frames := 2, cells := 0, slots := 0, locals := 48 })).room s m #[.ref h0, .int (nI a), .int (nI b)] below meth c H locs 0 0 (MQ below (va_Qv (fun v : Unit => True) (fun v t => va_P (dC, dI) vwCl (wgW h0 qc qh r cA cI cJ a b 1 (bcF ((1 &&& -1) - 1)) (nwF (sr 1 (bcF ((1 &&& -1) - 1))) 5) (filI hd 9 (-1)) (clF M (a + 1))) t.heap ∧ va_K (dC, dI) vwCl (wgT cA cI cJ) t ∧ va_D A (wgW h0 qc qh r cA cI cJ a b 1 (bcF ((1 &&& -1) - 1)) (nwF (sr 1 (bcF ((1 &&& -1) - 1))) 5) (filI hd 9 (-1)) (clF M (a + 1)))) A) #[.ref h0, .int (nI a), .int (nI b)] s 0 0 A) (F0 m 22 ls []) := by
    clear hP hK hD hS hl
    intro d
    induction d with
    | zero =>
      intro k H locs ls hk hP hK hD hS hl
      refine lv_iload_n hx hb dX0_clear_22 rfl (lv_at hl 0 rfl) ?_
      refine lv_aload_n hx hb dX0_clear_23 rfl (lv_at hl 1 rfl) ?_
      refine va_get (D := (dC, dI)) (ci := 0) (v := .int (nI a)) (C := RX0) (T := TX0) (N := 7) hx hb hts (fun _ h => List.mem_cons_of_mem _ (List.mem_append_right _ h)) hown hK hP 0 rfl rfl 2 (by decide) (hts (.fieldLink RX0 20 "RankFinder$Weighing" "equations" "I") (List.mem_of_getElem? (i := 5) rfl)) (fun _ h9 => h9) rfl dX0_clear_24 ?_
      refine lv_icmp_gt (tgt := 46) hx hb dX0_clear_27 (by decide) (fun c1 => ?_) (fun c1 => ?_)
      · obtain rfl : k = a + 1 := by omega
        refine lv_aload_n hx hb dX0_clear_46 rfl (lv_at hl 1 rfl) ?_
        refine va_get (D := (dC, dI)) (ci := 0) (v := .ref qh) (C := RX0) (T := TX0) (N := 7) hx hb hts (fun _ h => List.mem_cons_of_mem _ (List.mem_append_right _ h)) hown hK hP 0 rfl rfl 1 (by decide) (hts (.fieldLink RX0 16 "RankFinder$Weighing" "held" "[I") (List.mem_of_getElem? (i := 8) rfl)) (fun _ h9 => h9) rfl dX0_clear_47 ?_
        refine lv_iconst (v := (-1)) hx hb dX0_clear_50 (by decide) ?_
        have hk9 : (wgW h0 qc qh r cA cI cJ a b u tw iv hd (clF M (a + 1)))[2]? = some (qh, .inl (cI, 9, .inl hd)) := rfl
        have hFc := va_oneA hD hk9 hS hA
        refine va_callv (va_runS (As := [.ref qh, .int (-1)]) (rest := []) ⟨hx, hb, hml, hown, hts⟩ (c_J7_fillI l dC dI H.size cI qh 9 hd (-1) (by omega)) (va_cwS 2 hts gX0_clear_J7_fill_53178 rfl rfl rfl (by decide +kernel) ⟨Nat.le_of_ble_eq_true rfl, Nat.le_of_ble_eq_true rfl⟩) ⟨fun a U g mk q => by obtain ⟨q0, q1, qP, qK, qD⟩ := q; exact ⟨q0, q1, qP, va_K.moved (u := U) (U := U.calling g mk a) (Vm.Alike.refl U.vm) qK, qD⟩, fun U hU hW => ⟨rfl, by rw [hU], by rw [hU]; exact va_oneP hP hk9, va_K.moved hW.alike (hK.sub [1] rfl), va_oneD trivial⟩⟩ rfl rfl hl.1 rfl (lv_room (Nat.le_of_ble_eq_true rfl)) dX0_clear_51 ⟨(Nat.zero_le _), (Nat.zero_le _)⟩) hS (fun q _ h => hFc q h) hFc (fun v9 t H1 locs ht hvm hw hB hz1 hk1 hS => ?_)
        obtain ⟨hP1, hK1, hD1⟩ := hB
        rw [ht] at hP1
        obtain ⟨hP, hD⟩ := jn_at hP hD hk9 hk1 hP1
        clear hP1 hD1 hK1 hFc hk1 hz1 ht hvm hk9
        generalize H1 = H at hP hS ⊢
        have hP : va_P (dC, dI) vwCl (wgW h0 qc qh r cA cI cJ a b u tw iv (filI hd 9 (-1)) (clF M (a + 1))) H := hP
        have hD : va_D A (wgW h0 qc qh r cA cI cJ a b u tw iv (filI hd 9 (-1)) (clF M (a + 1))) := hD
        refine lv_aload_n hx hb dX0_clear_54 rfl (lv_at hl 1 rfl) ?_
        refine lv_lconst (v := 1) hx hb dX0_clear_55 (by decide) ?_
        have hFc : ∀ q, va_A (wgW h0 qc qh r cA cI cJ a b u tw iv (filI hd 9 (-1)) (clF M (a + 1))) H.size q → A q := va_fall hD hS hA
        refine va_callv (va_runV (As := [.long 1]) (rest := []) ⟨hx, hb, hml, hown, hts⟩ (c_X0_takeUnit l dC dI h0 qc qh r cA cI cJ H.size a b u tw iv (filI hd 9 (-1)) (clF M (a + 1)) 1) (cwV 1 hts gX0_clear_X0_takeUnit rfl rfl rfl (by decide +kernel) ⟨Nat.le_of_ble_eq_true rfl, Nat.le_of_ble_eq_true rfl⟩) ⟨fun a U g mk q => by obtain ⟨q0, q1, qP, qK, qD⟩ := q; exact ⟨q0, q1, qP, va_K.moved (u := U) (U := U.calling g mk a) (Vm.Alike.refl U.vm) qK, qD⟩, va_recv hK hP (ci := 0) (q0 := 0) rfl rfl, fun U hU hW => ⟨rfl, by rw [hU], by rw [hU]; exact hP, va_K.moved hW.alike hK, hD.weaken (fun _ _ _ _ => trivial)⟩⟩ rfl rfl hl.1 rfl (lv_room (Nat.le_of_ble_eq_true rfl)) dX0_clear_56 ⟨(Nat.zero_le _), (Nat.zero_le _)⟩) hS (fun q _ h => hFc q h) hFc (fun v9 t H1 locs ht hvm hw hB hz1 hk1 hS => ?_)
        obtain ⟨hP1, hK1, hD1⟩ := hB
        rw [ht] at hP1
        clear hP hD hK
        have hK := va_K.moved hvm.symm hK1
        have hP := hP1
        have hD := hD1.weaken (B := A) (fun _ q _ h => hFc q.1 h)
        clear hP1 hD1 hK1 hFc hk1 hz1 ht hvm
        generalize H1 = H at hP hS ⊢
        exact W.vret hx hb hr (fun t ht hW => ⟨⟨(), rfl, trivial, by rw [ht]; exact hP, va_K.moved hW.alike hK, hD⟩, hS.F ht⟩) hS.2.2 dX0_clear_59
      · exact absurd (nI_lt (by omega) (by omega)) c1
    | succ d ih =>
      intro k H locs ls hk hP hK hD hS hl
      refine lv_iload_n hx hb dX0_clear_22 rfl (lv_at hl 0 rfl) ?_
      refine lv_aload_n hx hb dX0_clear_23 rfl (lv_at hl 1 rfl) ?_
      refine va_get (D := (dC, dI)) (ci := 0) (v := .int (nI a)) (C := RX0) (T := TX0) (N := 7) hx hb hts (fun _ h => List.mem_cons_of_mem _ (List.mem_append_right _ h)) hown hK hP 0 rfl rfl 2 (by decide) (hts (.fieldLink RX0 20 "RankFinder$Weighing" "equations" "I") (List.mem_of_getElem? (i := 5) rfl)) (fun _ h9 => h9) rfl dX0_clear_24 ?_
      refine lv_icmp_gt (tgt := 46) hx hb dX0_clear_27 (by decide) (fun c1 => ?_) (fun c1 => ?_)
      · exact absurd c1 (nI_nlt (by omega) (by omega))
      · refine lv_aload_n hx hb dX0_clear_30 rfl (lv_at hl 1 rfl) ?_
        refine va_get (D := (dC, dI)) (ci := 0) (v := .ref qc) (C := RX0) (T := TX0) (N := 7) hx hb hts (fun _ h => List.mem_cons_of_mem _ (List.mem_append_right _ h)) hown hK hP 0 rfl rfl 0 (by decide) (hts (.fieldLink RX0 13 "RankFinder$Weighing" "cell" "[[J") (List.mem_of_getElem? (i := 7) rfl)) (fun _ h9 => h9) rfl dX0_clear_31 ?_
        refine lv_iload_n hx hb dX0_clear_34 rfl (lv_at hl 0 rfl) ?_
        refine na_aald (y := r k) hx hb hK hP 1 0 rfl rfl (show k < 10 by omega) (by decide) (if_pos (show k < 10 by omega)) dX0_clear_35 ?_
        refine lv_lconst (v := 0) hx hb dX0_clear_36 (by decide) ?_
        have hk9 : (wgW h0 qc qh r cA cI cJ a b u tw iv hd (clF M k))[3 + k]? = some ((r k), .inl (cJ, 17, .inr (.inl (clF M k k)))) := gG_get (show k < 10 by omega) rfl
        have hFc := va_oneA hD hk9 hS hA
        refine va_callv (va_runS (As := [.ref (r k), .long 0]) (rest := []) ⟨hx, hb, hml, hown, hts⟩ (c_J7_fillL l dC dI H.size cJ (r k) 17 (clF M k k) 0 (by omega)) (va_cwS 2 hts gX0_clear_J7_fill_d0a16 rfl rfl rfl (by decide +kernel) ⟨Nat.le_of_ble_eq_true rfl, Nat.le_of_ble_eq_true rfl⟩) ⟨fun a U g mk q => by obtain ⟨q0, q1, qP, qK, qD⟩ := q; exact ⟨q0, q1, qP, va_K.moved (u := U) (U := U.calling g mk a) (Vm.Alike.refl U.vm) qK, qD⟩, fun U hU hW => ⟨rfl, by rw [hU], by rw [hU]; exact va_oneP hP hk9, va_K.moved hW.alike (hK.sub [2] rfl), va_oneD trivial⟩⟩ rfl rfl hl.1 rfl (lv_room (Nat.le_of_ble_eq_true rfl)) dX0_clear_37 ⟨(Nat.zero_le _), (Nat.zero_le _)⟩) hS (fun q _ h => hFc q h) hFc (fun v9 t H1 locs ht hvm hw hB hz1 hk1 hS => ?_)
        obtain ⟨hP1, hK1, hD1⟩ := hB
        rw [ht] at hP1
        obtain ⟨hP, hD⟩ := jn_at hP hD hk9 hk1 hP1
        clear hP1 hD1 hK1 hFc hk1 hz1 ht hvm hk9
        generalize H1 = H at hP hS ⊢
        rw [wgW_row (show k < 10 by omega), clF_s] at hP hD
        have hP : va_P (dC, dI) vwCl (wgW h0 qc qh r cA cI cJ a b u tw iv hd (clF M (k + 1))) H := hP
        have hD : va_D A (wgW h0 qc qh r cA cI cJ a b u tw iv hd (clF M (k + 1))) := hD
        refine lv_iinc (v := nI (k + 1)) (lv' := [(3, .int (nI (k + 1))), (0, .ref h0), (1, .int (nI a)), (2, .int (nI b))]) hx hb dX0_clear_40 hl (k := 0) rfl (nI_1 _) (by decide) rfl (fun ls hl => ?_)
        refine lv_goto (tgt := 22) hx hb dX0_clear_43 (by decide) ?_
        exact ih (k + 1) H _ ls (by omega) hP hK hD hS (lv_sub hl [0, 1, 2, 3] rfl)
  exact loop (a + 1) 0 H _ ls (by omega) (by rw [clF_0]; exact hP) hK (by rw [clF_0]; exact hD) hS (lv_sub hl [0, 1, 2, 3] rfl)
