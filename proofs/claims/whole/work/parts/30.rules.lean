/-! ===== rows of my own: places told by naturals; arrays of arrays; grids; the Weighing's world ===== -/
theorem gG_get {X : va_W} {g : Nat → Nat × va_E} {N i k : Nat} (hi : i < N) (hk : k = X.length + i) : (X ++ (List.range N).map g)[k]? = some (g i) := by
  subst hk
  rw [List.getElem?_append_right (by omega), show X.length + i - X.length = i by omega, List.getElem?_map, List.getElem?_range hi]
  rfl
theorem gG_set {X : va_W} {g : Nat → Nat × va_E} {N i k : Nat} (hi : i < N) (hk : k = X.length + i) (e : Nat × va_E) : (X ++ (List.range N).map g).set k e = X ++ (List.range N).map (fup g i e) := by
  subst hk
  apply List.ext_getElem?
  intro j
  rw [List.getElem?_set]
  by_cases h : X.length + i = j
  · subst h
    rw [if_pos rfl, List.getElem?_append_right (by omega), show X.length + i - X.length = i by omega, List.getElem?_map, List.getElem?_range hi]
    simp [fup, hi]
  · rw [if_neg h]
    by_cases hj : j < X.length
    · rw [List.getElem?_append_left hj, List.getElem?_append_left hj]
    · rw [List.getElem?_append_right (by omega), List.getElem?_append_right (by omega), List.getElem?_map, List.getElem?_map]
      by_cases hj2 : j - X.length < N
      · rw [List.getElem?_range hj2]
        simp [fup, show j - X.length ≠ i by omega]
      · rw [List.getElem?_eq_none (by simp; omega)]
        rfl
section RU
variable {p : Program} {l : Launch} {e : Env} {R : Room} {s : State} {m : MethodId} {args : Array Value} {below : List Frame} {meth : Method} {c : Code} {H : Heap} {locs : List Loc} {cells slots : Nat} {Q : State → Prop}
variable {cc : ByteArray} {pc : Nat} {ls : Array Slot} {rest : List Value} {D : va_G} {cl : List vw_C} {A : Nat → Prop} {a : Nat} {tys : List (ClassId × FieldType)} {ws : va_W} {H0 : Heap}
theorem na_iald (hexec : p.tables.exec = Jvm.exec) (hb : c.code = cc) (hK : va_K D cl tys s) (hP : va_P D cl ws H) (q0 t0 : Nat) {cA : ClassId} {n : Nat} {f : Nat → Int32} (ha : ws[q0]? = some (a, .inl (cA, n, .inl f))) (ht : tys[t0]? = some (cA, .int)) {k : Nat} (hk : k < n) (hn : n < 2 ^ 31) (hdg : decode cc pc = .ok (.iaload, 1))
    (kk : W p l e R s m args below meth c H locs cells slots Q (F0 m (pc + 1) ls (.int (f k) :: rest))) : W p l e R s m args below meth c H locs cells slots Q (F0 m pc ls (.int (nI k) :: .ref a :: rest)) := by
  refine va_iald hexec hb hK hP q0 t0 ha ht (vp_in_nI hk hn) hdg ?_
  rw [nI_clamp (by omega)]
  exact kk
theorem na_lald (hexec : p.tables.exec = Jvm.exec) (hb : c.code = cc) (hK : va_K D cl tys s) (hP : va_P D cl ws H) (q0 t0 : Nat) {cA : ClassId} {n : Nat} {f : Nat → Int64} (ha : ws[q0]? = some (a, .inl (cA, n, .inr (.inl f)))) (ht : tys[t0]? = some (cA, .long)) {k : Nat} (hk : k < n) (hn : n < 2 ^ 31) (hdg : decode cc pc = .ok (.laload, 1))
    (kk : W p l e R s m args below meth c H locs cells slots Q (F0 m (pc + 1) ls (.long (f k) :: rest))) : W p l e R s m args below meth c H locs cells slots Q (F0 m pc ls (.int (nI k) :: .ref a :: rest)) := by
  refine va_lald hexec hb hK hP q0 t0 ha ht (vp_in_nI hk hn) hdg ?_
  rw [nI_clamp (by omega)]
  exact kk
theorem na_iast (hexec : p.tables.exec = Jvm.exec) (hb : c.code = cc) (hK : va_K D cl tys s) (hP : va_P D cl ws H) (hD : va_D A ws) (hS : va_S A H0 H locs) (q0 t0 : Nat) {cA : ClassId} {n : Nat} {f : Nat → Int32} (ha : ws[q0]? = some (a, .inl (cA, n, .inl f))) (ht : tys[t0]? = some (cA, .int)) {k : Nat} {x : Int32} (hk : k < n) (hn : n < 2 ^ 31) (hdg : decode cc pc = .ok (.iastore, 1))
    (kk : ∀ (H1 : Heap) (locs1 : List Loc), va_P D cl (ws.set q0 (a, .inl (cA, n, .inl (upd f k x)))) H1 → va_D A (ws.set q0 (a, .inl (cA, n, .inl (upd f k x)))) → va_S A H0 H1 locs1 → W p l e R s m args below meth c H1 locs1 cells slots Q (F0 m (pc + 1) ls rest)) : W p l e R s m args below meth c H locs cells slots Q (F0 m pc ls (.int x :: .int (nI k) :: .ref a :: rest)) := by
  refine va_iast hexec hb hK hP hD hS q0 t0 ha ht (vp_in_nI hk hn) hdg ?_
  rw [nI_clamp (by omega)]
  exact kk
theorem na_last (hexec : p.tables.exec = Jvm.exec) (hb : c.code = cc) (hK : va_K D cl tys s) (hP : va_P D cl ws H) (hD : va_D A ws) (hS : va_S A H0 H locs) (q0 t0 : Nat) {cA : ClassId} {n : Nat} {f : Nat → Int64} (ha : ws[q0]? = some (a, .inl (cA, n, .inr (.inl f)))) (ht : tys[t0]? = some (cA, .long)) {k : Nat} {x : Int64} (hk : k < n) (hn : n < 2 ^ 31) (hdg : decode cc pc = .ok (.lastore, 1))
    (kk : ∀ (H1 : Heap) (locs1 : List Loc), va_P D cl (ws.set q0 (a, .inl (cA, n, .inr (.inl (vp_updL f k x))))) H1 → va_D A (ws.set q0 (a, .inl (cA, n, .inr (.inl (vp_updL f k x))))) → va_S A H0 H1 locs1 → W p l e R s m args below meth c H1 locs1 cells slots Q (F0 m (pc + 1) ls rest)) : W p l e R s m args below meth c H locs cells slots Q (F0 m pc ls (.long x :: .int (nI k) :: .ref a :: rest)) := by
  refine va_last hexec hb hK hP hD hS q0 t0 ha ht (vp_in_nI hk hn) hdg ?_
  rw [nI_clamp (by omega)]
  exact kk
/-- an array of arrays -/
theorem na_aald (hexec : p.tables.exec = Jvm.exec) (hb : c.code = cc) (hK : va_K D cl tys s) (hP : va_P D cl ws H) (q0 t0 : Nat) {cA : ClassId} {ty : FieldType} {n : Nat} {f : Nat → Option Nat} (ha : ws[q0]? = some (a, .inl (cA, n, .inr (.inr (.inr (.inr f)))))) (ht : tys[t0]? = some (cA, .array ty)) {k y : Nat} (hk : k < n) (hn : n < 2 ^ 31) (hy : f k = some y) (hdg : decode cc pc = .ok (.aaload, 1))
    (kk : W p l e R s m args below meth c H locs cells slots Q (F0 m (pc + 1) ls (.ref y :: rest))) : W p l e R s m args below meth c H locs cells slots Q (F0 m pc ls (.int (nI k) :: .ref a :: rest)) := by
  exact W.aald (v := va_rf (f k)) (ty := .array ty) hexec hb (hP q0 _ ha) ((hK.2 t0 _ ht).1 n (fun j => va_rf (f j))) rfl (fun q => by cases q) (by show ¬ (nI k < 0 ∨ (arrV _ _ _).slots.size ≤ _); rw [arrV_size]; exact vp_in_nI hk hn) (by show (arrV _ _ _).slots[_]? = _; rw [nI_clamp (by omega), arrV_read _ _ hk]) rfl rfl hdg (by rw [hy]; exact kk)
end RU
abbrev vwCl : List vw_C := [(RX0, TX0, 7), (RX1, TX1, 7), (RX2, TX2, 19)]
/-- the Weighing's cells -/
abbrev wgW (h0 qc qh : Nat) (r : Nat → Nat) (cA cI cJ : ClassId) (m n : Nat) (u : Int64) (tw : Int32) (iv : Int64) (hd : Nat → Int32) (M : Nat → Nat → Int64) : va_W :=
  [(h0, .inr (0, [.ref qc, .ref qh, .int (nI m), .int (nI n), .long u, .int tw, .long iv])), (qc, .inl (cA, 10, .inr (.inr (.inr (.inr (fun i => if i < 10 then some (r i) else none)))))), (qh, .inl (cI, 9, .inl hd))] ++ (List.range 10).map (fun i => (r i, .inl (cJ, 17, .inr (.inl (M i)))))
abbrev wgT (cA cI cJ : ClassId) : List (ClassId × FieldType) := [(cA, .array .long), (cI, .int), (cJ, .long)]
/-- one cell put anew -/
def mup (M : Nat → Nat → Int64) (i j : Nat) (x : Int64) : Nat → Nat → Int64 := fup M i (vp_updL (M i) j x)
theorem wgW_set {h0 qc qh : Nat} {r : Nat → Nat} {cA cI cJ : ClassId} {m n : Nat} {u : Int64} {tw : Int32} {iv : Int64} {hd : Nat → Int32} {M : Nat → Nat → Int64} {i j : Nat} (hi : i < 10) (x : Int64) : (wgW h0 qc qh r cA cI cJ m n u tw iv hd M).set (3 + i) (r i, .inl (cJ, 17, .inr (.inl (vp_updL (M i) j x)))) = wgW h0 qc qh r cA cI cJ m n u tw iv hd (mup M i j x) := by
  refine (gG_set (k := 3 + i) hi rfl _).trans ?_
  refine congrArg (fun g => _ ++ (List.range 10).map g) ?_
  funext k
  by_cases e : k = i
  · subst e; simp [fup, mup]
  · simp [fup, mup, e]
