/-! ===== RankFinder: weighGoal, weighRanking ===== -/
theorem va_Pr {D : va_G} {cl : List vw_C} {X Y : va_W} {H : Heap} (hP : va_P D cl (X ++ Y) H) : va_P D cl Y H := fun k q h => hP (X.length + k) q (by rw [List.getElem?_append_right (by omega), show X.length + k - X.length = k by omega]; exact h)
theorem va_Dr {A : Nat → Prop} {X Y : va_W} (hD : va_D A (X ++ Y)) : va_D (fun _ => True) Y := by
  refine ⟨fun i j p q hi hj e => ?_, fun _ _ _ => trivial⟩
  have h1 : (X ++ Y)[X.length + i]? = some p := by rw [List.getElem?_append_right (by omega), show X.length + i - X.length = i by omega]; exact hi
  have h2 : (X ++ Y)[X.length + j]? = some q := by rw [List.getElem?_append_right (by omega), show X.length + j - X.length = j by omega]; exact hj
  have := hD.1 _ _ p q h1 h2 e
  omega
theorem va_Ar {A0 : Nat → Prop} {X Y : va_W} {H0 H : Heap} {locs : List Loc} (hD : va_D A0 (X ++ Y)) (hS : va_S A0 H0 H locs) (hA : ∀ q, H0.size ≤ q → A0 q) : ∀ q, va_A Y H.size q → A0 q := fun q h => by
  rcases h with ⟨k, e, h⟩ | h
  · exact hD.2 (X.length + k) (q, e) (by rw [List.getElem?_append_right (by omega), show X.length + k - X.length = k by omega]; exact h)
  · exact hA q (Nat.le_trans hS.1 h)
/-- behind a call whose world is the latter part of this world -/
theorem jn_app {D : va_G} {cl : List vw_C} {A0 : Nat → Prop} {X Y Y' : va_W} {H H1 : Heap} (hP : va_P D cl (X ++ Y) H) (hD : va_D A0 (X ++ Y)) (hk : ∀ q : Nat, q < H.size → ¬ va_A Y H.size q → H1[q]? = H[q]?) (hF : ∀ q, va_A Y H.size q → A0 q) (hP1 : va_P D cl Y' H1) (hD1 : va_D (va_A Y H.size) Y') : va_P D cl (X ++ Y') H1 ∧ va_D A0 (X ++ Y') := by
  have hX : ∀ (k : Nat) (q : Nat × va_E), X[k]? = some q → (X ++ Y)[k]? = some q := fun k q h => by
    rw [List.getElem?_append_left (List.getElem?_eq_some_iff.mp h).1]; exact h
  have apart : ∀ (k : Nat) (q : Nat × va_E), X[k]? = some q → q.1 < H.size ∧ ¬ va_A Y H.size q.1 := by
    intro k q hq
    have hl := (hP k q (hX k q hq)).lt
    refine ⟨hl, fun h => ?_⟩
    rcases h with ⟨k2, e, h⟩ | h
    · have h4 : (X ++ Y)[X.length + k2]? = some (q.1, e) := by rw [List.getElem?_append_right (by omega), show X.length + k2 - X.length = k2 by omega]; exact h
      have hij := hD.1 k (X.length + k2) q (q.1, e) (hX k q hq) h4 rfl
      have := (List.getElem?_eq_some_iff.mp hq).1
      omega
    · omega
  refine ⟨va_P.app (fun k q hq => ?_) hP1, va_D.app ⟨fun i j p q hi hj e => hD.1 i j p q (hX i p hi) (hX j q hj) e, fun k q h => hD.2 k q (hX k q h)⟩ (hD1.weaken (fun k q _ h => hF q.1 h)) (fun i j x y hx hy hxy => ?_)⟩
  · exact (hP k q (hX k q hq)).kept (hk q.1 (apart k q hq).1 (apart k q hq).2)
  · exact (apart i x hx).2 (by rw [hxy]; exact hD1.2 j y hy)
theorem mup_at (M : Nat → Nat → Int64) (i j : Nat) (x : Int64) (a b : Nat) : mup M i j x a b = if a = i ∧ b = j then x else M a b := by
  unfold mup fup
  by_cases e : a = i
  · subst e
    unfold vp_updL
    by_cases e2 : b = j
    · simp [e2]
    · simp [e2]
  · simp [e]
def tgG (T : Nat → Nat → Int32) (gl : Nat → Int32) (vn ct a b : Nat) : Int64 := if b < ct then (if a < vn then (T b a).toInt64 else if a < 2 * vn then (T b (3 + (a - vn))).toInt64 else (T b 6).toInt64) else (if a < vn then (-(gl a)).toInt64 else if a < 2 * vn then (-(gl (3 + (a - vn)))).toInt64 else 0)
def ivG (T : Nat → Nat → Int32) (gl : Nat → Int32) (vn ct : Nat) (M : Nat → Nat → Int64) (i k : Nat) : Prop := ∀ a b, a ≤ 2 * vn → b ≤ ct → M a b = if ((a < i ∨ (vn ≤ a ∧ a < vn + i)) ∨ ((a = i ∨ a = vn + i) ∧ b < k)) ∧ a < 2 * vn then tgG T gl vn ct a b else 0
theorem ivG_put {T : Nat → Nat → Int32} {gl : Nat → Int32} {vn ct : Nat} {M : Nat → Nat → Int64} {i k : Nat} (h : ivG T gl vn ct M i k) (hi : i < vn) (hk : k < ct) : ivG T gl vn ct (mup (mup M i k (T k i).toInt64) (vn + i) k (T k (3 + i)).toInt64) i (k + 1) := by
  intro a b ha hb
  rw [mup_at, mup_at, h a b ha hb]
  by_cases e1 : a = vn + i ∧ b = k
  · rw [if_pos e1, if_pos (by omega)]
    unfold tgG
    rw [if_pos (by omega), if_neg (by omega), if_pos (by omega), e1.1, e1.2, show vn + i - vn = i by omega]
  · rw [if_neg e1]
    by_cases e2 : a = i ∧ b = k
    · rw [if_pos e2, if_pos (by omega)]
      unfold tgG
      rw [if_pos (by omega), if_pos (by omega), e2.1, e2.2]
    · rw [if_neg e2]
      by_cases q : ((a < i ∨ (vn ≤ a ∧ a < vn + i)) ∨ ((a = i ∨ a = vn + i) ∧ b < k)) ∧ a < 2 * vn
      · rw [if_pos q, if_pos (by omega)]
      · rw [if_neg q, if_neg (by omega)]
theorem ivG_rhs {T : Nat → Nat → Int32} {gl : Nat → Int32} {vn ct : Nat} {M : Nat → Nat → Int64} {i : Nat} (h : ivG T gl vn ct M i ct) (hi : i < vn) : ivG T gl vn ct (mup (mup M i ct (-(gl i)).toInt64) (vn + i) ct (-(gl (3 + i))).toInt64) (i + 1) 0 := by
  intro a b ha hb
  rw [mup_at, mup_at, h a b ha hb]
  by_cases e1 : a = vn + i ∧ b = ct
  · rw [if_pos e1, if_pos (by omega)]
    unfold tgG
    rw [if_neg (by omega), if_neg (by omega), if_pos (by omega), e1.1, show vn + i - vn = i by omega]
  · rw [if_neg e1]
    by_cases e2 : a = i ∧ b = ct
    · rw [if_pos e2, if_pos (by omega)]
      unfold tgG
      rw [if_neg (by omega), if_pos (by omega), e2.1]
    · rw [if_neg e2]
      by_cases q : ((a < i ∨ (vn ≤ a ∧ a < vn + i)) ∨ ((a = i ∨ a = vn + i) ∧ b < ct)) ∧ a < 2 * vn
      · rw [if_pos q, if_pos (by omega)]
      · rw [if_neg q, if_neg (by omega)]
def ivC (T : Nat → Nat → Int32) (gl : Nat → Int32) (vn ct : Nat) (M : Nat → Nat → Int64) (k : Nat) : Prop := ∀ a b, a ≤ 2 * vn → b ≤ ct → M a b = if a < 2 * vn ∨ b < k then tgG T gl vn ct a b else 0
theorem ivC_0 {T : Nat → Nat → Int32} {gl : Nat → Int32} {vn ct : Nat} {M : Nat → Nat → Int64} (h : ivG T gl vn ct M vn 0) : ivC T gl vn ct M 0 := by
  intro a b ha hb
  rw [h a b ha hb]
  by_cases q : a < 2 * vn
  · rw [if_pos (by omega), if_pos (Or.inl q)]
  · rw [if_neg (by omega), if_neg (by omega)]
theorem ivC_s {T : Nat → Nat → Int32} {gl : Nat → Int32} {vn ct : Nat} {M : Nat → Nat → Int64} {k : Nat} (h : ivC T gl vn ct M k) (hk : k < ct) : ivC T gl vn ct (mup M (2 * vn) k (T k 6).toInt64) (k + 1) := by
  intro a b ha hb
  rw [mup_at, h a b ha hb]
  by_cases e : a = 2 * vn ∧ b = k
  · rw [if_pos e, if_pos (by omega)]
    unfold tgG
    rw [if_pos (by omega), if_neg (by omega), if_neg (by omega), e.2]
  · rw [if_neg e]
    by_cases q : a < 2 * vn ∨ b < k
    · rw [if_pos q, if_pos (by omega)]
    · rw [if_neg q, if_neg (by omega)]
theorem ivC_e {T : Nat → Nat → Int32} {gl : Nat → Int32} {vn ct : Nat} {M : Nat → Nat → Int64} (h : ivC T gl vn ct M ct) : ∀ a b, a ≤ 2 * vn → b ≤ ct → M a b = tgG T gl vn ct a b := by
  intro a b ha hb
  rw [h a b ha hb]
  by_cases q : a < 2 * vn ∨ b < ct
  · rw [if_pos q]
  · rw [if_neg q]
    unfold tgG
    rw [if_neg (by omega), if_neg (by omega), if_neg (by omega)]
theorem ivG_0 {T : Nat → Nat → Int32} {gl : Nat → Int32} {vn ct : Nat} {M : Nat → Nat → Int64} (hv : vn ≤ 3) (hc : ct ≤ 8) : ivG T gl vn ct (clF M (2 * vn + 1)) 0 0 := by
  intro a b ha hb
  rw [if_neg (by omega)]
  unfold clF
  rw [if_pos (by omega)]
/-- the ranking's table -/
def tgR (T : Nat → Nat → Int32) (vn ct a b : Nat) : Int64 :=
  if b < ct then (if a < vn then (T b (3 + a)).toInt64 else if a < 2 * vn then (-(T b (a - vn))).toInt64 else 0)
  else if b < 2 * ct then (if a < vn then 0 else if a < 2 * vn then (T (b - ct) (a - vn)).toInt64 else if a < 3 * vn then (T (b - ct) (a - 2 * vn) + T (b - ct) (3 + (a - 2 * vn))).toInt64 else (T (b - ct) 6).toInt64)
  else 0
def rho (vn a : Nat) : Nat := if a < vn then a else if a < 2 * vn then a - vn else a - 2 * vn
def ivR (T : Nat → Nat → Int32) (vn ct : Nat) (M : Nat → Nat → Int64) (i k : Nat) : Prop := ∀ a b, a ≤ 3 * vn → b ≤ 2 * ct → M a b = if a < 3 * vn ∧ (rho vn a < i ∨ (rho vn a = i ∧ (b < k ∨ (ct ≤ b ∧ b < ct + k)))) then tgR T vn ct a b else 0
theorem ivR_put {T : Nat → Nat → Int32} {vn ct : Nat} {M : Nat → Nat → Int64} {i k : Nat} (h : ivR T vn ct M i k) (hi : i < vn) (hk : k < ct) : ivR T vn ct (mup (mup (mup (mup M i k (T k (3 + i)).toInt64) (vn + i) k (-(T k i)).toInt64) (vn + i) (ct + k) (T k i).toInt64) (2 * vn + i) (ct + k) (T k i + T k (3 + i)).toInt64) i (k + 1) := by
  intro a b ha hb
  rw [mup_at, mup_at, mup_at, mup_at, h a b ha hb]
  have hr : ∀ a, a < 3 * vn → (rho vn a = i ↔ (a = i ∨ a = vn + i ∨ a = 2 * vn + i)) := fun a ha => by
    unfold rho; split
    · omega
    · split <;> omega
  by_cases e4 : a = 2 * vn + i ∧ b = ct + k
  · rw [if_pos e4, if_pos ⟨by omega, Or.inr ⟨(hr a (by omega)).mpr (by omega), by omega⟩⟩]
    unfold tgR
    rw [if_neg (by omega), if_pos (by omega), if_neg (by omega), if_neg (by omega), if_pos (by omega), e4.1, e4.2, show ct + k - ct = k by omega, show 2 * vn + i - 2 * vn = i by omega]
  · rw [if_neg e4]
    by_cases e3 : a = vn + i ∧ b = ct + k
    · rw [if_pos e3, if_pos ⟨by omega, Or.inr ⟨(hr a (by omega)).mpr (by omega), by omega⟩⟩]
      unfold tgR
      rw [if_neg (by omega), if_pos (by omega), if_neg (by omega), if_pos (by omega), e3.1, e3.2, show ct + k - ct = k by omega, show vn + i - vn = i by omega]
    · rw [if_neg e3]
      by_cases e2 : a = vn + i ∧ b = k
      · rw [if_pos e2, if_pos ⟨by omega, Or.inr ⟨(hr a (by omega)).mpr (by omega), by omega⟩⟩]
        unfold tgR
        rw [if_pos (by omega), if_neg (by omega), if_pos (by omega), e2.1, e2.2, show vn + i - vn = i by omega]
      · rw [if_neg e2]
        by_cases e1 : a = i ∧ b = k
        · rw [if_pos e1, if_pos ⟨by omega, Or.inr ⟨(hr a (by omega)).mpr (by omega), by omega⟩⟩]
          unfold tgR
          rw [if_pos (by omega), if_pos (by omega), e1.1, e1.2]
        · rw [if_neg e1]
          by_cases ha3 : a < 3 * vn
          · have hra := hr a ha3
            by_cases q : rho vn a < i
            · rw [if_pos ⟨ha3, Or.inl q⟩, if_pos ⟨ha3, Or.inl q⟩]
            · by_cases q2 : rho vn a = i
              · have q3 := hra.mp q2
                by_cases q4 : b < k ∨ (ct ≤ b ∧ b < ct + k)
                · rw [if_pos ⟨ha3, Or.inr ⟨q2, q4⟩⟩, if_pos ⟨ha3, Or.inr ⟨q2, by omega⟩⟩]
                · by_cases q5 : b < k + 1 ∨ (ct ≤ b ∧ b < ct + (k + 1))
                  · rw [if_neg (fun q6 => by have := q6.2; omega), if_pos ⟨ha3, Or.inr ⟨q2, q5⟩⟩]
                    -- the two places that nothing is put to
                    unfold tgR
                    rcases q3 with q3 | q3 | q3
                    · have : b = ct + k := by omega
                      rw [if_neg (by omega), if_pos (by omega), if_pos (by omega)]
                    · omega
                    · have : b = k := by omega
                      rw [if_pos (by omega), if_neg (by omega), if_neg (by omega)]
                  · rw [if_neg (fun q6 => by have := q6.2; omega), if_neg (fun q6 => by have := q6.2; omega)]
              · rw [if_neg (fun q6 => by have := q6.2; omega), if_neg (fun q6 => by have := q6.2; omega)]
          · rw [if_neg (fun q => ha3 q.1), if_neg (fun q => ha3 q.1)]
theorem ivR_n {T : Nat → Nat → Int32} {vn ct : Nat} {M : Nat → Nat → Int64} {i : Nat} (h : ivR T vn ct M i ct) : ivR T vn ct M (i + 1) 0 := by
  intro a b ha hb
  rw [h a b ha hb]
  by_cases q : a < 3 * vn ∧ (rho vn a < i ∨ (rho vn a = i ∧ (b < ct ∨ (ct ≤ b ∧ b < ct + ct))))
  · rw [if_pos q, if_pos ⟨q.1, by have := q.2; omega⟩]
  · by_cases q2 : a < 3 * vn ∧ (rho vn a < i + 1 ∨ (rho vn a = i + 1 ∧ (b < 0 ∨ (ct ≤ b ∧ b < ct + 0))))
    · rw [if_neg q, if_pos q2]
      have : b = 2 * ct := by
        apply Classical.byContradiction
        intro q3
        exact q ⟨q2.1, by have := q2.2; omega⟩
      unfold tgR
      rw [if_neg (by omega), if_neg (by omega)]
    · rw [if_neg q, if_neg q2]
def ivS (T : Nat → Nat → Int32) (vn ct : Nat) (M : Nat → Nat → Int64) (k : Nat) : Prop := ∀ a b, a ≤ 3 * vn → b ≤ 2 * ct → M a b = if a < 3 * vn ∨ (ct ≤ b ∧ b < ct + k) then tgR T vn ct a b else 0
theorem ivS_0 {T : Nat → Nat → Int32} {vn ct : Nat} {M : Nat → Nat → Int64} (h : ivR T vn ct M vn 0) : ivS T vn ct M 0 := by
  intro a b ha hb
  rw [h a b ha hb]
  by_cases q : a < 3 * vn
  · have : rho vn a < vn := by unfold rho; split; omega; split <;> omega
    rw [if_pos ⟨q, Or.inl this⟩, if_pos (Or.inl q)]
  · rw [if_neg (fun q2 => q q2.1), if_neg (by omega)]
theorem ivS_s {T : Nat → Nat → Int32} {vn ct : Nat} {M : Nat → Nat → Int64} {k : Nat} (hv : 1 ≤ vn) (h : ivS T vn ct M k) (hk : k < ct) : ivS T vn ct (mup M (3 * vn) (ct + k) (T k 6).toInt64) (k + 1) := by
  intro a b ha hb
  rw [mup_at, h a b ha hb]
  by_cases e : a = 3 * vn ∧ b = ct + k
  · rw [if_pos e, if_pos (by omega)]
    unfold tgR
    rw [if_neg (by omega), if_pos (by omega), if_neg (by omega), if_neg (by omega), if_neg (by omega), e.2, show ct + k - ct = k by omega]
  · rw [if_neg e]
    by_cases q : a < 3 * vn ∨ (ct ≤ b ∧ b < ct + k)
    · rw [if_pos q, if_pos (by omega)]
    · rw [if_neg q, if_neg (by omega)]
theorem ivS_e {T : Nat → Nat → Int32} {vn ct : Nat} {M : Nat → Nat → Int64} (hv : 1 ≤ vn) (h : ivS T vn ct M ct) : ∀ a b, a ≤ 3 * vn → b ≤ 2 * ct → M a b = tgR T vn ct a b := by
  intro a b ha hb
  rw [h a b ha hb]
  by_cases q : a < 3 * vn ∨ (ct ≤ b ∧ b < ct + ct)
  · rw [if_pos q]
  · rw [if_neg q]
    unfold tgR
    by_cases q2 : b < ct
    · rw [if_pos q2, if_neg (by omega), if_neg (by omega)]
    · rw [if_neg q2, if_neg (by omega)]
theorem ivR_0 {T : Nat → Nat → Int32} {vn ct : Nat} {M : Nat → Nat → Int64} (hv : vn ≤ 3) (hc : ct ≤ 8) : ivR T vn ct (clF M (3 * vn + 1)) 0 0 := by
  intro a b ha hb
  rw [if_neg (fun q => by have := q.2; omega)]
  unfold clF
  rw [if_pos (by omega)]
set_option maxHeartbeats 1000000 in
set_option maxRecDepth 100000 in
/-- weighGoal() -/
theorem c_X1_weighGoal (l : Launch) (dC : Nat → ClassId) (dI : Nat → Nat → Nat) (sz : Nat) (p0 qt qg h0 : Nat) (rt : Nat → Nat) (cB cI cA cJ : ClassId) (qc qh : Nat) (r : Nat → Nat) (vn ct : Nat) (ft fb : Int64) (gl : Nat → Int32) (T : Nat → Nat → Int32) (me nw : Nat) (u : Int64) (tw : Int32) (iv : Int64) (hd : Nat → Int32) (M : Nat → Nat → Int64) (hv1 : 1 ≤ vn) (hv3 : vn ≤ 3) (hc : ct ≤ 8) : Met l yX1_weighGoal wsX1_weighGoal ({ frames := 3, cells := 0, slots := 0, locals := 71 }) (va_Pc [.ref p0] (fun U => U.heap.size = sz ∧ va_P (dC, dI) vwCl (rfX p0 qt qg h0 rt cB cI vn ct ft fb gl T ++ (wgW h0 qc qh r cA cI cJ me nw u tw iv hd M)) U.heap ∧ va_K (dC, dI) vwCl ((cB, .array .int) :: (cI, .int) :: wgT cA cI cJ) U ∧ va_D (fun _ => True) (rfX p0 qt qg h0 rt cB cI vn ct ft fb gl T ++ (wgW h0 qc qh r cA cI cJ me nw u tw iv hd M)))) (va_Qv (fun v : Nat → Nat → Int64 => ∀ a b, a ≤ 2 * vn → b ≤ ct → v a b = tgG T gl vn ct a b) (fun v t => va_P (dC, dI) vwCl (rfX p0 qt qg h0 rt cB cI vn ct ft fb gl T ++ (wgW h0 qc qh r cA cI cJ (2 * vn) ct 1 (bcF ((1 &&& -1) - 1)) (nwF (sr 1 (bcF ((1 &&& -1) - 1))) 5) (filI hd 9 (-1)) v)) t.heap ∧ va_K (dC, dI) vwCl ((cB, .array .int) :: (cI, .int) :: wgT cA cI cJ) t ∧ va_D (va_A (rfX p0 qt qg h0 rt cB cI vn ct ft fb gl T ++ (wgW h0 qc qh r cA cI cJ me nw u tw iv hd M)) sz) (rfX p0 qt qg h0 rt cB cI vn ct ft fb gl T ++ (wgW h0 qc qh r cA cI cJ (2 * vn) ct 1 (bcF ((1 &&& -1) - 1)) (nwF (sr 1 (bcF ((1 &&& -1) - 1))) 5) (filI hd 9 (-1)) v))) (va_A (rfX p0 qt qg h0 rt cB cI vn ct ft fb gl T ++ (wgW h0 qc qh r cA cI cJ me nw u tw iv hd M)) sz)) 0 0 (va_A (rfX p0 qt qg h0 rt cB cI vn ct ft fb gl T ++ (wgW h0 qc qh r cA cI cJ me nw u tw iv hd M)) sz) := by
  refine Met.ofW (cc := cX1_weighGoal) (maxL := 4) (ret := none) (by decide) rfl ?_
  intro p e s m args below meth c s₁ B hml hv
  obtain ⟨rfl, hsz, hP, hK, hD0⟩ := hv
  have hx := B.exec
  have hb := B.bytes
  have hr := B.returns
  have hts := atoms_spec (ws := wsX1_weighGoal) B.pre
  have hown : s.vm.findClass RX1 = some m.cls := findClass_of_methodNamed B.named
  subst hsz
  have hD := hD0.self (sz := s.heap.size)
  clear hD0
  generalize hAe : va_A (rfX p0 qt qg h0 rt cB cI vn ct ft fb gl T ++ (wgW h0 qc qh r cA cI cJ me nw u tw iv hd M)) s.heap.size = A at hD ⊢
  have hA : ∀ q : Nat, s.heap.size ≤ q → A q := fun q h => by rw [← hAe]; exact Or.inr h
  have hl := lv_entry ([.ref p0]) (n := 4) (Nat.le_of_ble_eq_true rfl)
  rw [lg_entry_eq]
  generalize (lg_sl ([.ref p0]) ++ List.replicate (4 - (lg_sl ([.ref p0])).length) Slot.unset).toArray = ls at hl ⊢
  have hl : lv_has ls 4 [(0, .ref p0)] := hl
  have hP : va_P (dC, dI) vwCl (rfX p0 qt qg h0 rt cB cI vn ct ft fb gl T ++ (wgW h0 qc qh r cA cI cJ me nw u tw iv hd M)) s.heap := hP
  obtain ⟨H, hH⟩ : ∃ H, H = s.heap := ⟨_, rfl⟩
  have hS : va_S A s.heap H [] := by rw [hH]; exact va_S.rf
  rw [← hH] at hP ⊢
  refine lv_aload_n hx hb dX1_weighGoal_0 rfl (lv_at hl 0 rfl) ?_
  refine va_get (D := (dC, dI)) (ci := 1) (v := .ref h0) (C := RX1) (T := TX1) (N := 7) hx hb hts (fun _ h => List.mem_cons_of_mem _ (List.mem_append_left _ (List.mem_append_right _ h))) hown hK hP 0 rfl rfl 2 (by decide) (hts (.fieldLink RX1 21 "RankFinder" "weighing" "LRankFinder$Weighing;") (List.mem_of_getElem? (i := 1) rfl)) (fun _ h9 => h9) rfl dX1_weighGoal_1 ?_
  refine lv_iconst (v := nI 2) hx hb dX1_weighGoal_4 (by decide) ?_
  refine lv_aload_n hx hb dX1_weighGoal_5 rfl (lv_at hl 0 rfl) ?_
  refine va_get (D := (dC, dI)) (ci := 1) (v := .int (nI vn)) (C := RX1) (T := TX1) (N := 7) hx hb hts (fun _ h => List.mem_cons_of_mem _ (List.mem_append_left _ (List.mem_append_right _ h))) hown hK hP 0 rfl rfl 3 (by decide) (hts (.fieldLink RX1 25 "RankFinder" "variables" "I") (List.mem_of_getElem? (i := 2) rfl)) (fun _ h9 => h9) rfl dX1_weighGoal_6 ?_
  refine lv_imul hx hb dX1_weighGoal_9 ?_
  refine lv_topi (fun z_1 ez_1 => ?_)
  obtain rfl : z_1 = nI (2 * vn) := ez_1.trans (pk_mul 2 vn)
  refine lv_aload_n hx hb dX1_weighGoal_10 rfl (lv_at hl 0 rfl) ?_
  refine va_get (D := (dC, dI)) (ci := 1) (v := .int (nI ct)) (C := RX1) (T := TX1) (N := 7) hx hb hts (fun _ h => List.mem_cons_of_mem _ (List.mem_append_left _ (List.mem_append_right _ h))) hown hK hP 0 rfl rfl 4 (by decide) (hts (.fieldLink RX1 29 "RankFinder" "count" "I") (List.mem_of_getElem? (i := 3) rfl)) (fun _ h9 => h9) rfl dX1_weighGoal_11 ?_
  have hPc : va_P (dC, dI) vwCl (wgW h0 qc qh r cA cI cJ me nw u tw iv hd M) H := va_Pr hP
  have hKc := hK.sub (tys' := wgT cA cI cJ) [2, 3, 4] rfl
  have hFc : ∀ q, va_A (wgW h0 qc qh r cA cI cJ me nw u tw iv hd M) H.size q → A q := va_Ar hD hS hA
  refine va_callv (va_runV (As := [.int (nI (2 * vn)), .int (nI ct)]) (rest := []) ⟨hx, hb, hml, hown, hts⟩ (c_X0_clear l dC dI h0 qc qh r cA cI cJ H.size me nw u tw iv hd M (2 * vn) ct (by omega) (by omega)) (cwV 2 hts gX1_weighGoal_X0_clear rfl rfl rfl (by decide +kernel) ⟨Nat.le_of_ble_eq_true rfl, Nat.le_of_ble_eq_true rfl⟩) ⟨fun a U g mk q => by obtain ⟨q0, q1, qP, qK, qD⟩ := q; exact ⟨q0, q1, qP, va_K.moved (u := U) (U := U.calling g mk a) (Vm.Alike.refl U.vm) qK, qD⟩, va_recv hKc hPc (ci := 0) (q0 := 0) rfl rfl, fun U hU hW => ⟨rfl, by rw [hU], by rw [hU]; exact hPc, va_K.moved hW.alike hKc, va_Dr hD⟩⟩ rfl rfl hl.1 rfl (lv_room (Nat.le_of_ble_eq_true rfl)) dX1_weighGoal_14 ⟨(Nat.zero_le _), (Nat.zero_le _)⟩) hS (fun q _ h => hFc q h) hFc (fun v9 t H1 locs ht hvm hw hB hz1 hk1 hS => ?_)
  obtain ⟨hP1, hK1, hD1⟩ := hB
  rw [ht] at hP1
  obtain ⟨hP, hD⟩ := jn_app hP hD hk1 hFc hP1 hD1
  clear hPc hKc hP1 hD1 hK1 hFc hk1 hz1 ht hvm
  generalize H1 = H at hP hS ⊢
  have hP : va_P (dC, dI) vwCl (rfX p0 qt qg h0 rt cB cI vn ct ft fb gl T ++ (wgW h0 qc qh r cA cI cJ (2 * vn) ct 1 (bcF ((1 &&& -1) - 1)) (nwF (sr 1 (bcF ((1 &&& -1) - 1))) 5) (filI hd 9 (-1)) (clF M (2 * vn + 1)))) H := hP
  have hD : va_D A (rfX p0 qt qg h0 rt cB cI vn ct ft fb gl T ++ (wgW h0 qc qh r cA cI cJ (2 * vn) ct 1 (bcF ((1 &&& -1) - 1)) (nwF (sr 1 (bcF ((1 &&& -1) - 1))) 5) (filI hd 9 (-1)) (clF M (2 * vn + 1)))) := hD
  have hI := ivG_0 (T := T) (gl := gl) (vn := vn) (ct := ct) (M := M) hv3 hc
  obtain ⟨M9, hM9⟩ : ∃ M9, M9 = clF M (2 * vn + 1) := ⟨_, rfl⟩
  rw [← hM9] at hP hD hI
  refine lv_iconst (v := nI 0) hx hb dX1_weighGoal_17 (by decide) ?_
  refine lv_istore_n (lv' := [(1, .int (nI 0)), (0, .ref p0)]) hx hb dX1_weighGoal_18 rfl hl (by decide) rfl (fun ls hl => ?_)
  have outer : ∀ (d i : Nat) (M9 : Nat → Nat → Int64) (H : Heap) (locs : List Loc) (ls : Array Slot), i + d = vn → ivG T gl vn ct M9 i 0 → va_P (dC, dI) vwCl (rfX p0 qt qg h0 rt cB cI vn ct ft fb gl T ++ (wgW h0 qc qh r cA cI cJ (2 * vn) ct 1 (bcF ((1 &&& -1) - 1)) (nwF (sr 1 (bcF ((1 &&& -1) - 1))) 5) (filI hd 9 (-1)) M9)) H → va_K (dC, dI) vwCl ((cB, .array .int) :: (cI, .int) :: wgT cA cI cJ) s → va_D A (rfX p0 qt qg h0 rt cB cI vn ct ft fb gl T ++ (wgW h0 qc qh r cA cI cJ (2 * vn) ct 1 (bcF ((1 &&& -1) - 1)) (nwF (sr 1 (bcF ((1 &&& -1) - 1))) 5) (filI hd 9 (-1)) M9)) → va_S A s.heap H locs → lv_has ls 4 [(1, .int (nI i)), (0, .ref p0)] → W p l e (headSpec wsX1_weighGoal ({ frames := 3, cells := 0, slots := 0, locals := 71 })).room s m #[.ref p0] below meth c H locs 0 0 (MQ below (va_Qv (fun v : Nat → Nat → Int64 => ∀ a b, a ≤ 2 * vn → b ≤ ct → v a b = tgG T gl vn ct a b) (fun v t => va_P (dC, dI) vwCl (rfX p0 qt qg h0 rt cB cI vn ct ft fb gl T ++ (wgW h0 qc qh r cA cI cJ (2 * vn) ct 1 (bcF ((1 &&& -1) - 1)) (nwF (sr 1 (bcF ((1 &&& -1) - 1))) 5) (filI hd 9 (-1)) v)) t.heap ∧ va_K (dC, dI) vwCl ((cB, .array .int) :: (cI, .int) :: wgT cA cI cJ) t ∧ va_D A (rfX p0 qt qg h0 rt cB cI vn ct ft fb gl T ++ (wgW h0 qc qh r cA cI cJ (2 * vn) ct 1 (bcF ((1 &&& -1) - 1)) (nwF (sr 1 (bcF ((1 &&& -1) - 1))) 5) (filI hd 9 (-1)) v))) A) #[.ref p0] s 0 0 A) (F0 m 19 ls []) := by
    clear hP hK hD hS hl hI hM9 M9
    intro d
    induction d with
    | zero =>
      intro i M9 H locs ls hi hI hP hK hD hS hl
      refine lv_iload_n hx hb dX1_weighGoal_19 rfl (lv_at hl 0 rfl) ?_
      refine lv_aload_n hx hb dX1_weighGoal_20 rfl (lv_at hl 1 rfl) ?_
      refine va_get (D := (dC, dI)) (ci := 1) (v := .int (nI vn)) (C := RX1) (T := TX1) (N := 7) hx hb hts (fun _ h => List.mem_cons_of_mem _ (List.mem_append_left _ (List.mem_append_right _ h))) hown hK hP 0 rfl rfl 3 (by decide) (hts (.fieldLink RX1 25 "RankFinder" "variables" "I") (List.mem_of_getElem? (i := 2) rfl)) (fun _ h9 => h9) rfl dX1_weighGoal_21 ?_
      refine lv_icmp_ge (tgt := 124) hx hb dX1_weighGoal_24 (by decide) (fun c1 => ?_) (fun c1 => ?_)
      · obtain rfl : i = vn := by omega
        replace hI := ivC_0 hI
        refine lv_iconst (v := nI 0) hx hb dX1_weighGoal_124 (by decide) ?_
        refine lv_istore_n (lv' := [(1, .int (nI 0)), (0, .ref p0)]) hx hb dX1_weighGoal_125 rfl hl (by decide) rfl (fun ls hl => ?_)
        have cost : ∀ (d k : Nat) (M9 : Nat → Nat → Int64) (H : Heap) (locs : List Loc) (ls : Array Slot), k + d = ct → ivC T gl i ct M9 k → va_P (dC, dI) vwCl (rfX p0 qt qg h0 rt cB cI i ct ft fb gl T ++ (wgW h0 qc qh r cA cI cJ (2 * i) ct 1 (bcF ((1 &&& -1) - 1)) (nwF (sr 1 (bcF ((1 &&& -1) - 1))) 5) (filI hd 9 (-1)) M9)) H → va_K (dC, dI) vwCl ((cB, .array .int) :: (cI, .int) :: wgT cA cI cJ) s → va_D A (rfX p0 qt qg h0 rt cB cI i ct ft fb gl T ++ (wgW h0 qc qh r cA cI cJ (2 * i) ct 1 (bcF ((1 &&& -1) - 1)) (nwF (sr 1 (bcF ((1 &&& -1) - 1))) 5) (filI hd 9 (-1)) M9)) → va_S A s.heap H locs → lv_has ls 4 [(1, .int (nI k)), (0, .ref p0)] → W p l e (headSpec wsX1_weighGoal ({ frames := 3, cells := 0, slots := 0, locals := 71 })).room s m #[.ref p0] below meth c H locs 0 0 (MQ below (va_Qv (fun v : Nat → Nat → Int64 => ∀ a b, a ≤ 2 * i → b ≤ ct → v a b = tgG T gl i ct a b) (fun v t => va_P (dC, dI) vwCl (rfX p0 qt qg h0 rt cB cI i ct ft fb gl T ++ (wgW h0 qc qh r cA cI cJ (2 * i) ct 1 (bcF ((1 &&& -1) - 1)) (nwF (sr 1 (bcF ((1 &&& -1) - 1))) 5) (filI hd 9 (-1)) v)) t.heap ∧ va_K (dC, dI) vwCl ((cB, .array .int) :: (cI, .int) :: wgT cA cI cJ) t ∧ va_D A (rfX p0 qt qg h0 rt cB cI i ct ft fb gl T ++ (wgW h0 qc qh r cA cI cJ (2 * i) ct 1 (bcF ((1 &&& -1) - 1)) (nwF (sr 1 (bcF ((1 &&& -1) - 1))) 5) (filI hd 9 (-1)) v))) A) #[.ref p0] s 0 0 A) (F0 m 126 ls []) := by
          clear hP hK hD hS hl hI M9
          intro d2
          induction d2 with
          | zero =>
            intro k M9 H locs ls hk hI hP hK hD hS hl
            refine lv_iload_n hx hb dX1_weighGoal_126 rfl (lv_at hl 0 rfl) ?_
            refine lv_aload_n hx hb dX1_weighGoal_127 rfl (lv_at hl 1 rfl) ?_
            refine va_get (D := (dC, dI)) (ci := 1) (v := .int (nI ct)) (C := RX1) (T := TX1) (N := 7) hx hb hts (fun _ h => List.mem_cons_of_mem _ (List.mem_append_left _ (List.mem_append_right _ h))) hown hK hP 0 rfl rfl 4 (by decide) (hts (.fieldLink RX1 29 "RankFinder" "count" "I") (List.mem_of_getElem? (i := 3) rfl)) (fun _ h9 => h9) rfl dX1_weighGoal_128 ?_
            refine lv_icmp_ge (tgt := 157) hx hb dX1_weighGoal_131 (by decide) (fun c2 => ?_) (fun c2 => ?_)
            · obtain rfl : k = ct := by omega
              exact W.vret hx hb hr (fun t ht hW => ⟨⟨M9, rfl, ivC_e hI, by rw [ht]; exact hP, va_K.moved hW.alike hK, hD⟩, hS.F ht⟩) hS.2.2 dX1_weighGoal_157
            · exact absurd (nI_le (by omega) (by omega)) c2
          | succ d2 ih2 =>
            intro k M9 H locs ls hk hI hP hK hD hS hl
            refine lv_iload_n hx hb dX1_weighGoal_126 rfl (lv_at hl 0 rfl) ?_
            refine lv_aload_n hx hb dX1_weighGoal_127 rfl (lv_at hl 1 rfl) ?_
            refine va_get (D := (dC, dI)) (ci := 1) (v := .int (nI ct)) (C := RX1) (T := TX1) (N := 7) hx hb hts (fun _ h => List.mem_cons_of_mem _ (List.mem_append_left _ (List.mem_append_right _ h))) hown hK hP 0 rfl rfl 4 (by decide) (hts (.fieldLink RX1 29 "RankFinder" "count" "I") (List.mem_of_getElem? (i := 3) rfl)) (fun _ h9 => h9) rfl dX1_weighGoal_128 ?_
            refine lv_icmp_ge (tgt := 157) hx hb dX1_weighGoal_131 (by decide) (fun c2 => ?_) (fun c2 => ?_)
            · exact absurd c2 (nI_ge (by omega) (by omega))
            · refine lv_aload_n hx hb dX1_weighGoal_134 rfl (lv_at hl 1 rfl) ?_
              refine va_get (D := (dC, dI)) (ci := 1) (v := .ref h0) (C := RX1) (T := TX1) (N := 7) hx hb hts (fun _ h => List.mem_cons_of_mem _ (List.mem_append_left _ (List.mem_append_right _ h))) hown hK hP 0 rfl rfl 2 (by decide) (hts (.fieldLink RX1 21 "RankFinder" "weighing" "LRankFinder$Weighing;") (List.mem_of_getElem? (i := 1) rfl)) (fun _ h9 => h9) rfl dX1_weighGoal_135 ?_
              refine lv_iload_n hx hb dX1_weighGoal_138 rfl (lv_at hl 0 rfl) ?_
              refine lv_aload_n hx hb dX1_weighGoal_139 rfl (lv_at hl 1 rfl) ?_
              refine va_get (D := (dC, dI)) (ci := 1) (v := .ref qt) (C := RX1) (T := TX1) (N := 7) hx hb hts (fun _ h => List.mem_cons_of_mem _ (List.mem_append_left _ (List.mem_append_right _ h))) hown hK hP 0 rfl rfl 0 (by decide) (hts (.fieldLink RX1 11 "RankFinder" "told" "[[I") (List.mem_of_getElem? (i := 4) rfl)) (fun _ h9 => h9) rfl dX1_weighGoal_140 ?_
              refine lv_iload_n hx hb dX1_weighGoal_143 rfl (lv_at hl 0 rfl) ?_
              refine na_aald (y := rt k) hx hb hK hP 1 0 rfl rfl (show k < 8 by omega) (by decide) (if_pos (show k < 8 by omega)) dX1_weighGoal_144 ?_
              refine lv_bipush (v := nI 6) hx hb dX1_weighGoal_145 (by decide) ?_
              refine na_iald hx hb hK hP (3 + k) 1 (rf_row (show k < 8 by omega)) rfl (show 6 < 7 by omega) (by decide) dX1_weighGoal_147 ?_
              have hPc : va_P (dC, dI) vwCl (wgW h0 qc qh r cA cI cJ (2 * i) ct 1 (bcF ((1 &&& -1) - 1)) (nwF (sr 1 (bcF ((1 &&& -1) - 1))) 5) (filI hd 9 (-1)) M9) H := va_Pr hP
              have hKc := hK.sub (tys' := wgT cA cI cJ) [2, 3, 4] rfl
              have hFc : ∀ q, va_A (wgW h0 qc qh r cA cI cJ (2 * i) ct 1 (bcF ((1 &&& -1) - 1)) (nwF (sr 1 (bcF ((1 &&& -1) - 1))) 5) (filI hd 9 (-1)) M9) H.size q → A q := va_Ar hD hS hA
              refine va_callv (va_runV (As := [.int (nI k), .int (T k 6)]) (rest := []) ⟨hx, hb, hml, hown, hts⟩ (c_X0_putCost l dC dI h0 qc qh r cA cI cJ H.size (2 * i) ct 1 (bcF ((1 &&& -1) - 1)) (nwF (sr 1 (bcF ((1 &&& -1) - 1))) 5) (filI hd 9 (-1)) M9 k (T k 6) (by omega) (by omega)) (cwV 2 hts gX1_weighGoal_X0_putCost rfl rfl rfl (by decide +kernel) ⟨Nat.le_of_ble_eq_true rfl, Nat.le_of_ble_eq_true rfl⟩) ⟨fun a U g mk q => by obtain ⟨q0, q1, qP, qK, qD⟩ := q; exact ⟨q0, q1, qP, va_K.moved (u := U) (U := U.calling g mk a) (Vm.Alike.refl U.vm) qK, qD⟩, va_recv hKc hPc (ci := 0) (q0 := 0) rfl rfl, fun U hU hW => ⟨rfl, by rw [hU], by rw [hU]; exact hPc, va_K.moved hW.alike hKc, va_Dr hD⟩⟩ rfl rfl hl.1 rfl (lv_room (Nat.le_of_ble_eq_true rfl)) dX1_weighGoal_148 ⟨(Nat.zero_le _), (Nat.zero_le _)⟩) hS (fun q _ h => hFc q h) hFc (fun v9 t H1 locs ht hvm hw hB hz1 hk1 hS => ?_)
              obtain ⟨hP1, hK1, hD1⟩ := hB
              rw [ht] at hP1
              obtain ⟨hP, hD⟩ := jn_app hP hD hk1 hFc hP1 hD1
              clear hPc hKc hP1 hD1 hK1 hFc hk1 hz1 ht hvm
              generalize H1 = H at hP hS ⊢
              have hP : va_P (dC, dI) vwCl (rfX p0 qt qg h0 rt cB cI i ct ft fb gl T ++ (wgW h0 qc qh r cA cI cJ (2 * i) ct 1 (bcF ((1 &&& -1) - 1)) (nwF (sr 1 (bcF ((1 &&& -1) - 1))) 5) (filI hd 9 (-1)) (mup M9 (2 * i) k (T k 6).toInt64))) H := hP
              have hD : va_D A (rfX p0 qt qg h0 rt cB cI i ct ft fb gl T ++ (wgW h0 qc qh r cA cI cJ (2 * i) ct 1 (bcF ((1 &&& -1) - 1)) (nwF (sr 1 (bcF ((1 &&& -1) - 1))) 5) (filI hd 9 (-1)) (mup M9 (2 * i) k (T k 6).toInt64))) := hD
              refine lv_iinc (v := nI (k + 1)) (lv' := [(1, .int (nI (k + 1))), (0, .ref p0)]) hx hb dX1_weighGoal_151 hl (k := 0) rfl (nI_1 _) (by decide) rfl (fun ls hl => ?_)
              refine lv_goto (tgt := 126) hx hb dX1_weighGoal_154 (by decide) ?_
              exact ih2 (k + 1) _ H _ ls (by omega) (ivC_s hI (by omega)) hP hK hD hS (lv_sub hl [0, 1] rfl)
        exact cost ct 0 M9 H _ ls (by omega) hI hP hK hD hS (lv_sub hl [0, 1] rfl)
      · exact absurd (nI_le (by omega) (by omega)) c1
    | succ d ih =>
      intro i M9 H locs ls hi hI hP hK hD hS hl
      refine lv_iload_n hx hb dX1_weighGoal_19 rfl (lv_at hl 0 rfl) ?_
      refine lv_aload_n hx hb dX1_weighGoal_20 rfl (lv_at hl 1 rfl) ?_
      refine va_get (D := (dC, dI)) (ci := 1) (v := .int (nI vn)) (C := RX1) (T := TX1) (N := 7) hx hb hts (fun _ h => List.mem_cons_of_mem _ (List.mem_append_left _ (List.mem_append_right _ h))) hown hK hP 0 rfl rfl 3 (by decide) (hts (.fieldLink RX1 25 "RankFinder" "variables" "I") (List.mem_of_getElem? (i := 2) rfl)) (fun _ h9 => h9) rfl dX1_weighGoal_21 ?_
      refine lv_icmp_ge (tgt := 124) hx hb dX1_weighGoal_24 (by decide) (fun c1 => ?_) (fun c1 => ?_)
      · exact absurd c1 (nI_ge (by omega) (by omega))
      · refine lv_aload_n hx hb dX1_weighGoal_27 rfl (lv_at hl 1 rfl) ?_
        refine va_get (D := (dC, dI)) (ci := 1) (v := .int (nI vn)) (C := RX1) (T := TX1) (N := 7) hx hb hts (fun _ h => List.mem_cons_of_mem _ (List.mem_append_left _ (List.mem_append_right _ h))) hown hK hP 0 rfl rfl 3 (by decide) (hts (.fieldLink RX1 25 "RankFinder" "variables" "I") (List.mem_of_getElem? (i := 2) rfl)) (fun _ h9 => h9) rfl dX1_weighGoal_28 ?_
        refine lv_iload_n hx hb dX1_weighGoal_31 rfl (lv_at hl 0 rfl) ?_
        refine lv_iadd hx hb dX1_weighGoal_32 ?_
        refine lv_topi (fun z_1 ez_1 => ?_)
        obtain rfl : z_1 = nI (vn + i) := ez_1.trans (nI_add vn i)
        refine lv_istore_n (lv' := [(2, .int (nI (vn + i))), (1, .int (nI i)), (0, .ref p0)]) hx hb dX1_weighGoal_33 rfl hl (by decide) rfl (fun ls hl => ?_)
        refine lv_iconst (v := nI 0) hx hb dX1_weighGoal_34 (by decide) ?_
        refine lv_istore_n (lv' := [(3, .int (nI 0)), (2, .int (nI (vn + i))), (1, .int (nI i)), (0, .ref p0)]) hx hb dX1_weighGoal_35 rfl hl (by decide) rfl (fun ls hl => ?_)
        have inner : ∀ (d k : Nat) (M9 : Nat → Nat → Int64) (H : Heap) (locs : List Loc) (ls : Array Slot), k + d = ct → ivG T gl vn ct M9 i k → va_P (dC, dI) vwCl (rfX p0 qt qg h0 rt cB cI vn ct ft fb gl T ++ (wgW h0 qc qh r cA cI cJ (2 * vn) ct 1 (bcF ((1 &&& -1) - 1)) (nwF (sr 1 (bcF ((1 &&& -1) - 1))) 5) (filI hd 9 (-1)) M9)) H → va_K (dC, dI) vwCl ((cB, .array .int) :: (cI, .int) :: wgT cA cI cJ) s → va_D A (rfX p0 qt qg h0 rt cB cI vn ct ft fb gl T ++ (wgW h0 qc qh r cA cI cJ (2 * vn) ct 1 (bcF ((1 &&& -1) - 1)) (nwF (sr 1 (bcF ((1 &&& -1) - 1))) 5) (filI hd 9 (-1)) M9)) → va_S A s.heap H locs → lv_has ls 4 [(3, .int (nI k)), (2, .int (nI (vn + i))), (1, .int (nI i)), (0, .ref p0)] → W p l e (headSpec wsX1_weighGoal ({ frames := 3, cells := 0, slots := 0, locals := 71 })).room s m #[.ref p0] below meth c H locs 0 0 (MQ below (va_Qv (fun v : Nat → Nat → Int64 => ∀ a b, a ≤ 2 * vn → b ≤ ct → v a b = tgG T gl vn ct a b) (fun v t => va_P (dC, dI) vwCl (rfX p0 qt qg h0 rt cB cI vn ct ft fb gl T ++ (wgW h0 qc qh r cA cI cJ (2 * vn) ct 1 (bcF ((1 &&& -1) - 1)) (nwF (sr 1 (bcF ((1 &&& -1) - 1))) 5) (filI hd 9 (-1)) v)) t.heap ∧ va_K (dC, dI) vwCl ((cB, .array .int) :: (cI, .int) :: wgT cA cI cJ) t ∧ va_D A (rfX p0 qt qg h0 rt cB cI vn ct ft fb gl T ++ (wgW h0 qc qh r cA cI cJ (2 * vn) ct 1 (bcF ((1 &&& -1) - 1)) (nwF (sr 1 (bcF ((1 &&& -1) - 1))) 5) (filI hd 9 (-1)) v))) A) #[.ref p0] s 0 0 A) (F0 m 36 ls []) := by
          clear hP hK hD hS hl hI
          intro d2
          induction d2 with
          | zero =>
            intro k M9 H locs ls hk hI hP hK hD hS hl
            refine lv_iload_n hx hb dX1_weighGoal_36 rfl (lv_at hl 0 rfl) ?_
            refine lv_aload_n hx hb dX1_weighGoal_37 rfl (lv_at hl 3 rfl) ?_
            refine va_get (D := (dC, dI)) (ci := 1) (v := .int (nI ct)) (C := RX1) (T := TX1) (N := 7) hx hb hts (fun _ h => List.mem_cons_of_mem _ (List.mem_append_left _ (List.mem_append_right _ h))) hown hK hP 0 rfl rfl 4 (by decide) (hts (.fieldLink RX1 29 "RankFinder" "count" "I") (List.mem_of_getElem? (i := 3) rfl)) (fun _ h9 => h9) rfl dX1_weighGoal_38 ?_
            refine lv_icmp_ge (tgt := 86) hx hb dX1_weighGoal_41 (by decide) (fun c2 => ?_) (fun c2 => ?_)
            · obtain rfl : k = ct := by omega
              refine lv_aload_n hx hb dX1_weighGoal_86 rfl (lv_at hl 3 rfl) ?_
              refine va_get (D := (dC, dI)) (ci := 1) (v := .ref h0) (C := RX1) (T := TX1) (N := 7) hx hb hts (fun _ h => List.mem_cons_of_mem _ (List.mem_append_left _ (List.mem_append_right _ h))) hown hK hP 0 rfl rfl 2 (by decide) (hts (.fieldLink RX1 21 "RankFinder" "weighing" "LRankFinder$Weighing;") (List.mem_of_getElem? (i := 1) rfl)) (fun _ h9 => h9) rfl dX1_weighGoal_87 ?_
              refine lv_iload_n hx hb dX1_weighGoal_90 rfl (lv_at hl 2 rfl) ?_
              refine lv_aload_n hx hb dX1_weighGoal_91 rfl (lv_at hl 3 rfl) ?_
              refine va_get (D := (dC, dI)) (ci := 1) (v := .ref qg) (C := RX1) (T := TX1) (N := 7) hx hb hts (fun _ h => List.mem_cons_of_mem _ (List.mem_append_left _ (List.mem_append_right _ h))) hown hK hP 0 rfl rfl 1 (by decide) (hts (.fieldLink RX1 14 "RankFinder" "goal" "[I") (List.mem_of_getElem? (i := 5) rfl)) (fun _ h9 => h9) rfl dX1_weighGoal_92 ?_
              refine lv_iload_n hx hb dX1_weighGoal_95 rfl (lv_at hl 2 rfl) ?_
              refine na_iald hx hb hK hP 2 1 rfl rfl (show i < 6 by omega) (by decide) dX1_weighGoal_96 ?_
              refine lv_ineg hx hb dX1_weighGoal_97 ?_
              have hPc : va_P (dC, dI) vwCl (wgW h0 qc qh r cA cI cJ (2 * vn) k 1 (bcF ((1 &&& -1) - 1)) (nwF (sr 1 (bcF ((1 &&& -1) - 1))) 5) (filI hd 9 (-1)) M9) H := va_Pr hP
              have hKc := hK.sub (tys' := wgT cA cI cJ) [2, 3, 4] rfl
              have hFc : ∀ q, va_A (wgW h0 qc qh r cA cI cJ (2 * vn) k 1 (bcF ((1 &&& -1) - 1)) (nwF (sr 1 (bcF ((1 &&& -1) - 1))) 5) (filI hd 9 (-1)) M9) H.size q → A q := va_Ar hD hS hA
              refine va_callv (va_runV (As := [.int (nI i), .int (-(gl i))]) (rest := []) ⟨hx, hb, hml, hown, hts⟩ (c_X0_putRightSide l dC dI h0 qc qh r cA cI cJ H.size (2 * vn) k 1 (bcF ((1 &&& -1) - 1)) (nwF (sr 1 (bcF ((1 &&& -1) - 1))) 5) (filI hd 9 (-1)) M9 i (-(gl i)) (by omega) (by omega)) (cwV 2 hts gX1_weighGoal_X0_putRightSide rfl rfl rfl (by decide +kernel) ⟨Nat.le_of_ble_eq_true rfl, Nat.le_of_ble_eq_true rfl⟩) ⟨fun a U g mk q => by obtain ⟨q0, q1, qP, qK, qD⟩ := q; exact ⟨q0, q1, qP, va_K.moved (u := U) (U := U.calling g mk a) (Vm.Alike.refl U.vm) qK, qD⟩, va_recv hKc hPc (ci := 0) (q0 := 0) rfl rfl, fun U hU hW => ⟨rfl, by rw [hU], by rw [hU]; exact hPc, va_K.moved hW.alike hKc, va_Dr hD⟩⟩ rfl rfl hl.1 rfl (lv_room (Nat.le_of_ble_eq_true rfl)) dX1_weighGoal_98 ⟨(Nat.zero_le _), (Nat.zero_le _)⟩) hS (fun q _ h => hFc q h) hFc (fun v9 t H1 locs ht hvm hw hB hz1 hk1 hS => ?_)
              obtain ⟨hP1, hK1, hD1⟩ := hB
              rw [ht] at hP1
              obtain ⟨hP, hD⟩ := jn_app hP hD hk1 hFc hP1 hD1
              clear hPc hKc hP1 hD1 hK1 hFc hk1 hz1 ht hvm
              generalize H1 = H at hP hS ⊢
              have hP : va_P (dC, dI) vwCl (rfX p0 qt qg h0 rt cB cI vn k ft fb gl T ++ (wgW h0 qc qh r cA cI cJ (2 * vn) k 1 (bcF ((1 &&& -1) - 1)) (nwF (sr 1 (bcF ((1 &&& -1) - 1))) 5) (filI hd 9 (-1)) (mup M9 i k (-(gl i)).toInt64))) H := hP
              have hD : va_D A (rfX p0 qt qg h0 rt cB cI vn k ft fb gl T ++ (wgW h0 qc qh r cA cI cJ (2 * vn) k 1 (bcF ((1 &&& -1) - 1)) (nwF (sr 1 (bcF ((1 &&& -1) - 1))) 5) (filI hd 9 (-1)) (mup M9 i k (-(gl i)).toInt64))) := hD
              refine lv_aload_n hx hb dX1_weighGoal_101 rfl (lv_at hl 3 rfl) ?_
              refine va_get (D := (dC, dI)) (ci := 1) (v := .ref h0) (C := RX1) (T := TX1) (N := 7) hx hb hts (fun _ h => List.mem_cons_of_mem _ (List.mem_append_left _ (List.mem_append_right _ h))) hown hK hP 0 rfl rfl 2 (by decide) (hts (.fieldLink RX1 21 "RankFinder" "weighing" "LRankFinder$Weighing;") (List.mem_of_getElem? (i := 1) rfl)) (fun _ h9 => h9) rfl dX1_weighGoal_102 ?_
              refine lv_iload_n hx hb dX1_weighGoal_105 rfl (lv_at hl 1 rfl) ?_
              refine lv_aload_n hx hb dX1_weighGoal_106 rfl (lv_at hl 3 rfl) ?_
              refine va_get (D := (dC, dI)) (ci := 1) (v := .ref qg) (C := RX1) (T := TX1) (N := 7) hx hb hts (fun _ h => List.mem_cons_of_mem _ (List.mem_append_left _ (List.mem_append_right _ h))) hown hK hP 0 rfl rfl 1 (by decide) (hts (.fieldLink RX1 14 "RankFinder" "goal" "[I") (List.mem_of_getElem? (i := 5) rfl)) (fun _ h9 => h9) rfl dX1_weighGoal_107 ?_
              refine lv_iconst (v := nI 3) hx hb dX1_weighGoal_110 (by decide) ?_
              refine lv_iload_n hx hb dX1_weighGoal_111 rfl (lv_at hl 2 rfl) ?_
              refine lv_iadd hx hb dX1_weighGoal_112 ?_
              refine lv_topi (fun z_1 ez_1 => ?_)
              obtain rfl : z_1 = nI (3 + i) := ez_1.trans (nI_add 3 i)
              refine na_iald hx hb hK hP 2 1 rfl rfl (show 3 + i < 6 by omega) (by decide) dX1_weighGoal_113 ?_
              refine lv_ineg hx hb dX1_weighGoal_114 ?_
              have hPc : va_P (dC, dI) vwCl (wgW h0 qc qh r cA cI cJ (2 * vn) k 1 (bcF ((1 &&& -1) - 1)) (nwF (sr 1 (bcF ((1 &&& -1) - 1))) 5) (filI hd 9 (-1)) (mup M9 i k (-(gl i)).toInt64)) H := va_Pr hP
              have hKc := hK.sub (tys' := wgT cA cI cJ) [2, 3, 4] rfl
              have hFc : ∀ q, va_A (wgW h0 qc qh r cA cI cJ (2 * vn) k 1 (bcF ((1 &&& -1) - 1)) (nwF (sr 1 (bcF ((1 &&& -1) - 1))) 5) (filI hd 9 (-1)) (mup M9 i k (-(gl i)).toInt64)) H.size q → A q := va_Ar hD hS hA
              refine va_callv (va_runV (As := [.int (nI (vn + i)), .int (-(gl (3 + i)))]) (rest := []) ⟨hx, hb, hml, hown, hts⟩ (c_X0_putRightSide l dC dI h0 qc qh r cA cI cJ H.size (2 * vn) k 1 (bcF ((1 &&& -1) - 1)) (nwF (sr 1 (bcF ((1 &&& -1) - 1))) 5) (filI hd 9 (-1)) (mup M9 i k (-(gl i)).toInt64) (vn + i) (-(gl (3 + i))) (by omega) (by omega)) (cwV 2 hts gX1_weighGoal_X0_putRightSide rfl rfl rfl (by decide +kernel) ⟨Nat.le_of_ble_eq_true rfl, Nat.le_of_ble_eq_true rfl⟩) ⟨fun a U g mk q => by obtain ⟨q0, q1, qP, qK, qD⟩ := q; exact ⟨q0, q1, qP, va_K.moved (u := U) (U := U.calling g mk a) (Vm.Alike.refl U.vm) qK, qD⟩, va_recv hKc hPc (ci := 0) (q0 := 0) rfl rfl, fun U hU hW => ⟨rfl, by rw [hU], by rw [hU]; exact hPc, va_K.moved hW.alike hKc, va_Dr hD⟩⟩ rfl rfl hl.1 rfl (lv_room (Nat.le_of_ble_eq_true rfl)) dX1_weighGoal_115 ⟨(Nat.zero_le _), (Nat.zero_le _)⟩) hS (fun q _ h => hFc q h) hFc (fun v9 t H1 locs ht hvm hw hB hz1 hk1 hS => ?_)
              obtain ⟨hP1, hK1, hD1⟩ := hB
              rw [ht] at hP1
              obtain ⟨hP, hD⟩ := jn_app hP hD hk1 hFc hP1 hD1
              clear hPc hKc hP1 hD1 hK1 hFc hk1 hz1 ht hvm
              generalize H1 = H at hP hS ⊢
              have hP : va_P (dC, dI) vwCl (rfX p0 qt qg h0 rt cB cI vn k ft fb gl T ++ (wgW h0 qc qh r cA cI cJ (2 * vn) k 1 (bcF ((1 &&& -1) - 1)) (nwF (sr 1 (bcF ((1 &&& -1) - 1))) 5) (filI hd 9 (-1)) (mup (mup M9 i k (-(gl i)).toInt64) (vn + i) k (-(gl (3 + i))).toInt64))) H := hP
              have hD : va_D A (rfX p0 qt qg h0 rt cB cI vn k ft fb gl T ++ (wgW h0 qc qh r cA cI cJ (2 * vn) k 1 (bcF ((1 &&& -1) - 1)) (nwF (sr 1 (bcF ((1 &&& -1) - 1))) 5) (filI hd 9 (-1)) (mup (mup M9 i k (-(gl i)).toInt64) (vn + i) k (-(gl (3 + i))).toInt64))) := hD
              refine lv_iinc (v := nI (i + 1)) (lv' := [(1, .int (nI (i + 1))), (3, .int (nI k)), (2, .int (nI (vn + i))), (0, .ref p0)]) hx hb dX1_weighGoal_118 hl (k := 2) rfl (nI_1 _) (by decide) rfl (fun ls hl => ?_)
              refine lv_goto (tgt := 19) hx hb dX1_weighGoal_121 (by decide) ?_
              exact ih (i + 1) _ H _ ls (by omega) (ivG_rhs hI (by omega)) hP hK hD hS (lv_sub hl [0, 3] rfl)
            · exact absurd (nI_le (by omega) (by omega)) c2
          | succ d2 ih2 =>
            intro k M9 H locs ls hk hI hP hK hD hS hl
            refine lv_iload_n hx hb dX1_weighGoal_36 rfl (lv_at hl 0 rfl) ?_
            refine lv_aload_n hx hb dX1_weighGoal_37 rfl (lv_at hl 3 rfl) ?_
            refine va_get (D := (dC, dI)) (ci := 1) (v := .int (nI ct)) (C := RX1) (T := TX1) (N := 7) hx hb hts (fun _ h => List.mem_cons_of_mem _ (List.mem_append_left _ (List.mem_append_right _ h))) hown hK hP 0 rfl rfl 4 (by decide) (hts (.fieldLink RX1 29 "RankFinder" "count" "I") (List.mem_of_getElem? (i := 3) rfl)) (fun _ h9 => h9) rfl dX1_weighGoal_38 ?_
            refine lv_icmp_ge (tgt := 86) hx hb dX1_weighGoal_41 (by decide) (fun c2 => ?_) (fun c2 => ?_)
            · exact absurd c2 (nI_ge (by omega) (by omega))
            · refine lv_aload_n hx hb dX1_weighGoal_44 rfl (lv_at hl 3 rfl) ?_
              refine va_get (D := (dC, dI)) (ci := 1) (v := .ref h0) (C := RX1) (T := TX1) (N := 7) hx hb hts (fun _ h => List.mem_cons_of_mem _ (List.mem_append_left _ (List.mem_append_right _ h))) hown hK hP 0 rfl rfl 2 (by decide) (hts (.fieldLink RX1 21 "RankFinder" "weighing" "LRankFinder$Weighing;") (List.mem_of_getElem? (i := 1) rfl)) (fun _ h9 => h9) rfl dX1_weighGoal_45 ?_
              refine lv_iload_n hx hb dX1_weighGoal_48 rfl (lv_at hl 2 rfl) ?_
              refine lv_iload_n hx hb dX1_weighGoal_49 rfl (lv_at hl 0 rfl) ?_
              refine lv_aload_n hx hb dX1_weighGoal_50 rfl (lv_at hl 3 rfl) ?_
              refine va_get (D := (dC, dI)) (ci := 1) (v := .ref qt) (C := RX1) (T := TX1) (N := 7) hx hb hts (fun _ h => List.mem_cons_of_mem _ (List.mem_append_left _ (List.mem_append_right _ h))) hown hK hP 0 rfl rfl 0 (by decide) (hts (.fieldLink RX1 11 "RankFinder" "told" "[[I") (List.mem_of_getElem? (i := 4) rfl)) (fun _ h9 => h9) rfl dX1_weighGoal_51 ?_
              refine lv_iload_n hx hb dX1_weighGoal_54 rfl (lv_at hl 0 rfl) ?_
              refine na_aald (y := rt k) hx hb hK hP 1 0 rfl rfl (show k < 8 by omega) (by decide) (if_pos (show k < 8 by omega)) dX1_weighGoal_55 ?_
              refine lv_iload_n hx hb dX1_weighGoal_56 rfl (lv_at hl 2 rfl) ?_
              refine na_iald hx hb hK hP (3 + k) 1 (rf_row (show k < 8 by omega)) rfl (show i < 7 by omega) (by decide) dX1_weighGoal_57 ?_
              have hPc : va_P (dC, dI) vwCl (wgW h0 qc qh r cA cI cJ (2 * vn) ct 1 (bcF ((1 &&& -1) - 1)) (nwF (sr 1 (bcF ((1 &&& -1) - 1))) 5) (filI hd 9 (-1)) M9) H := va_Pr hP
              have hKc := hK.sub (tys' := wgT cA cI cJ) [2, 3, 4] rfl
              have hFc : ∀ q, va_A (wgW h0 qc qh r cA cI cJ (2 * vn) ct 1 (bcF ((1 &&& -1) - 1)) (nwF (sr 1 (bcF ((1 &&& -1) - 1))) 5) (filI hd 9 (-1)) M9) H.size q → A q := va_Ar hD hS hA
              refine va_callv (va_runV (As := [.int (nI i), .int (nI k), .int (T k i)]) (rest := []) ⟨hx, hb, hml, hown, hts⟩ (c_X0_put l dC dI h0 qc qh r cA cI cJ H.size (2 * vn) ct 1 (bcF ((1 &&& -1) - 1)) (nwF (sr 1 (bcF ((1 &&& -1) - 1))) 5) (filI hd 9 (-1)) M9 i k (T k i) (by omega) (by omega)) (cwV 3 hts gX1_weighGoal_X0_put rfl rfl rfl (by decide +kernel) ⟨Nat.le_of_ble_eq_true rfl, Nat.le_of_ble_eq_true rfl⟩) ⟨fun a U g mk q => by obtain ⟨q0, q1, qP, qK, qD⟩ := q; exact ⟨q0, q1, qP, va_K.moved (u := U) (U := U.calling g mk a) (Vm.Alike.refl U.vm) qK, qD⟩, va_recv hKc hPc (ci := 0) (q0 := 0) rfl rfl, fun U hU hW => ⟨rfl, by rw [hU], by rw [hU]; exact hPc, va_K.moved hW.alike hKc, va_Dr hD⟩⟩ rfl rfl hl.1 rfl (lv_room (Nat.le_of_ble_eq_true rfl)) dX1_weighGoal_58 ⟨(Nat.zero_le _), (Nat.zero_le _)⟩) hS (fun q _ h => hFc q h) hFc (fun v9 t H1 locs ht hvm hw hB hz1 hk1 hS => ?_)
              obtain ⟨hP1, hK1, hD1⟩ := hB
              rw [ht] at hP1
              obtain ⟨hP, hD⟩ := jn_app hP hD hk1 hFc hP1 hD1
              clear hPc hKc hP1 hD1 hK1 hFc hk1 hz1 ht hvm
              generalize H1 = H at hP hS ⊢
              have hP : va_P (dC, dI) vwCl (rfX p0 qt qg h0 rt cB cI vn ct ft fb gl T ++ (wgW h0 qc qh r cA cI cJ (2 * vn) ct 1 (bcF ((1 &&& -1) - 1)) (nwF (sr 1 (bcF ((1 &&& -1) - 1))) 5) (filI hd 9 (-1)) (mup M9 i k (T k i).toInt64))) H := hP
              have hD : va_D A (rfX p0 qt qg h0 rt cB cI vn ct ft fb gl T ++ (wgW h0 qc qh r cA cI cJ (2 * vn) ct 1 (bcF ((1 &&& -1) - 1)) (nwF (sr 1 (bcF ((1 &&& -1) - 1))) 5) (filI hd 9 (-1)) (mup M9 i k (T k i).toInt64))) := hD
              refine lv_aload_n hx hb dX1_weighGoal_61 rfl (lv_at hl 3 rfl) ?_
              refine va_get (D := (dC, dI)) (ci := 1) (v := .ref h0) (C := RX1) (T := TX1) (N := 7) hx hb hts (fun _ h => List.mem_cons_of_mem _ (List.mem_append_left _ (List.mem_append_right _ h))) hown hK hP 0 rfl rfl 2 (by decide) (hts (.fieldLink RX1 21 "RankFinder" "weighing" "LRankFinder$Weighing;") (List.mem_of_getElem? (i := 1) rfl)) (fun _ h9 => h9) rfl dX1_weighGoal_62 ?_
              refine lv_iload_n hx hb dX1_weighGoal_65 rfl (lv_at hl 1 rfl) ?_
              refine lv_iload_n hx hb dX1_weighGoal_66 rfl (lv_at hl 0 rfl) ?_
              refine lv_aload_n hx hb dX1_weighGoal_67 rfl (lv_at hl 3 rfl) ?_
              refine va_get (D := (dC, dI)) (ci := 1) (v := .ref qt) (C := RX1) (T := TX1) (N := 7) hx hb hts (fun _ h => List.mem_cons_of_mem _ (List.mem_append_left _ (List.mem_append_right _ h))) hown hK hP 0 rfl rfl 0 (by decide) (hts (.fieldLink RX1 11 "RankFinder" "told" "[[I") (List.mem_of_getElem? (i := 4) rfl)) (fun _ h9 => h9) rfl dX1_weighGoal_68 ?_
              refine lv_iload_n hx hb dX1_weighGoal_71 rfl (lv_at hl 0 rfl) ?_
              refine na_aald (y := rt k) hx hb hK hP 1 0 rfl rfl (show k < 8 by omega) (by decide) (if_pos (show k < 8 by omega)) dX1_weighGoal_72 ?_
              refine lv_iconst (v := nI 3) hx hb dX1_weighGoal_73 (by decide) ?_
              refine lv_iload_n hx hb dX1_weighGoal_74 rfl (lv_at hl 2 rfl) ?_
              refine lv_iadd hx hb dX1_weighGoal_75 ?_
              refine lv_topi (fun z_1 ez_1 => ?_)
              obtain rfl : z_1 = nI (3 + i) := ez_1.trans (nI_add 3 i)
              refine na_iald hx hb hK hP (3 + k) 1 (rf_row (show k < 8 by omega)) rfl (show 3 + i < 7 by omega) (by decide) dX1_weighGoal_76 ?_
              have hPc : va_P (dC, dI) vwCl (wgW h0 qc qh r cA cI cJ (2 * vn) ct 1 (bcF ((1 &&& -1) - 1)) (nwF (sr 1 (bcF ((1 &&& -1) - 1))) 5) (filI hd 9 (-1)) (mup M9 i k (T k i).toInt64)) H := va_Pr hP
              have hKc := hK.sub (tys' := wgT cA cI cJ) [2, 3, 4] rfl
              have hFc : ∀ q, va_A (wgW h0 qc qh r cA cI cJ (2 * vn) ct 1 (bcF ((1 &&& -1) - 1)) (nwF (sr 1 (bcF ((1 &&& -1) - 1))) 5) (filI hd 9 (-1)) (mup M9 i k (T k i).toInt64)) H.size q → A q := va_Ar hD hS hA
              refine va_callv (va_runV (As := [.int (nI (vn + i)), .int (nI k), .int (T k (3 + i))]) (rest := []) ⟨hx, hb, hml, hown, hts⟩ (c_X0_put l dC dI h0 qc qh r cA cI cJ H.size (2 * vn) ct 1 (bcF ((1 &&& -1) - 1)) (nwF (sr 1 (bcF ((1 &&& -1) - 1))) 5) (filI hd 9 (-1)) (mup M9 i k (T k i).toInt64) (vn + i) k (T k (3 + i)) (by omega) (by omega)) (cwV 3 hts gX1_weighGoal_X0_put rfl rfl rfl (by decide +kernel) ⟨Nat.le_of_ble_eq_true rfl, Nat.le_of_ble_eq_true rfl⟩) ⟨fun a U g mk q => by obtain ⟨q0, q1, qP, qK, qD⟩ := q; exact ⟨q0, q1, qP, va_K.moved (u := U) (U := U.calling g mk a) (Vm.Alike.refl U.vm) qK, qD⟩, va_recv hKc hPc (ci := 0) (q0 := 0) rfl rfl, fun U hU hW => ⟨rfl, by rw [hU], by rw [hU]; exact hPc, va_K.moved hW.alike hKc, va_Dr hD⟩⟩ rfl rfl hl.1 rfl (lv_room (Nat.le_of_ble_eq_true rfl)) dX1_weighGoal_77 ⟨(Nat.zero_le _), (Nat.zero_le _)⟩) hS (fun q _ h => hFc q h) hFc (fun v9 t H1 locs ht hvm hw hB hz1 hk1 hS => ?_)
              obtain ⟨hP1, hK1, hD1⟩ := hB
              rw [ht] at hP1
              obtain ⟨hP, hD⟩ := jn_app hP hD hk1 hFc hP1 hD1
              clear hPc hKc hP1 hD1 hK1 hFc hk1 hz1 ht hvm
              generalize H1 = H at hP hS ⊢
              have hP : va_P (dC, dI) vwCl (rfX p0 qt qg h0 rt cB cI vn ct ft fb gl T ++ (wgW h0 qc qh r cA cI cJ (2 * vn) ct 1 (bcF ((1 &&& -1) - 1)) (nwF (sr 1 (bcF ((1 &&& -1) - 1))) 5) (filI hd 9 (-1)) (mup (mup M9 i k (T k i).toInt64) (vn + i) k (T k (3 + i)).toInt64))) H := hP
              have hD : va_D A (rfX p0 qt qg h0 rt cB cI vn ct ft fb gl T ++ (wgW h0 qc qh r cA cI cJ (2 * vn) ct 1 (bcF ((1 &&& -1) - 1)) (nwF (sr 1 (bcF ((1 &&& -1) - 1))) 5) (filI hd 9 (-1)) (mup (mup M9 i k (T k i).toInt64) (vn + i) k (T k (3 + i)).toInt64))) := hD
              refine lv_iinc (v := nI (k + 1)) (lv' := [(3, .int (nI (k + 1))), (2, .int (nI (vn + i))), (1, .int (nI i)), (0, .ref p0)]) hx hb dX1_weighGoal_80 hl (k := 0) rfl (nI_1 _) (by decide) rfl (fun ls hl => ?_)
              refine lv_goto (tgt := 36) hx hb dX1_weighGoal_83 (by decide) ?_
              exact ih2 (k + 1) _ H _ ls (by omega) (ivG_put hI (by omega) (by omega)) hP hK hD hS (lv_sub hl [0, 1, 2, 3] rfl)
        exact inner ct 0 M9 H _ ls (by omega) hI hP hK hD hS (lv_sub hl [0, 1, 2, 3] rfl)
  exact outer vn 0 M9 H _ ls (by omega) hI hP hK hD hS (lv_sub hl [0, 1] rfl)
