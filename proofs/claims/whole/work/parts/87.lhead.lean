/-! ===== the law: what holds at its head ===== -/
theorem va_Ps {D : va_G} {cl : List vw_C} {X Y : va_W} {H : Heap} (hP : va_P D cl (X ++ Y) H) : va_P D cl (Y ++ X) H := va_P.swap (a := []) hP
theorem va_Ds {A : Nat → Prop} {X Y : va_W} (hD : va_D A (X ++ Y)) : va_D A (Y ++ X) := va_D.swap (a := []) hD
theorem va_Pl {D : va_G} {cl : List vw_C} {X Y : va_W} {H : Heap} (hP : va_P D cl (X ++ Y) H) : va_P D cl X H := va_Pr (va_Ps hP)
theorem va_Dl {A : Nat → Prop} {X Y : va_W} (hD : va_D A (X ++ Y)) : va_D (fun _ => True) X := va_Dr (va_Ds hD)
theorem va_Al {A0 : Nat → Prop} {X Y : va_W} {H0 H : Heap} {locs : List Loc} (hD : va_D A0 (X ++ Y)) (hS : va_S A0 H0 H locs) (hA : ∀ q, H0.size ≤ q → A0 q) : ∀ q, va_A X H.size q → A0 q := va_Ar (va_Ds hD) hS hA
theorem jn_appL {D : va_G} {cl : List vw_C} {A0 : Nat → Prop} {X X' Y : va_W} {H H1 : Heap} (hP : va_P D cl (X ++ Y) H) (hD : va_D A0 (X ++ Y)) (hk : ∀ q : Nat, q < H.size → ¬ va_A X H.size q → H1[q]? = H[q]?) (hF : ∀ q, va_A X H.size q → A0 q) (hP1 : va_P D cl X' H1) (hD1 : va_D (va_A X H.size) X') : va_P D cl (X' ++ Y) H1 ∧ va_D A0 (X' ++ Y) := by
  have h := jn_app (va_Ps hP) (va_Ds hD) hk hF hP1 hD1
  exact ⟨va_Ps h.1, va_Ds h.2⟩
/-- the class and the reference side by side: the same rules told, the same number of variables, the same last answer -/
def Lw (dC : Nat → ClassId) (dI : Nat → Nat → Nat) (s : State) (p0 m0 : Nat) (H : Heap) : Prop := ∃ (vn ct : Nat) (ft fb : Int64) (qt qg h0 : Nat) (rt : Nat → Nat) (cB cI cA cJ : ClassId) (qc qh : Nat) (r : Nat → Nat) (gl : Nat → Int32) (T : Nat → Nat → Int32) (me nw : Nat) (u : Int64) (tw : Int32) (iv : Int64) (hd : Nat → Int32) (M : Nat → Nat → Int64) (aN aR aX aO aP aH aL aW : Nat) (cI2 cJ2 : ClassId) (nm : Nat → Int32) (an : Int32) (rw nx : Nat → Int64) (og no : Nat → Int32) (rc nc : Nat) (hgh lws : Nat → Int64) (dh dl fT fB : Int64) (wd : Nat → Int32), 1 ≤ vn ∧ vn ≤ 3 ∧ ct ≤ 8 ∧ okN nm ct ∧ lwR T nm ct ∧ va_P (dC, dI) vwCl ((rfX p0 qt qg h0 rt cB cI vn ct ft fb gl T ++ wgW h0 qc qh r cA cI cJ me nw u tw iv hd M) ++ mdW m0 aN aR aX aO aP aH aL aW cI2 cJ2 vn ct nm ft fb an rw nx og no rc nc hgh lws dh dl fT fB wd) H ∧ va_K (dC, dI) vwCl [(cB, .array .int), (cI, .int), (cA, .array .long), (cI, .int), (cJ, .long), (cI2, .int), (cJ2, .long)] s ∧ va_D (fun q : Nat => s.heap.size ≤ q) ((rfX p0 qt qg h0 rt cB cI vn ct ft fb gl T ++ wgW h0 qc qh r cA cI cJ me nw u tw iv hd M) ++ mdW m0 aN aR aX aO aP aH aL aW cI2 cJ2 vn ct nm ft fb an rw nx og no rc nc hgh lws dh dl fT fB wd)
theorem lg_cmp0 (a : Int64) : lg_cmp a a = 0 := by
  unfold lg_cmp
  simp
