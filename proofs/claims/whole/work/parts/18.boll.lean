/-! ===== PURE: pairs of sets that meet one way (Bollobas, skew): how many there are ===== -/
/-- tuples of a numbers, falling, the greatest being b at most -/
def tupN (b : Nat) (f : Nat → List (List Nat)) : Nat → List (List Nat)
  | 0 => [[]]
  | a + 1 => f (a + 1) ++ (tupN b f a).map (fun l => b :: l)
def tup : Nat → Nat → List (List Nat)
  | 0 => fun a => [List.replicate a 0]
  | b + 1 => tupN (b + 1) (tup b)
def dnN (f : Nat → Nat) : Nat → Nat
  | 0 => 1
  | a + 1 => f (a + 1) + dnN f a
def DN : Nat → Nat → Nat
  | 0 => fun _ => 1
  | b + 1 => dnN (DN b)
theorem tup_len : ∀ b a, (tup b a).length = DN b a
  | 0, a => rfl
  | b + 1, 0 => rfl
  | b + 1, a + 1 => by
    show (tup b (a + 1) ++ (tup (b + 1) a).map _).length = DN b (a + 1) + DN (b + 1) a
    rw [List.length_append, List.length_map, tup_len b (a + 1), tup_len (b + 1) a]
/-- the product of what co says of a list's members -/
def lp (co : Nat → Rat) : List Nat → Rat
  | [] => 1
  | e :: l => co e * lp co l
theorem lp_take {x : Nat} : ∀ {l : List Nat}, x ∈ l → ∃ l1 : List Nat, l1.length + 1 = l.length ∧ (∀ y, y ∈ l1 → y ∈ l) ∧ ∀ co, lp co l = co x * lp co l1
  | [], h => by simp at h
  | e :: l, h => by
    by_cases q : x = e
    · subst q
      exact ⟨l, rfl, fun y hy => List.mem_cons_of_mem _ hy, fun co => rfl⟩
    · have h1 : x ∈ l := by
        rcases List.mem_cons.mp h with q2 | q2
        · exact absurd q2 q
        · exact q2
      obtain ⟨l1, e1, e2, e3⟩ := lp_take h1
      refine ⟨e :: l1, by simp only [List.length_cons]; omega, fun y hy => ?_, fun co => ?_⟩
      · rcases List.mem_cons.mp hy with q2 | q2
        · rw [q2]; exact List.mem_cons_self
        · exact List.mem_cons_of_mem _ (e2 y q2)
      · show co e * lp co l = co x * (co e * lp co l1)
        rw [e3 co]; grind
theorem lp_zero (co : Nat → Rat) : ∀ l : List Nat, (∀ y, y ∈ l → y ≤ 0) → lp co l = lp co (List.replicate l.length 0)
  | [], _ => rfl
  | e :: l, h => by
    have : e = 0 := by have := h e List.mem_cons_self; omega
    subst this
    show co 0 * lp co l = co 0 * lp co (List.replicate l.length 0)
    rw [← lp_zero co l (fun y hy => h y (List.mem_cons_of_mem _ hy))]
theorem tup_has : ∀ (b a : Nat) (l : List Nat), l.length = a → (∀ y, y ∈ l → y ≤ b) → ∃ l', l' ∈ tup b a ∧ ∀ co, lp co l' = lp co l
  | 0, a, l, hl, h => ⟨List.replicate a 0, List.mem_singleton.mpr rfl, fun co => by rw [lp_zero co l h, hl]⟩
  | b + 1, 0, l, hl, _ => by
    have : l = [] := List.eq_nil_of_length_eq_zero hl
    subst this
    exact ⟨[], List.mem_singleton.mpr rfl, fun _ => rfl⟩
  | b + 1, a + 1, l, hl, h => by
    by_cases q : b + 1 ∈ l
    · obtain ⟨l1, e1, e2, e3⟩ := lp_take q
      obtain ⟨l2, f1, f2⟩ := tup_has (b + 1) a l1 (by omega) (fun y hy => h y (e2 y hy))
      refine ⟨(b + 1) :: l2, ?_, fun co => ?_⟩
      · show _ ∈ tup b (a + 1) ++ (tup (b + 1) a).map _
        exact List.mem_append_right _ (List.mem_map.mpr ⟨l2, f1, rfl⟩)
      · rw [e3 co, ← f2 co]; rfl
    · obtain ⟨l2, f1, f2⟩ := tup_has b (a + 1) l hl (fun y hy => by
        have h1 := h y hy
        have h2 : y ≠ b + 1 := fun e => by subst e; exact q hy
        omega)
      exact ⟨l2, List.mem_append_left _ f1, f2⟩
/-- z - x for every x of a set, multiplied -/
def gp (B : Nat → Bool) (z : Rat) : Nat → Rat
  | 0 => 1
  | n + 1 => gp B z n * (if B n then z - (n : Rat) else 1)
theorem gp_poly (B : Nat → Bool) : ∀ n, ∃ co : Nat → Rat, ∀ z : Rat, gp B z n = sm (ct B n + 1) (fun e => co e * z ^ e)
  | 0 => ⟨fun _ => 1, fun z => by simp only [gp, ct, sm]; grind⟩
  | n + 1 => by
    obtain ⟨co, h⟩ := gp_poly B n
    by_cases q : B n = true
    · refine ⟨fun e => (if e = 0 then 0 else co (e - 1)) + (if e < ct B n + 1 then -(n : Rat) * co e else 0), fun z => ?_⟩
      simp only [gp, ct, q, if_true]
      rw [h z]
      have e1 : sm (ct B n + 1 + 1) (fun e => ((if e = 0 then 0 else co (e - 1)) + (if e < ct B n + 1 then -(n : Rat) * co e else 0)) * z ^ e) = sm (ct B n + 1 + 1) (fun e => (if e = 0 then 0 else co (e - 1)) * z ^ e) + sm (ct B n + 1 + 1) (fun e => (if e < ct B n + 1 then -(n : Rat) * co e else 0) * z ^ e) := by
        rw [← sm_add]; exact sm_congr (fun e _ => by grind)
      have e2 : ∀ m, sm (m + 1) (fun e => (if e = 0 then 0 else co (e - 1)) * z ^ e) = z * sm m (fun e => co e * z ^ e) := by
        intro m
        induction m with
        | zero => simp only [sm]; grind
        | succ m ih =>
          have e9 : sm (m + 1 + 1) (fun e => (if e = 0 then 0 else co (e - 1)) * z ^ e) = sm (m + 1) (fun e => (if e = 0 then 0 else co (e - 1)) * z ^ e) + co m * z ^ (m + 1) := by
            show _ + (if m + 1 = 0 then 0 else co (m + 1 - 1)) * z ^ (m + 1) = _
            rw [if_neg (by omega), show m + 1 - 1 = m by omega]
          rw [e9, ih, Rat.pow_succ]
          show _ = z * (sm m _ + co m * z ^ m)
          grind
      have e3 : sm (ct B n + 1 + 1) (fun e => (if e < ct B n + 1 then -(n : Rat) * co e else 0) * z ^ e) = -(n : Rat) * sm (ct B n + 1) (fun e => co e * z ^ e) := by
        show sm (ct B n + 1) _ + (if ct B n + 1 < ct B n + 1 then -(n : Rat) * co (ct B n + 1) else 0) * z ^ (ct B n + 1) = _
        rw [if_neg (show ¬ ct B n + 1 < ct B n + 1 by omega), ← sm_mul, sm_congr (g := fun e => -(n : Rat) * (co e * z ^ e)) (fun e he => by rw [if_pos he]; grind)]
        grind
      rw [e1, e2, e3]
      grind
    · refine ⟨co, fun z => ?_⟩
      simp only [gp, ct, q]
      simp
      rw [h z]
theorem gp_ne {B : Nat → Bool} {z : Nat} : ∀ {n : Nat}, (∀ x, x < n → B x = true → x ≠ z) → gp B (z : Rat) n ≠ 0
  | 0, _ => by simp only [gp]; grind
  | n + 1, h => by
    simp only [gp]
    intro q
    rcases Rat.mul_eq_zero.mp q with q | q
    · exact gp_ne (fun x hx => h x (by omega)) q
    · split at q
      · rename_i hb
        have h1 := h n (by omega) hb
        have h2 : (z : Rat) = (n : Rat) := by grind
        exact h1 (Rat.natCast_inj.mp h2).symm
      · grind
theorem gp_z {B : Nat → Bool} {z : Nat} : ∀ {n : Nat}, z < n → B z = true → gp B (z : Rat) n = 0
  | 0, h, _ => by omega
  | n + 1, h, hb => by
    simp only [gp]
    by_cases q : z = n
    · subst q
      rw [hb]; simp; grind
    · rw [gp_z (by omega) hb]; grind
/-- the members of a set below n -/
def els (R : Nat → Bool) : Nat → List Nat
  | 0 => []
  | n + 1 => if R n then n :: els R n else els R n
theorem els_len (R : Nat → Bool) : ∀ n, (els R n).length = ct R n
  | 0 => rfl
  | n + 1 => by
    simp only [els, ct]
    split
    · rw [List.length_cons, els_len R n]
    · rw [els_len R n]; rfl
theorem els_mem {R : Nat → Bool} {x : Nat} : ∀ {n : Nat}, x ∈ els R n ↔ x < n ∧ R x = true
  | 0 => by simp [els]
  | n + 1 => by
    simp only [els]
    split
    · rename_i h
      rw [List.mem_cons, els_mem]
      constructor
      · rintro (q | q)
        · subst q; exact ⟨by omega, h⟩
        · exact ⟨by omega, q.2⟩
      · rintro ⟨q1, q2⟩
        by_cases e : x = n
        · exact Or.inl e
        · exact Or.inr ⟨by omega, q2⟩
    · rename_i h
      rw [els_mem]
      constructor
      · rintro ⟨q1, q2⟩; exact ⟨by omega, q2⟩
      · rintro ⟨q1, q2⟩
        refine ⟨?_, q2⟩
        have : x ≠ n := fun e => by subst e; exact h q2
        omega
/-- the product of what g makes of a list's members -/
def lq (g : Nat → Rat) : List Nat → Rat
  | [] => 1
  | z :: l => g z * lq g l
theorem lq_ne {g : Nat → Rat} : ∀ {l : List Nat}, (∀ z, z ∈ l → g z ≠ 0) → lq g l ≠ 0
  | [], _ => by simp only [lq]; grind
  | z :: l, h => by
    intro q
    rcases Rat.mul_eq_zero.mp q with q | q
    · exact h z List.mem_cons_self q
    · exact lq_ne (fun y hy => h y (List.mem_cons_of_mem _ hy)) q
theorem lq_z {g : Nat → Rat} {z : Nat} (hg : g z = 0) : ∀ {l : List Nat}, z ∈ l → lq g l = 0
  | [], h => by simp at h
  | y :: l, h => by
    show g y * lq g l = 0
    rcases List.mem_cons.mp h with q | q
    · rw [← q, hg]; grind
    · rw [lq_z hg q]; grind
/-- the last of those that are such, by a strict order that is total on them -/
theorem last_of (lt : Nat → Nat → Prop) (htr : ∀ a b c, lt a b → lt b c → lt a c) (P : Nat → Prop) : ∀ c : Nat, (∀ a b, a < c → b < c → P a → P b → a ≠ b → lt a b ∨ lt b a) → (∃ k, k < c ∧ P k) → ∃ k, k < c ∧ P k ∧ ∀ j, j < c → P j → j ≠ k → lt j k
  | 0, _, ⟨k, hk, _⟩ => by omega
  | c + 1, htot, hx => by
    by_cases q : ∃ k, k < c ∧ P k
    · obtain ⟨k, hk, hp, hm⟩ := last_of lt htr P c (fun a b ha hb => htot a b (by omega) (by omega)) q
      by_cases hc : P c ∧ lt k c
      · refine ⟨c, by omega, hc.1, fun j hj hjp hjc => ?_⟩
        by_cases e : j = k
        · subst e; exact hc.2
        · exact htr j k c (hm j (by omega) hjp e) hc.2
      · refine ⟨k, by omega, hp, fun j hj hjp hjk => ?_⟩
        by_cases e : j = c
        · subst e
          rcases htot j k (by omega) (by omega) hjp hp hjk with q2 | q2
          · exact q2
          · exact absurd ⟨hjp, q2⟩ hc
        · exact hm j (by omega) hjp hjk
    · obtain ⟨k, hk, hp⟩ := hx
      have e : k = c := by
        apply Classical.byContradiction
        intro q2
        exact q ⟨k, by omega, hp⟩
      subst e
      exact ⟨k, hk, hp, fun j hj hjp hjk => absurd ⟨j, by omega, hjp⟩ q⟩
theorem boll (n a b c : Nat) (R B : Nat → Nat → Bool) (P : Nat → Bool) (lt : Nat → Nat → Prop) (htr : ∀ x y z, lt x y → lt y z → lt x z) (htot : ∀ x y, x < c → y < c → x ≠ y → lt x y ∨ lt y x)
    (hR : ∀ r, r < c → P r = true → ct (R r) n = a) (hB : ∀ r, r < c → P r = true → ct (B r) n = b)
    (hdis : ∀ r, r < c → P r = true → ∀ x, x < n → R r x = true → B r x = false)
    (hmeet : ∀ r r', r < c → r' < c → P r = true → P r' = true → lt r r' → ∃ x, x < n ∧ R r' x = true ∧ B r x = true) : ct P c ≤ DN b a := by
  apply Classical.byContradiction
  intro hq
  have hco : ∀ r, ∃ co : Nat → Rat, ∀ z : Rat, gp (B r) z n = sm (ct (B r) n + 1) (fun e => co e * z ^ e) := fun r => gp_poly (B r) n
  obtain ⟨co, hco⟩ := Classical.axiomOfChoice hco
  obtain ⟨y, ⟨i, hi, hyi⟩, hyP, hs⟩ := dependP (DN b a) c P (by omega) (fun r j => lp (co r) ((tup b a).getD j []))
  have hyP' : ∀ r, y r ≠ 0 → P r = true := fun r q => by
    apply Classical.byContradiction
    intro q2
    exact q (hyP r (by simpa using q2))
  -- all lists of length a
  have h1 : ∀ l : List Nat, l.length = a → (∀ e, e ∈ l → e ≤ b) → sm c (fun r => y r * lp (co r) l) = 0 := by
    intro l hl hle
    obtain ⟨l', m1, m2⟩ := tup_has b a l hl hle
    obtain ⟨j, hj⟩ := List.getElem?_of_mem m1
    have hjl : j < (tup b a).length := (List.getElem?_eq_some_iff.mp hj).1
    have h2 := hs j (by rw [← tup_len]; exact hjl)
    rw [← h2]
    refine sm_congr (fun r _ => ?_)
    rw [← m2 (co r)]
    rw [List.getD_eq_getElem?_getD, hj]
    rfl
  -- some of them made to values
  have h2 : ∀ (zs : List Nat) (l : List Nat), l.length + zs.length = a → (∀ e, e ∈ l → e ≤ b) → sm c (fun r => y r * (lp (co r) l * lq (fun z => gp (B r) (z : Rat) n) zs)) = 0 := by
    intro zs
    induction zs with
    | nil =>
      intro l hl hle
      rw [← h1 l (by simpa using hl) hle]
      exact sm_congr (fun r _ => by simp only [lq]; grind)
    | cons z zs ih =>
      intro l hl hle
      have e1 : sm c (fun r => y r * (lp (co r) l * lq (fun z => gp (B r) (z : Rat) n) (z :: zs))) = sm c (fun r => sm (b + 1) (fun e => (z : Rat) ^ e * (y r * (lp (co r) (e :: l) * lq (fun z => gp (B r) (z : Rat) n) zs)))) := by
        refine sm_congr (fun r hr => ?_)
        by_cases hyr : y r = 0
        · rw [hyr, sm_zero (fun e _ => by grind)]; grind
        · have hb := hB r hr (hyP' r hyr)
          show y r * (lp (co r) l * (gp (B r) (z : Rat) n * lq (fun z => gp (B r) (z : Rat) n) zs)) = _
          rw [hco r (z : Rat), hb]
          rw [show sm (b + 1) (fun e => (z : Rat) ^ e * (y r * (lp (co r) (e :: l) * lq (fun z => gp (B r) (z : Rat) n) zs))) = sm (b + 1) (fun e => (y r * (lp (co r) l * lq (fun z => gp (B r) (z : Rat) n) zs)) * (co r e * (z : Rat) ^ e)) from sm_congr (fun e _ => by
            show _ * (y r * (co r e * lp (co r) l * _)) = _
            grind)]
          rw [sm_mul]
          grind
      rw [e1, sm_swap]
      refine sm_zero (fun e he => ?_)
      rw [sm_mul, ih (e :: l) (by simp only [List.length_cons] at *; omega) (fun x hx => by
        rcases List.mem_cons.mp hx with q | q
        · omega
        · exact hle x q)]
      grind
  obtain ⟨k, hk, hyk, hlast⟩ := last_of lt htr (fun r => y r ≠ 0) c (fun a b ha hb _ _ hab => htot a b ha hb hab) ⟨i, hi, hyi⟩
  have h3 := h2 (els (R k) n) [] (by rw [els_len, hR k hk (hyP' k hyk)]; simp) (fun e he => by simp at he)
  rw [sm_one hk (fun j hj hjk => by
    by_cases hyj : y j = 0
    · rw [hyj]; grind
    · obtain ⟨x, hx, hx1, hx2⟩ := hmeet j k hj hk (hyP' j hyj) (hyP' k hyk) (hlast j hj hyj hjk)
      rw [lq_z (g := fun z => gp (B j) (z : Rat) n) (z := x) (gp_z hx hx2) (els_mem.mpr ⟨hx, hx1⟩)]
      grind)] at h3
  have h4 : lq (fun z => gp (B k) (z : Rat) n) (els (R k) n) ≠ 0 := lq_ne (fun z hz => by
    obtain ⟨z1, z2⟩ := els_mem.mp hz
    refine gp_ne (fun x hx hb e => ?_)
    subst e
    have := hdis k hk (hyP' k hyk) x hx z2
    rw [hb] at this
    cases this)
  rcases Rat.mul_eq_zero.mp h3 with q | q
  · exact hyk q
  · rcases Rat.mul_eq_zero.mp q with q | q
    · simp only [lp] at q; grind
    · exact h4 q
