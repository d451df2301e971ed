section
-- ===== PART A: goes FIRST, ahead of the names: the tables' words, and 'selects' of the private methods out of them =====
/-- a private method of a class that the tables say can be made, by its rows of tables_1 -/
def lw_okq (q : MethodName × Nat) : Prop := (q.1.cls ≠ "java/lang/invoke/MethodHandle" ∧ q.1.cls ≠ "java/lang/invoke/VarHandle") ∧ Cond.instantiable q.1.cls q.2 ∈ tables_1 ∧ Cond.privateMethod q.1 ∈ tables_1 ∧ Cond.instanceMethod q.1 ∈ tables_1
theorem lw_p0 : lw_okq (⟨"RankFinder", "isRule", "(I)Z"⟩, 7) := ⟨⟨by decide +kernel, by decide +kernel⟩, List.mem_of_getElem? (i := 9) (by decide +kernel), List.mem_of_getElem? (i := 94) (by decide +kernel), List.mem_of_getElem? (i := 95) (by decide +kernel)⟩
theorem lw_p1 : lw_okq (⟨"RankFinder", "partOf", "(IIJJJ)J"⟩, 7) := ⟨⟨by decide +kernel, by decide +kernel⟩, List.mem_of_getElem? (i := 9) (by decide +kernel), List.mem_of_getElem? (i := 113) (by decide +kernel), List.mem_of_getElem? (i := 114) (by decide +kernel)⟩
theorem lw_p2 : lw_okq (⟨"RankFinder", "seekLeast", "()I"⟩, 7) := ⟨⟨by decide +kernel, by decide +kernel⟩, List.mem_of_getElem? (i := 9) (by decide +kernel), List.mem_of_getElem? (i := 124) (by decide +kernel), List.mem_of_getElem? (i := 125) (by decide +kernel)⟩
theorem lw_p3 : lw_okq (⟨"RankFinder", "weighGoal", "()V"⟩, 7) := ⟨⟨by decide +kernel, by decide +kernel⟩, List.mem_of_getElem? (i := 9) (by decide +kernel), List.mem_of_getElem? (i := 128) (by decide +kernel), List.mem_of_getElem? (i := 129) (by decide +kernel)⟩
theorem lw_p4 : lw_okq (⟨"RankFinder$Weighing", "takeUnit", "(J)V"⟩, 7) := ⟨⟨by decide +kernel, by decide +kernel⟩, List.mem_of_getElem? (i := 19) (by decide +kernel), List.mem_of_getElem? (i := 143) (by decide +kernel), List.mem_of_getElem? (i := 144) (by decide +kernel)⟩
theorem lw_p5 : lw_okq (⟨"RankFinder$Weighing", "holdColumns", "()V"⟩, 7) := ⟨⟨by decide +kernel, by decide +kernel⟩, List.mem_of_getElem? (i := 19) (by decide +kernel), List.mem_of_getElem? (i := 170) (by decide +kernel), List.mem_of_getElem? (i := 171) (by decide +kernel)⟩
theorem lw_p6 : lw_okq (⟨"RankFinder$Weighing", "firstColumnOf", "(I)I"⟩, 7) := ⟨⟨by decide +kernel, by decide +kernel⟩, List.mem_of_getElem? (i := 19) (by decide +kernel), List.mem_of_getElem? (i := 174) (by decide +kernel), List.mem_of_getElem? (i := 175) (by decide +kernel)⟩
theorem lw_p7 : lw_okq (⟨"RankFinder$Weighing", "exchange", "(II)V"⟩, 7) := ⟨⟨by decide +kernel, by decide +kernel⟩, List.mem_of_getElem? (i := 19) (by decide +kernel), List.mem_of_getElem? (i := 178) (by decide +kernel), List.mem_of_getElem? (i := 179) (by decide +kernel)⟩
theorem lw_p8 : lw_okq (⟨"RankFinder$Weighing", "negate", "(I)V"⟩, 7) := ⟨⟨by decide +kernel, by decide +kernel⟩, List.mem_of_getElem? (i := 19) (by decide +kernel), List.mem_of_getElem? (i := 182) (by decide +kernel), List.mem_of_getElem? (i := 183) (by decide +kernel)⟩
theorem lw_p9 : lw_okq (⟨"RankFinder$Weighing", "differenceByUnit", "(JJJJ)J"⟩, 7) := ⟨⟨by decide +kernel, by decide +kernel⟩, List.mem_of_getElem? (i := 19) (by decide +kernel), List.mem_of_getElem? (i := 186) (by decide +kernel), List.mem_of_getElem? (i := 187) (by decide +kernel)⟩
theorem lw_p10 : lw_okq (⟨"RankFinder$Weighing", "columnThatSaves", "()I"⟩, 7) := ⟨⟨by decide +kernel, by decide +kernel⟩, List.mem_of_getElem? (i := 19) (by decide +kernel), List.mem_of_getElem? (i := 196) (by decide +kernel), List.mem_of_getElem? (i := 197) (by decide +kernel)⟩
theorem lw_p11 : lw_okq (⟨"RankFinder$Weighing", "rowThatLimits", "(I)I"⟩, 7) := ⟨⟨by decide +kernel, by decide +kernel⟩, List.mem_of_getElem? (i := 19) (by decide +kernel), List.mem_of_getElem? (i := 200) (by decide +kernel), List.mem_of_getElem? (i := 201) (by decide +kernel)⟩
theorem lw_p12 : lw_okq (⟨"RankFinder$Weighing", "holdsLess", "(II)Z"⟩, 7) := ⟨⟨by decide +kernel, by decide +kernel⟩, List.mem_of_getElem? (i := 19) (by decide +kernel), List.mem_of_getElem? (i := 204) (by decide +kernel), List.mem_of_getElem? (i := 205) (by decide +kernel)⟩
theorem lw_p13 : lw_okq (⟨"RankFinder$Weighing", "hasBareContradiction", "()Z"⟩, 7) := ⟨⟨by decide +kernel, by decide +kernel⟩, List.mem_of_getElem? (i := 19) (by decide +kernel), List.mem_of_getElem? (i := 212) (by decide +kernel), List.mem_of_getElem? (i := 213) (by decide +kernel)⟩
theorem lw_p14 : lw_okq (⟨"RankFinder$Weighing", "rowBelowZero", "()I"⟩, 7) := ⟨⟨by decide +kernel, by decide +kernel⟩, List.mem_of_getElem? (i := 19) (by decide +kernel), List.mem_of_getElem? (i := 216) (by decide +kernel), List.mem_of_getElem? (i := 217) (by decide +kernel)⟩
theorem lw_p15 : lw_okq (⟨"RankFinder$Weighing", "columnThatLifts", "(I)I"⟩, 7) := ⟨⟨by decide +kernel, by decide +kernel⟩, List.mem_of_getElem? (i := 19) (by decide +kernel), List.mem_of_getElem? (i := 220) (by decide +kernel), List.mem_of_getElem? (i := 221) (by decide +kernel)⟩
def lw_privs_1 : List (MethodName × Nat) := [(⟨"RankFinder", "isRule", "(I)Z"⟩, 7), (⟨"RankFinder", "partOf", "(IIJJJ)J"⟩, 7), (⟨"RankFinder", "seekLeast", "()I"⟩, 7), (⟨"RankFinder", "weighGoal", "()V"⟩, 7), (⟨"RankFinder$Weighing", "takeUnit", "(J)V"⟩, 7), (⟨"RankFinder$Weighing", "holdColumns", "()V"⟩, 7), (⟨"RankFinder$Weighing", "firstColumnOf", "(I)I"⟩, 7), (⟨"RankFinder$Weighing", "exchange", "(II)V"⟩, 7), (⟨"RankFinder$Weighing", "negate", "(I)V"⟩, 7), (⟨"RankFinder$Weighing", "differenceByUnit", "(JJJJ)J"⟩, 7), (⟨"RankFinder$Weighing", "columnThatSaves", "()I"⟩, 7), (⟨"RankFinder$Weighing", "rowThatLimits", "(I)I"⟩, 7), (⟨"RankFinder$Weighing", "holdsLess", "(II)Z"⟩, 7), (⟨"RankFinder$Weighing", "hasBareContradiction", "()Z"⟩, 7), (⟨"RankFinder$Weighing", "rowBelowZero", "()I"⟩, 7), (⟨"RankFinder$Weighing", "columnThatLifts", "(I)I"⟩, 7)]
theorem lw_r1 : ∀ q ∈ lw_privs_1, lw_okq q := List.forall_mem_cons.mpr ⟨lw_p0, List.forall_mem_cons.mpr ⟨lw_p1, List.forall_mem_cons.mpr ⟨lw_p2, List.forall_mem_cons.mpr ⟨lw_p3, List.forall_mem_cons.mpr ⟨lw_p4, List.forall_mem_cons.mpr ⟨lw_p5, List.forall_mem_cons.mpr ⟨lw_p6, List.forall_mem_cons.mpr ⟨lw_p7, List.forall_mem_cons.mpr ⟨lw_p8, List.forall_mem_cons.mpr ⟨lw_p9, List.forall_mem_cons.mpr ⟨lw_p10, List.forall_mem_cons.mpr ⟨lw_p11, List.forall_mem_cons.mpr ⟨lw_p12, List.forall_mem_cons.mpr ⟨lw_p13, List.forall_mem_cons.mpr ⟨lw_p14, List.forall_mem_cons.mpr ⟨lw_p15, fun _ h => absurd h List.not_mem_nil⟩⟩⟩⟩⟩⟩⟩⟩⟩⟩⟩⟩⟩⟩⟩⟩
theorem lw_p16 : lw_okq (⟨"RankFinder$Weighing", "isCheaper", "(III)Z"⟩, 7) := ⟨⟨by decide +kernel, by decide +kernel⟩, List.mem_of_getElem? (i := 19) (by decide +kernel), List.mem_of_getElem? (i := 224) (by decide +kernel), List.mem_of_getElem? (i := 225) (by decide +kernel)⟩
theorem lw_p17 : lw_okq (⟨"RankFinder", "weighRanking", "()V"⟩, 7) := ⟨⟨by decide +kernel, by decide +kernel⟩, List.mem_of_getElem? (i := 9) (by decide +kernel), List.mem_of_getElem? (i := 232) (by decide +kernel), List.mem_of_getElem? (i := 233) (by decide +kernel)⟩
theorem lw_p18 : lw_okq (⟨"RankFinderModel", "beginRows", "()V"⟩, 19) := ⟨⟨by decide +kernel, by decide +kernel⟩, List.mem_of_getElem? (i := 269) (by decide +kernel), List.mem_of_getElem? (i := 364) (by decide +kernel), List.mem_of_getElem? (i := 365) (by decide +kernel)⟩
theorem lw_p19 : lw_okq (⟨"RankFinderModel", "empty", "()I"⟩, 19) := ⟨⟨by decide +kernel, by decide +kernel⟩, List.mem_of_getElem? (i := 269) (by decide +kernel), List.mem_of_getElem? (i := 368) (by decide +kernel), List.mem_of_getElem? (i := 369) (by decide +kernel)⟩
theorem lw_p20 : lw_okq (⟨"RankFinderModel", "eliminateAll", "()V"⟩, 19) := ⟨⟨by decide +kernel, by decide +kernel⟩, List.mem_of_getElem? (i := 269) (by decide +kernel), List.mem_of_getElem? (i := 372) (by decide +kernel), List.mem_of_getElem? (i := 373) (by decide +kernel)⟩
theorem lw_p21 : lw_okq (⟨"RankFinderModel", "eliminate", "(II)V"⟩, 19) := ⟨⟨by decide +kernel, by decide +kernel⟩, List.mem_of_getElem? (i := 269) (by decide +kernel), List.mem_of_getElem? (i := 376) (by decide +kernel), List.mem_of_getElem? (i := 377) (by decide +kernel)⟩
theorem lw_p22 : lw_okq (⟨"RankFinderModel", "carry", "(I)V"⟩, 19) := ⟨⟨by decide +kernel, by decide +kernel⟩, List.mem_of_getElem? (i := 269) (by decide +kernel), List.mem_of_getElem? (i := 380) (by decide +kernel), List.mem_of_getElem? (i := 381) (by decide +kernel)⟩
theorem lw_p23 : lw_okq (⟨"RankFinderModel", "areBeside", "(II)Z"⟩, 19) := ⟨⟨by decide +kernel, by decide +kernel⟩, List.mem_of_getElem? (i := 269) (by decide +kernel), List.mem_of_getElem? (i := 387) (by decide +kernel), List.mem_of_getElem? (i := 388) (by decide +kernel)⟩
theorem lw_p24 : lw_okq (⟨"RankFinderModel", "combine", "(III)V"⟩, 19) := ⟨⟨by decide +kernel, by decide +kernel⟩, List.mem_of_getElem? (i := 269) (by decide +kernel), List.mem_of_getElem? (i := 391) (by decide +kernel), List.mem_of_getElem? (i := 392) (by decide +kernel)⟩
theorem lw_p25 : lw_okq (⟨"RankFinderModel", "make", "(IJJJJ)V"⟩, 19) := ⟨⟨by decide +kernel, by decide +kernel⟩, List.mem_of_getElem? (i := 269) (by decide +kernel), List.mem_of_getElem? (i := 395) (by decide +kernel), List.mem_of_getElem? (i := 396) (by decide +kernel)⟩
theorem lw_p26 : lw_okq (⟨"RankFinderModel", "gather", "(JJ)V"⟩, 19) := ⟨⟨by decide +kernel, by decide +kernel⟩, List.mem_of_getElem? (i := 269) (by decide +kernel), List.mem_of_getElem? (i := 407) (by decide +kernel), List.mem_of_getElem? (i := 408) (by decide +kernel)⟩
theorem lw_p27 : lw_okq (⟨"RankFinderModel", "share", "(JJ)J"⟩, 19) := ⟨⟨by decide +kernel, by decide +kernel⟩, List.mem_of_getElem? (i := 269) (by decide +kernel), List.mem_of_getElem? (i := 411) (by decide +kernel), List.mem_of_getElem? (i := 412) (by decide +kernel)⟩
theorem lw_p28 : lw_okq (⟨"RankFinderModel", "isPossible", "()Z"⟩, 19) := ⟨⟨by decide +kernel, by decide +kernel⟩, List.mem_of_getElem? (i := 269) (by decide +kernel), List.mem_of_getElem? (i := 415) (by decide +kernel), List.mem_of_getElem? (i := 416) (by decide +kernel)⟩
theorem lw_p29 : lw_okq (⟨"RankFinderModel", "search", "()I"⟩, 19) := ⟨⟨by decide +kernel, by decide +kernel⟩, List.mem_of_getElem? (i := 269) (by decide +kernel), List.mem_of_getElem? (i := 428) (by decide +kernel), List.mem_of_getElem? (i := 429) (by decide +kernel)⟩
theorem lw_p30 : lw_okq (⟨"RankFinderModel", "isGreater", "(II)Z"⟩, 19) := ⟨⟨by decide +kernel, by decide +kernel⟩, List.mem_of_getElem? (i := 269) (by decide +kernel), List.mem_of_getElem? (i := 433) (by decide +kernel), List.mem_of_getElem? (i := 434) (by decide +kernel)⟩
def lw_privs_2 : List (MethodName × Nat) := [(⟨"RankFinder$Weighing", "isCheaper", "(III)Z"⟩, 7), (⟨"RankFinder", "weighRanking", "()V"⟩, 7), (⟨"RankFinderModel", "beginRows", "()V"⟩, 19), (⟨"RankFinderModel", "empty", "()I"⟩, 19), (⟨"RankFinderModel", "eliminateAll", "()V"⟩, 19), (⟨"RankFinderModel", "eliminate", "(II)V"⟩, 19), (⟨"RankFinderModel", "carry", "(I)V"⟩, 19), (⟨"RankFinderModel", "areBeside", "(II)Z"⟩, 19), (⟨"RankFinderModel", "combine", "(III)V"⟩, 19), (⟨"RankFinderModel", "make", "(IJJJJ)V"⟩, 19), (⟨"RankFinderModel", "gather", "(JJ)V"⟩, 19), (⟨"RankFinderModel", "share", "(JJ)J"⟩, 19), (⟨"RankFinderModel", "isPossible", "()Z"⟩, 19), (⟨"RankFinderModel", "search", "()I"⟩, 19), (⟨"RankFinderModel", "isGreater", "(II)Z"⟩, 19)]
theorem lw_r2 : ∀ q ∈ lw_privs_2, lw_okq q := List.forall_mem_cons.mpr ⟨lw_p16, List.forall_mem_cons.mpr ⟨lw_p17, List.forall_mem_cons.mpr ⟨lw_p18, List.forall_mem_cons.mpr ⟨lw_p19, List.forall_mem_cons.mpr ⟨lw_p20, List.forall_mem_cons.mpr ⟨lw_p21, List.forall_mem_cons.mpr ⟨lw_p22, List.forall_mem_cons.mpr ⟨lw_p23, List.forall_mem_cons.mpr ⟨lw_p24, List.forall_mem_cons.mpr ⟨lw_p25, List.forall_mem_cons.mpr ⟨lw_p26, List.forall_mem_cons.mpr ⟨lw_p27, List.forall_mem_cons.mpr ⟨lw_p28, List.forall_mem_cons.mpr ⟨lw_p29, List.forall_mem_cons.mpr ⟨lw_p30, fun _ h => absurd h List.not_mem_nil⟩⟩⟩⟩⟩⟩⟩⟩⟩⟩⟩⟩⟩⟩⟩
def lw_privs : List (MethodName × Nat) := lw_privs_1 ++ (lw_privs_2)
def lw_tbl : List Cond := k2_sels lw_privs ++ tables_1
theorem lw_privs_ok : ∀ q ∈ lw_privs, lw_okq q := by
  show ∀ q ∈ lw_privs_1 ++ (lw_privs_2), lw_okq q
  exact List.forall_mem_append.mpr ⟨lw_r1, lw_r2⟩
end
section
/-! ===== BEGIN words of one list among another's, by their places ===== -/
theorem goodIn_r {big : List Cond} (ws : List Cond) (ps : List Nat) (hp : ws = ps.filterMap (fun i => big[i]?)) (h : ws.all goodWord = true) : GoodIn big ws := by
  intro w hw
  have h1 := List.all_eq_true.mp h w hw
  rw [hp] at hw
  obtain ⟨i, -, hi⟩ := List.mem_filterMap.mp hw
  have hm : w ∈ big := by first | exact List.mem_of_getElem? hi | exact List.getElem?_mem hi
  exact ⟨hm, good_of_word h1⟩
theorem goodIn_app {big a b : List Cond} (ha : GoodIn big a) (hb : GoodIn big b) : GoodIn big (a ++ b) := fun w h => (List.mem_append.mp h).elim (ha w) (hb w)
theorem goodIn_ca {big a b : List Cond} {c : Cond} (ha : GoodIn big (c :: a)) (hb : GoodIn big b) : GoodIn big (c :: (a ++ b)) := fun w h => (List.mem_cons.mp h).elim (fun e => ha w (List.mem_cons.mpr (Or.inl e))) (fun h => (List.mem_append.mp h).elim (fun h => ha w (List.mem_cons.mpr (Or.inr h))) (hb w))
theorem goodIn_sub {big ws : List Cond} (hm : ∀ w ∈ ws, w ∈ big) (h : ws.all goodWord = true) : GoodIn big ws := fun w hw => ⟨hm w hw, good_of_word (List.all_eq_true.mp h w hw)⟩
/-! ===== END ===== -/

/-! ===== BEGIN printed: names, fields, word lists, decode rows ===== -/
def RX0 : String := "RankFinder$Weighing"
def TX0 : u_T := fun k => match k with
  | 0 => ("RankFinder$Weighing", "cell", "[[J", true)
  | 1 => ("RankFinder$Weighing", "held", "[I", true)
  | 2 => ("RankFinder$Weighing", "equations", "I", false)
  | 3 => ("RankFinder$Weighing", "weights", "I", false)
  | 4 => ("RankFinder$Weighing", "unit", "J", false)
  | 5 => ("RankFinder$Weighing", "unitTwos", "I", false)
  | _ => ("RankFinder$Weighing", "unitInverse", "J", false)
def tyX0 : Nat → FieldType := fun k => match k with
  | 0 => .array (.array .long)
  | 1 => .array .int
  | 2 => .int
  | 3 => .int
  | 4 => .long
  | 5 => .int
  | _ => .long
abbrev wsX00 : List Cond := u_ws RX0 TX0 7
theorem nmX0 : ∀ a, a < 7 → ∀ b, b < 7 → a ≠ b → (TX0 a).2.1 ≠ (TX0 b).2.1 := by decide +kernel
theorem tyX0_ok : ∀ k, k < 7 → parseFieldDescriptor (TX0 k).2.2.1 = some (tyX0 k) := by decide +kernel
abbrev cX0_init : ByteArray := prog_2_method_1_code
def yX0_init : MethodName := ⟨RX0, "<init>", "()V"⟩
abbrev cX0_clear : ByteArray := prog_2_method_2_code
def yX0_clear : MethodName := ⟨RX0, "clear", "(II)V"⟩
abbrev cX0_put : ByteArray := prog_2_method_3_code
def yX0_put : MethodName := ⟨RX0, "put", "(III)V"⟩
abbrev cX0_putRightSide : ByteArray := prog_2_method_4_code
def yX0_putRightSide : MethodName := ⟨RX0, "putRightSide", "(II)V"⟩
abbrev cX0_putCost : ByteArray := prog_2_method_5_code
def yX0_putCost : MethodName := ⟨RX0, "putCost", "(II)V"⟩
abbrev cX0_leastTop : ByteArray := prog_2_method_6_code
def yX0_leastTop : MethodName := ⟨RX0, "leastTop", "()J"⟩
abbrev cX0_leastBottom : ByteArray := prog_2_method_7_code
def yX0_leastBottom : MethodName := ⟨RX0, "leastBottom", "()J"⟩
abbrev cX0_fallsForEver : ByteArray := prog_2_method_8_code
def yX0_fallsForEver : MethodName := ⟨RX0, "fallsForEver", "()Z"⟩
abbrev cX0_reachesRightSides : ByteArray := prog_2_method_9_code
def yX0_reachesRightSides : MethodName := ⟨RX0, "reachesRightSides", "()Z"⟩
abbrev cX0_holdColumns : ByteArray := prog_2_method_10_code
def yX0_holdColumns : MethodName := ⟨RX0, "holdColumns", "()V"⟩
abbrev cX0_firstColumnOf : ByteArray := prog_2_method_11_code
def yX0_firstColumnOf : MethodName := ⟨RX0, "firstColumnOf", "(I)I"⟩
abbrev cX0_hasBareContradiction : ByteArray := prog_2_method_12_code
def yX0_hasBareContradiction : MethodName := ⟨RX0, "hasBareContradiction", "()Z"⟩
abbrev cX0_columnThatSaves : ByteArray := prog_2_method_13_code
def yX0_columnThatSaves : MethodName := ⟨RX0, "columnThatSaves", "()I"⟩
abbrev cX0_rowThatLimits : ByteArray := prog_2_method_14_code
def yX0_rowThatLimits : MethodName := ⟨RX0, "rowThatLimits", "(I)I"⟩
abbrev cX0_rowBelowZero : ByteArray := prog_2_method_15_code
def yX0_rowBelowZero : MethodName := ⟨RX0, "rowBelowZero", "()I"⟩
abbrev cX0_holdsLess : ByteArray := prog_2_method_16_code
def yX0_holdsLess : MethodName := ⟨RX0, "holdsLess", "(II)Z"⟩
abbrev cX0_columnThatLifts : ByteArray := prog_2_method_17_code
def yX0_columnThatLifts : MethodName := ⟨RX0, "columnThatLifts", "(I)I"⟩
abbrev cX0_isCheaper : ByteArray := prog_2_method_18_code
def yX0_isCheaper : MethodName := ⟨RX0, "isCheaper", "(III)Z"⟩
abbrev cX0_exchange : ByteArray := prog_2_method_19_code
def yX0_exchange : MethodName := ⟨RX0, "exchange", "(II)V"⟩
abbrev cX0_negate : ByteArray := prog_2_method_20_code
def yX0_negate : MethodName := ⟨RX0, "negate", "(I)V"⟩
abbrev cX0_takeUnit : ByteArray := prog_2_method_21_code
def yX0_takeUnit : MethodName := ⟨RX0, "takeUnit", "(J)V"⟩
abbrev cX0_differenceByUnit : ByteArray := prog_2_method_22_code
def yX0_differenceByUnit : MethodName := ⟨RX0, "differenceByUnit", "(JJJJ)J"⟩
abbrev cX0_highProduct : ByteArray := prog_2_method_23_code
def yX0_highProduct : MethodName := ⟨RX0, "highProduct", "(JJ)J"⟩
def RX1 : String := "RankFinder"
def TX1 : u_T := fun k => match k with
  | 0 => ("RankFinder", "told", "[[I", true)
  | 1 => ("RankFinder", "goal", "[I", true)
  | 2 => ("RankFinder", "weighing", "LRankFinder$Weighing;", true)
  | 3 => ("RankFinder", "variables", "I", false)
  | 4 => ("RankFinder", "count", "I", false)
  | 5 => ("RankFinder", "foundTop", "J", false)
  | _ => ("RankFinder", "foundBottom", "J", false)
def tyX1 : Nat → FieldType := fun k => match k with
  | 0 => .array (.array .int)
  | 1 => .array .int
  | 2 => .object "RankFinder$Weighing"
  | 3 => .int
  | 4 => .int
  | 5 => .long
  | _ => .long
abbrev wsX10 : List Cond := u_ws RX1 TX1 7
theorem nmX1 : ∀ a, a < 7 → ∀ b, b < 7 → a ≠ b → (TX1 a).2.1 ≠ (TX1 b).2.1 := by decide +kernel
theorem tyX1_ok : ∀ k, k < 7 → parseFieldDescriptor (TX1 k).2.2.1 = some (tyX1 k) := by decide +kernel
abbrev cX1_init : ByteArray := prog_1_method_1_code
def yX1_init : MethodName := ⟨RX1, "<init>", "()V"⟩
abbrev cX1_begin : ByteArray := prog_1_method_2_code
def yX1_begin : MethodName := ⟨RX1, "begin", "(I)Z"⟩
abbrev cX1_rule : ByteArray := prog_1_method_3_code
def yX1_rule : MethodName := ⟨RX1, "rule", "(IIIIIII)I"⟩
abbrev cX1_drop : ByteArray := prog_1_method_4_code
def yX1_drop : MethodName := ⟨RX1, "drop", "(I)Z"⟩
abbrev cX1_rules : ByteArray := prog_1_method_5_code
def yX1_rules : MethodName := ⟨RX1, "rules", "()I"⟩
abbrev cX1_number : ByteArray := prog_1_method_6_code
def yX1_number : MethodName := ⟨RX1, "number", "(II)I"⟩
abbrev cX1_keeps : ByteArray := prog_1_method_7_code
def yX1_keeps : MethodName := ⟨RX1, "keeps", "(IIIIII)Z"⟩
abbrev cX1_hasTurn : ByteArray := prog_1_method_8_code
def yX1_hasTurn : MethodName := ⟨RX1, "hasTurn", "()Z"⟩
abbrev cX1_ranked : ByteArray := prog_1_method_9_code
def yX1_ranked : MethodName := ⟨RX1, "ranked", "()Z"⟩
abbrev cX1_ranks : ByteArray := prog_1_method_10_code
def yX1_ranks : MethodName := ⟨RX1, "ranks", "(IIII)Z"⟩
abbrev cX1_least : ByteArray := prog_1_method_11_code
def yX1_least : MethodName := ⟨RX1, "least", "(IIIIII)I"⟩
abbrev cX1_top : ByteArray := prog_1_method_12_code
def yX1_top : MethodName := ⟨RX1, "top", "()J"⟩
abbrev cX1_bottom : ByteArray := prog_1_method_13_code
def yX1_bottom : MethodName := ⟨RX1, "bottom", "()J"⟩
abbrev cX1_isRule : ByteArray := prog_1_method_14_code
def yX1_isRule : MethodName := ⟨RX1, "isRule", "(I)Z"⟩
abbrev cX1_isWithin : ByteArray := prog_1_method_15_code
def yX1_isWithin : MethodName := ⟨RX1, "isWithin", "(II)Z"⟩
abbrev cX1_areWithin : ByteArray := prog_1_method_16_code
def yX1_areWithin : MethodName := ⟨RX1, "areWithin", "(IIII)Z"⟩
abbrev cX1_fill : ByteArray := prog_1_method_17_code
def yX1_fill : MethodName := ⟨RX1, "fill", "([IIIII)V"⟩
abbrev cX1_partOf : ByteArray := prog_1_method_18_code
def yX1_partOf : MethodName := ⟨RX1, "partOf", "(IIJJJ)J"⟩
abbrev cX1_seekLeast : ByteArray := prog_1_method_19_code
def yX1_seekLeast : MethodName := ⟨RX1, "seekLeast", "()I"⟩
abbrev cX1_weighGoal : ByteArray := prog_1_method_20_code
def yX1_weighGoal : MethodName := ⟨RX1, "weighGoal", "()V"⟩
abbrev cX1_weighRanking : ByteArray := prog_1_method_21_code
def yX1_weighRanking : MethodName := ⟨RX1, "weighRanking", "()V"⟩
abbrev cX1_commonFactor : ByteArray := prog_1_method_22_code
def yX1_commonFactor : MethodName := ⟨RX1, "commonFactor", "(JJ)J"⟩
def RX2 : String := "RankFinderModel"
def TX2 : u_T := fun k => match k with
  | 0 => ("RankFinderModel", "n", "I", false)
  | 1 => ("RankFinderModel", "count", "I", false)
  | 2 => ("RankFinderModel", "numbers", "[I", true)
  | 3 => ("RankFinderModel", "top", "J", false)
  | 4 => ("RankFinderModel", "bottom", "J", false)
  | 5 => ("RankFinderModel", "answered", "I", false)
  | 6 => ("RankFinderModel", "rows", "[J", true)
  | 7 => ("RankFinderModel", "next", "[J", true)
  | 8 => ("RankFinderModel", "origins", "[I", true)
  | 9 => ("RankFinderModel", "nextOrigins", "[I", true)
  | 10 => ("RankFinderModel", "rowCount", "I", false)
  | 11 => ("RankFinderModel", "nextCount", "I", false)
  | 12 => ("RankFinderModel", "highs", "[J", true)
  | 13 => ("RankFinderModel", "lows", "[J", true)
  | 14 => ("RankFinderModel", "divisorHigh", "J", false)
  | 15 => ("RankFinderModel", "divisorLow", "J", false)
  | 16 => ("RankFinderModel", "foundTop", "J", false)
  | 17 => ("RankFinderModel", "foundBottom", "J", false)
  | _ => ("RankFinderModel", "wanted", "[I", true)
def tyX2 : Nat → FieldType := fun k => match k with
  | 0 => .int
  | 1 => .int
  | 2 => .array .int
  | 3 => .long
  | 4 => .long
  | 5 => .int
  | 6 => .array .long
  | 7 => .array .long
  | 8 => .array .int
  | 9 => .array .int
  | 10 => .int
  | 11 => .int
  | 12 => .array .long
  | 13 => .array .long
  | 14 => .long
  | 15 => .long
  | 16 => .long
  | 17 => .long
  | _ => .array .int
abbrev wsX20 : List Cond := u_ws RX2 TX2 19
theorem nmX2 : ∀ a, a < 19 → ∀ b, b < 19 → a ≠ b → (TX2 a).2.1 ≠ (TX2 b).2.1 := by decide +kernel
theorem tyX2_ok : ∀ k, k < 19 → parseFieldDescriptor (TX2 k).2.2.1 = some (tyX2 k) := by decide +kernel
abbrev cX2_init : ByteArray := prog_4_method_1_code
def yX2_init : MethodName := ⟨RX2, "<init>", "()V"⟩
abbrev cX2_begin : ByteArray := prog_4_method_3_code
def yX2_begin : MethodName := ⟨RX2, "begin", "(I)Z"⟩
abbrev cX2_isSmall : ByteArray := prog_4_method_4_code
def yX2_isSmall : MethodName := ⟨RX2, "isSmall", "(II)Z"⟩
abbrev cX2_rule : ByteArray := prog_4_method_5_code
def yX2_rule : MethodName := ⟨RX2, "rule", "(IIIIIII)I"⟩
abbrev cX2_drop : ByteArray := prog_4_method_6_code
def yX2_drop : MethodName := ⟨RX2, "drop", "(I)Z"⟩
abbrev cX2_rules : ByteArray := prog_4_method_7_code
def yX2_rules : MethodName := ⟨RX2, "rules", "()I"⟩
abbrev cX2_number : ByteArray := prog_4_method_8_code
def yX2_number : MethodName := ⟨RX2, "number", "(II)I"⟩
abbrev cX2_keeps : ByteArray := prog_4_method_9_code
def yX2_keeps : MethodName := ⟨RX2, "keeps", "(IIIIII)Z"⟩
abbrev cX2_empty : ByteArray := prog_4_method_10_code
def yX2_empty : MethodName := ⟨RX2, "empty", "()I"⟩
abbrev cX2_beginRows : ByteArray := prog_4_method_11_code
def yX2_beginRows : MethodName := ⟨RX2, "beginRows", "()V"⟩
abbrev cX2_size : ByteArray := prog_4_method_12_code
def yX2_size : MethodName := ⟨RX2, "size", "(I)I"⟩
abbrev cX2_areBeside : ByteArray := prog_4_method_13_code
def yX2_areBeside : MethodName := ⟨RX2, "areBeside", "(II)Z"⟩
abbrev cX2_isBelow : ByteArray := prog_4_method_14_code
def yX2_isBelow : MethodName := ⟨RX2, "isBelow", "(JJ)Z"⟩
abbrev cX2_high : ByteArray := prog_4_method_15_code
def yX2_high : MethodName := ⟨RX2, "high", "(JJ)J"⟩
abbrev cX2_make : ByteArray := prog_4_method_16_code
def yX2_make : MethodName := ⟨RX2, "make", "(IJJJJ)V"⟩
abbrev cX2_gather : ByteArray := prog_4_method_17_code
def yX2_gather : MethodName := ⟨RX2, "gather", "(JJ)V"⟩
abbrev cX2_share : ByteArray := prog_4_method_18_code
def yX2_share : MethodName := ⟨RX2, "share", "(JJ)J"⟩
abbrev cX2_combine : ByteArray := prog_4_method_19_code
def yX2_combine : MethodName := ⟨RX2, "combine", "(III)V"⟩
abbrev cX2_carry : ByteArray := prog_4_method_20_code
def yX2_carry : MethodName := ⟨RX2, "carry", "(I)V"⟩
abbrev cX2_eliminate : ByteArray := prog_4_method_21_code
def yX2_eliminate : MethodName := ⟨RX2, "eliminate", "(II)V"⟩
abbrev cX2_eliminateAll : ByteArray := prog_4_method_22_code
def yX2_eliminateAll : MethodName := ⟨RX2, "eliminateAll", "()V"⟩
abbrev cX2_isPossible : ByteArray := prog_4_method_23_code
def yX2_isPossible : MethodName := ⟨RX2, "isPossible", "()Z"⟩
abbrev cX2_hasTurn : ByteArray := prog_4_method_24_code
def yX2_hasTurn : MethodName := ⟨RX2, "hasTurn", "()Z"⟩
abbrev cX2_ranked : ByteArray := prog_4_method_25_code
def yX2_ranked : MethodName := ⟨RX2, "ranked", "()Z"⟩
abbrev cX2_search : ByteArray := prog_4_method_26_code
def yX2_search : MethodName := ⟨RX2, "search", "()I"⟩
abbrev cX2_isGreater : ByteArray := prog_4_method_27_code
def yX2_isGreater : MethodName := ⟨RX2, "isGreater", "(II)Z"⟩
abbrev cX2_ranks : ByteArray := prog_4_method_28_code
def yX2_ranks : MethodName := ⟨RX2, "ranks", "(IIII)Z"⟩
abbrev cX2_least : ByteArray := prog_4_method_29_code
def yX2_least : MethodName := ⟨RX2, "least", "(IIIIII)I"⟩
abbrev cX2_top : ByteArray := prog_4_method_30_code
def yX2_top : MethodName := ⟨RX2, "top", "()J"⟩
abbrev cX2_bottom : ByteArray := prog_4_method_31_code
def yX2_bottom : MethodName := ⟨RX2, "bottom", "()J"⟩
def RJ13 : String := "java/lang/Long"
def TJ13 : u_T := fun k => match k with
  | _ => ("", "", "", false)
def tyJ13 : Nat → FieldType := fun k => match k with
  | _ => .int
abbrev wsJ130 : List Cond := u_ws RJ13 TJ13 0
theorem nmJ13 : ∀ a, a < 0 → ∀ b, b < 0 → a ≠ b → (TJ13 a).2.1 ≠ (TJ13 b).2.1 := by decide +kernel
theorem tyJ13_ok : ∀ k, k < 0 → parseFieldDescriptor (TJ13 k).2.2.1 = some (tyJ13 k) := by decide +kernel
abbrev cJ13_bitCount_95d88 : ByteArray := prog_5_method_50_code
def yJ13_bitCount_95d88 : MethodName := ⟨RJ13, "bitCount", "(J)I"⟩
def RJ9 : String := "java/lang/Math"
def TJ9 : u_T := fun k => match k with
  | _ => ("", "", "", false)
def tyJ9 : Nat → FieldType := fun k => match k with
  | _ => .int
abbrev wsJ90 : List Cond := u_ws RJ9 TJ9 0
theorem nmJ9 : ∀ a, a < 0 → ∀ b, b < 0 → a ≠ b → (TJ9 a).2.1 ≠ (TJ9 b).2.1 := by decide +kernel
theorem tyJ9_ok : ∀ k, k < 0 → parseFieldDescriptor (TJ9 k).2.2.1 = some (tyJ9 k) := by decide +kernel
abbrev cJ9_abs_067f4 : ByteArray := prog_6_method_61_code
def yJ9_abs_067f4 : MethodName := ⟨RJ9, "abs", "(J)J"⟩
abbrev cJ9_max_f86c9 : ByteArray := prog_6_method_66_code
def yJ9_max_f86c9 : MethodName := ⟨RJ9, "max", "(JJ)J"⟩
abbrev cJ9_min_7cf53 : ByteArray := prog_6_method_69_code
def yJ9_min_7cf53 : MethodName := ⟨RJ9, "min", "(II)I"⟩
def RJ10 : String := "java/lang/System"
def TJ10 : u_T := fun k => match k with
  | _ => ("", "", "", false)
def tyJ10 : Nat → FieldType := fun k => match k with
  | _ => .int
abbrev wsJ100 : List Cond := u_ws RJ10 TJ10 0
theorem nmJ10 : ∀ a, a < 0 → ∀ b, b < 0 → a ≠ b → (TJ10 a).2.1 ≠ (TJ10 b).2.1 := by decide +kernel
theorem tyJ10_ok : ∀ k, k < 0 → parseFieldDescriptor (TJ10 k).2.2.1 = some (tyJ10 k) := by decide +kernel
def RJ7 : String := "java/util/Arrays"
def TJ7 : u_T := fun k => match k with
  | _ => ("", "", "", false)
def tyJ7 : Nat → FieldType := fun k => match k with
  | _ => .int
abbrev wsJ70 : List Cond := u_ws RJ7 TJ7 0
theorem nmJ7 : ∀ a, a < 0 → ∀ b, b < 0 → a ≠ b → (TJ7 a).2.1 ≠ (TJ7 b).2.1 := by decide +kernel
theorem tyJ7_ok : ∀ k, k < 0 → parseFieldDescriptor (TJ7 k).2.2.1 = some (tyJ7 k) := by decide +kernel
abbrev cJ7_fill_d0a16 : ByteArray := prog_8_method_101_code
def yJ7_fill_d0a16 : MethodName := ⟨RJ7, "fill", "([JJ)V"⟩
abbrev cJ7_fill_53178 : ByteArray := prog_8_method_103_code
def yJ7_fill_53178 : MethodName := ⟨RJ7, "fill", "([II)V"⟩
def RL : String := "RankFinderLaw"
abbrev cL_law : ByteArray := code
def yL_law : MethodName := ⟨RL, "law", "([I)Z"⟩
def wsX0_init : List Cond := .code yX0_init cX0_init 1 none :: ([.methodLink RX0 3 objectInit, .instanceMethod objectInit, .code objectInit ⟨#[0xb1]⟩ 1 none, .classLink RX0 11 "[[J", .arrayClass .long, .fieldLink RX0 13 "RankFinder$Weighing" "cell" "[[J", .arrayClass .int, .fieldLink RX0 16 "RankFinder$Weighing" "held" "[I", .fieldLink RX0 20 "RankFinder$Weighing" "equations" "I", .fieldLink RX0 24 "RankFinder$Weighing" "weights" "I", .fieldLink RX0 27 "RankFinder$Weighing" "unit" "J", .fieldLink RX0 31 "RankFinder$Weighing" "unitTwos" "I", .fieldLink RX0 34 "RankFinder$Weighing" "unitInverse" "J"] ++ wsX00)
def wsJ7_fill_d0a16 : List Cond := .code yJ7_fill_d0a16 cJ7_fill_d0a16 5 none :: ([])
def wsJ7_fill_53178 : List Cond := .code yJ7_fill_53178 cJ7_fill_53178 4 none :: ([])
def wsJ13_bitCount_95d88 : List Cond := .code yJ13_bitCount_95d88 cJ13_bitCount_95d88 2 (some .int) :: ([.constantLong RJ13 314 (6148914691236517205), .constantLong RJ13 316 (3689348814741910323), .constantLong RJ13 318 (1085102592571150095)])
def wsX0_takeUnit : List Cond := .code yX0_takeUnit cX0_takeUnit 8 none :: ([.fieldLink RX0 27 "RankFinder$Weighing" "unit" "J", .fieldLink RX0 31 "RankFinder$Weighing" "unitTwos" "I", .constantLong RX0 107 (2), .fieldLink RX0 34 "RankFinder$Weighing" "unitInverse" "J", .methodLink RX0 101 yJ13_bitCount_95d88, .static yJ13_bitCount_95d88, .initialized RJ13, .code yJ13_bitCount_95d88 cJ13_bitCount_95d88 2 (some .int), .constantLong RJ13 314 (6148914691236517205), .constantLong RJ13 316 (3689348814741910323), .constantLong RJ13 318 (1085102592571150095)] ++ wsX00)
def wsX0_clear_r1 : List Cond := [Cond.methodLink RX0 37 Lib.Math.min.name, Cond.static Lib.Math.min.name, Cond.initialized "java/lang/Math", Cond.code Lib.Math.min.name Lib.Math.min.code 2 (some .int), Cond.fieldLink RX0 20 "RankFinder$Weighing" "equations" "I", Cond.fieldLink RX0 24 "RankFinder$Weighing" "weights" "I", Cond.fieldLink RX0 13 "RankFinder$Weighing" "cell" "[[J", Cond.fieldLink RX0 16 "RankFinder$Weighing" "held" "[I", Cond.methodLink RX0 43 yJ7_fill_d0a16, Cond.static yJ7_fill_d0a16, Cond.initialized RJ7, Cond.code yJ7_fill_d0a16 cJ7_fill_d0a16 5 none, Cond.methodLink RX0 49 yJ7_fill_53178, Cond.static yJ7_fill_53178, Cond.code yJ7_fill_53178 cJ7_fill_53178 4 none, Cond.methodLink RX0 52 yX0_takeUnit, Cond.instanceMethod yX0_takeUnit, Cond.selects RX0 yX0_takeUnit yX0_takeUnit, Cond.initialized RX0, Cond.code yX0_takeUnit cX0_takeUnit 8 none, Cond.fieldLink RX0 27 "RankFinder$Weighing" "unit" "J", Cond.fieldLink RX0 31 "RankFinder$Weighing" "unitTwos" "I", Cond.constantLong RX0 107 (2), Cond.fieldLink RX0 34 "RankFinder$Weighing" "unitInverse" "J"]
def wsX0_clear_r2 : List Cond := [Cond.methodLink RX0 101 yJ13_bitCount_95d88, Cond.static yJ13_bitCount_95d88, Cond.initialized RJ13, Cond.code yJ13_bitCount_95d88 cJ13_bitCount_95d88 2 (some .int), Cond.constantLong RJ13 314 (6148914691236517205), Cond.constantLong RJ13 316 (3689348814741910323), Cond.constantLong RJ13 318 (1085102592571150095)]
def wsX0_clear : List Cond := .code yX0_clear cX0_clear 4 none :: ((wsX0_clear_r1 ++ wsX0_clear_r2) ++ wsX00)
def wsX0_put : List Cond := .code yX0_put cX0_put 4 none :: ([.fieldLink RX0 13 "RankFinder$Weighing" "cell" "[[J"] ++ wsX00)
def wsX0_putRightSide : List Cond := .code yX0_putRightSide cX0_putRightSide 3 none :: ([.fieldLink RX0 13 "RankFinder$Weighing" "cell" "[[J", .fieldLink RX0 24 "RankFinder$Weighing" "weights" "I"] ++ wsX00)
def wsX0_putCost : List Cond := .code yX0_putCost cX0_putCost 3 none :: ([.fieldLink RX0 13 "RankFinder$Weighing" "cell" "[[J", .fieldLink RX0 20 "RankFinder$Weighing" "equations" "I"] ++ wsX00)
def wsX0_leastTop : List Cond := .code yX0_leastTop cX0_leastTop 1 (some .long) :: ([.fieldLink RX0 13 "RankFinder$Weighing" "cell" "[[J", .fieldLink RX0 20 "RankFinder$Weighing" "equations" "I", .fieldLink RX0 24 "RankFinder$Weighing" "weights" "I"] ++ wsX00)
def wsX0_leastBottom : List Cond := .code yX0_leastBottom cX0_leastBottom 1 (some .long) :: ([.fieldLink RX0 27 "RankFinder$Weighing" "unit" "J"] ++ wsX00)
def wsX0_firstColumnOf : List Cond := .code yX0_firstColumnOf cX0_firstColumnOf 3 (some .int) :: ([.fieldLink RX0 24 "RankFinder$Weighing" "weights" "I", .fieldLink RX0 13 "RankFinder$Weighing" "cell" "[[J"] ++ wsX00)
def wsX0_negate : List Cond := .code yX0_negate cX0_negate 3 none :: ([.fieldLink RX0 24 "RankFinder$Weighing" "weights" "I", .fieldLink RX0 13 "RankFinder$Weighing" "cell" "[[J"] ++ wsX00)
def wsX0_highProduct : List Cond := .code yX0_highProduct cX0_highProduct 16 (some .long) :: ([.constantLong RX0 115 (4294967295)])
def wsX0_differenceByUnit : List Cond := .code yX0_differenceByUnit cX0_differenceByUnit 19 (some .long) :: ([.constantLong RX0 113 (-9223372036854775808), .fieldLink RX0 31 "RankFinder$Weighing" "unitTwos" "I", .fieldLink RX0 34 "RankFinder$Weighing" "unitInverse" "J", .methodLink RX0 109 yX0_highProduct, .static yX0_highProduct, .initialized RX0, .code yX0_highProduct cX0_highProduct 16 (some .long), .constantLong RX0 115 (4294967295)] ++ wsX00)
def wsX0_exchange_r1 : List Cond := [Cond.fieldLink RX0 13 "RankFinder$Weighing" "cell" "[[J", Cond.fieldLink RX0 20 "RankFinder$Weighing" "equations" "I", Cond.fieldLink RX0 24 "RankFinder$Weighing" "weights" "I", Cond.fieldLink RX0 16 "RankFinder$Weighing" "held" "[I", Cond.methodLink RX0 93 yX0_negate, Cond.instanceMethod yX0_negate, Cond.selects RX0 yX0_negate yX0_negate, Cond.initialized RX0, Cond.code yX0_negate cX0_negate 3 none, Cond.methodLink RX0 97 yX0_differenceByUnit, Cond.instanceMethod yX0_differenceByUnit, Cond.selects RX0 yX0_differenceByUnit yX0_differenceByUnit, Cond.code yX0_differenceByUnit cX0_differenceByUnit 19 (some .long), Cond.constantLong RX0 113 (-9223372036854775808), Cond.fieldLink RX0 31 "RankFinder$Weighing" "unitTwos" "I", Cond.fieldLink RX0 34 "RankFinder$Weighing" "unitInverse" "J", Cond.methodLink RX0 109 yX0_highProduct, Cond.static yX0_highProduct, Cond.code yX0_highProduct cX0_highProduct 16 (some .long), Cond.constantLong RX0 115 (4294967295), Cond.methodLink RX0 52 yX0_takeUnit, Cond.instanceMethod yX0_takeUnit, Cond.selects RX0 yX0_takeUnit yX0_takeUnit, Cond.code yX0_takeUnit cX0_takeUnit 8 none]
def wsX0_exchange_r2 : List Cond := [Cond.fieldLink RX0 27 "RankFinder$Weighing" "unit" "J", Cond.constantLong RX0 107 (2), Cond.methodLink RX0 101 yJ13_bitCount_95d88, Cond.static yJ13_bitCount_95d88, Cond.initialized RJ13, Cond.code yJ13_bitCount_95d88 cJ13_bitCount_95d88 2 (some .int), Cond.constantLong RJ13 314 (6148914691236517205), Cond.constantLong RJ13 316 (3689348814741910323), Cond.constantLong RJ13 318 (1085102592571150095)]
def wsX0_exchange : List Cond := .code yX0_exchange cX0_exchange 9 none :: ((wsX0_exchange_r1 ++ wsX0_exchange_r2) ++ wsX00)
def wsX0_holdColumns_r1 : List Cond := [Cond.fieldLink RX0 20 "RankFinder$Weighing" "equations" "I", Cond.methodLink RX0 82 yX0_firstColumnOf, Cond.instanceMethod yX0_firstColumnOf, Cond.selects RX0 yX0_firstColumnOf yX0_firstColumnOf, Cond.initialized RX0, Cond.code yX0_firstColumnOf cX0_firstColumnOf 3 (some .int), Cond.fieldLink RX0 24 "RankFinder$Weighing" "weights" "I", Cond.fieldLink RX0 13 "RankFinder$Weighing" "cell" "[[J", Cond.methodLink RX0 68 yX0_exchange, Cond.instanceMethod yX0_exchange, Cond.selects RX0 yX0_exchange yX0_exchange, Cond.code yX0_exchange cX0_exchange 9 none, Cond.fieldLink RX0 16 "RankFinder$Weighing" "held" "[I", Cond.methodLink RX0 93 yX0_negate, Cond.instanceMethod yX0_negate, Cond.selects RX0 yX0_negate yX0_negate, Cond.code yX0_negate cX0_negate 3 none, Cond.methodLink RX0 97 yX0_differenceByUnit, Cond.instanceMethod yX0_differenceByUnit, Cond.selects RX0 yX0_differenceByUnit yX0_differenceByUnit, Cond.code yX0_differenceByUnit cX0_differenceByUnit 19 (some .long), Cond.constantLong RX0 113 (-9223372036854775808), Cond.fieldLink RX0 31 "RankFinder$Weighing" "unitTwos" "I", Cond.fieldLink RX0 34 "RankFinder$Weighing" "unitInverse" "J"]
def wsX0_holdColumns_r2 : List Cond := [Cond.methodLink RX0 109 yX0_highProduct, Cond.static yX0_highProduct, Cond.code yX0_highProduct cX0_highProduct 16 (some .long), Cond.constantLong RX0 115 (4294967295), Cond.methodLink RX0 52 yX0_takeUnit, Cond.instanceMethod yX0_takeUnit, Cond.selects RX0 yX0_takeUnit yX0_takeUnit, Cond.code yX0_takeUnit cX0_takeUnit 8 none, Cond.fieldLink RX0 27 "RankFinder$Weighing" "unit" "J", Cond.constantLong RX0 107 (2), Cond.methodLink RX0 101 yJ13_bitCount_95d88, Cond.static yJ13_bitCount_95d88, Cond.initialized RJ13, Cond.code yJ13_bitCount_95d88 cJ13_bitCount_95d88 2 (some .int), Cond.constantLong RJ13 314 (6148914691236517205), Cond.constantLong RJ13 316 (3689348814741910323), Cond.constantLong RJ13 318 (1085102592571150095)]
def wsX0_holdColumns : List Cond := .code yX0_holdColumns cX0_holdColumns 3 none :: ((wsX0_holdColumns_r1 ++ wsX0_holdColumns_r2) ++ wsX00)
def wsX0_columnThatSaves : List Cond := .code yX0_columnThatSaves cX0_columnThatSaves 2 (some .int) :: ([.fieldLink RX0 24 "RankFinder$Weighing" "weights" "I", .fieldLink RX0 13 "RankFinder$Weighing" "cell" "[[J", .fieldLink RX0 20 "RankFinder$Weighing" "equations" "I"] ++ wsX00)
def wsX0_holdsLess : List Cond := .code yX0_holdsLess cX0_holdsLess 3 (some .boolean) :: ([.fieldLink RX0 16 "RankFinder$Weighing" "held" "[I"] ++ wsX00)
def wsX0_rowThatLimits : List Cond := .code yX0_rowThatLimits cX0_rowThatLimits 4 (some .int) :: ([.fieldLink RX0 20 "RankFinder$Weighing" "equations" "I", .fieldLink RX0 13 "RankFinder$Weighing" "cell" "[[J", .methodLink RX0 85 yX0_holdsLess, .instanceMethod yX0_holdsLess, .selects RX0 yX0_holdsLess yX0_holdsLess, .initialized RX0, .code yX0_holdsLess cX0_holdsLess 3 (some .boolean), .fieldLink RX0 16 "RankFinder$Weighing" "held" "[I"] ++ wsX00)
def wsX0_fallsForEver_r1 : List Cond := [Cond.constant RX0 59 (1000000), Cond.methodLink RX0 56 yX0_holdColumns, Cond.instanceMethod yX0_holdColumns, Cond.selects RX0 yX0_holdColumns yX0_holdColumns, Cond.initialized RX0, Cond.code yX0_holdColumns cX0_holdColumns 3 none, Cond.fieldLink RX0 20 "RankFinder$Weighing" "equations" "I", Cond.methodLink RX0 82 yX0_firstColumnOf, Cond.instanceMethod yX0_firstColumnOf, Cond.selects RX0 yX0_firstColumnOf yX0_firstColumnOf, Cond.code yX0_firstColumnOf cX0_firstColumnOf 3 (some .int), Cond.fieldLink RX0 24 "RankFinder$Weighing" "weights" "I", Cond.fieldLink RX0 13 "RankFinder$Weighing" "cell" "[[J", Cond.methodLink RX0 68 yX0_exchange, Cond.instanceMethod yX0_exchange, Cond.selects RX0 yX0_exchange yX0_exchange, Cond.code yX0_exchange cX0_exchange 9 none, Cond.fieldLink RX0 16 "RankFinder$Weighing" "held" "[I", Cond.methodLink RX0 93 yX0_negate, Cond.instanceMethod yX0_negate, Cond.selects RX0 yX0_negate yX0_negate, Cond.code yX0_negate cX0_negate 3 none, Cond.methodLink RX0 97 yX0_differenceByUnit, Cond.instanceMethod yX0_differenceByUnit]
def wsX0_fallsForEver_r2 : List Cond := [Cond.selects RX0 yX0_differenceByUnit yX0_differenceByUnit, Cond.code yX0_differenceByUnit cX0_differenceByUnit 19 (some .long), Cond.constantLong RX0 113 (-9223372036854775808), Cond.fieldLink RX0 31 "RankFinder$Weighing" "unitTwos" "I", Cond.fieldLink RX0 34 "RankFinder$Weighing" "unitInverse" "J", Cond.methodLink RX0 109 yX0_highProduct, Cond.static yX0_highProduct, Cond.code yX0_highProduct cX0_highProduct 16 (some .long), Cond.constantLong RX0 115 (4294967295), Cond.methodLink RX0 52 yX0_takeUnit, Cond.instanceMethod yX0_takeUnit, Cond.selects RX0 yX0_takeUnit yX0_takeUnit, Cond.code yX0_takeUnit cX0_takeUnit 8 none, Cond.fieldLink RX0 27 "RankFinder$Weighing" "unit" "J", Cond.constantLong RX0 107 (2), Cond.methodLink RX0 101 yJ13_bitCount_95d88, Cond.static yJ13_bitCount_95d88, Cond.initialized RJ13, Cond.code yJ13_bitCount_95d88 cJ13_bitCount_95d88 2 (some .int), Cond.constantLong RJ13 314 (6148914691236517205), Cond.constantLong RJ13 316 (3689348814741910323), Cond.constantLong RJ13 318 (1085102592571150095), Cond.methodLink RX0 60 yX0_columnThatSaves, Cond.instanceMethod yX0_columnThatSaves]
def wsX0_fallsForEver_r3 : List Cond := [Cond.selects RX0 yX0_columnThatSaves yX0_columnThatSaves, Cond.code yX0_columnThatSaves cX0_columnThatSaves 2 (some .int), Cond.methodLink RX0 64 yX0_rowThatLimits, Cond.instanceMethod yX0_rowThatLimits, Cond.selects RX0 yX0_rowThatLimits yX0_rowThatLimits, Cond.code yX0_rowThatLimits cX0_rowThatLimits 4 (some .int), Cond.methodLink RX0 85 yX0_holdsLess, Cond.instanceMethod yX0_holdsLess, Cond.selects RX0 yX0_holdsLess yX0_holdsLess, Cond.code yX0_holdsLess cX0_holdsLess 3 (some .boolean)]
def wsX0_fallsForEver : List Cond := .code yX0_fallsForEver cX0_fallsForEver 4 (some .boolean) :: ((wsX0_fallsForEver_r1 ++ (wsX0_fallsForEver_r2 ++ wsX0_fallsForEver_r3)) ++ wsX00)
def wsX0_hasBareContradiction : List Cond := .code yX0_hasBareContradiction cX0_hasBareContradiction 2 (some .boolean) :: ([.fieldLink RX0 20 "RankFinder$Weighing" "equations" "I", .fieldLink RX0 16 "RankFinder$Weighing" "held" "[I", .fieldLink RX0 13 "RankFinder$Weighing" "cell" "[[J", .fieldLink RX0 24 "RankFinder$Weighing" "weights" "I"] ++ wsX00)
def wsX0_rowBelowZero : List Cond := .code yX0_rowBelowZero cX0_rowBelowZero 3 (some .int) :: ([.fieldLink RX0 20 "RankFinder$Weighing" "equations" "I", .fieldLink RX0 13 "RankFinder$Weighing" "cell" "[[J", .fieldLink RX0 24 "RankFinder$Weighing" "weights" "I", .methodLink RX0 85 yX0_holdsLess, .instanceMethod yX0_holdsLess, .selects RX0 yX0_holdsLess yX0_holdsLess, .initialized RX0, .code yX0_holdsLess cX0_holdsLess 3 (some .boolean), .fieldLink RX0 16 "RankFinder$Weighing" "held" "[I"] ++ wsX00)
def wsX0_isCheaper : List Cond := .code yX0_isCheaper cX0_isCheaper 5 (some .boolean) :: ([.fieldLink RX0 13 "RankFinder$Weighing" "cell" "[[J", .fieldLink RX0 20 "RankFinder$Weighing" "equations" "I"] ++ wsX00)
def wsX0_columnThatLifts : List Cond := .code yX0_columnThatLifts cX0_columnThatLifts 4 (some .int) :: ([.fieldLink RX0 24 "RankFinder$Weighing" "weights" "I", .fieldLink RX0 13 "RankFinder$Weighing" "cell" "[[J", .methodLink RX0 89 yX0_isCheaper, .instanceMethod yX0_isCheaper, .selects RX0 yX0_isCheaper yX0_isCheaper, .initialized RX0, .code yX0_isCheaper cX0_isCheaper 5 (some .boolean), .fieldLink RX0 20 "RankFinder$Weighing" "equations" "I"] ++ wsX00)
def wsX0_reachesRightSides_r1 : List Cond := [Cond.constant RX0 59 (1000000), Cond.methodLink RX0 72 yX0_hasBareContradiction, Cond.instanceMethod yX0_hasBareContradiction, Cond.selects RX0 yX0_hasBareContradiction yX0_hasBareContradiction, Cond.initialized RX0, Cond.code yX0_hasBareContradiction cX0_hasBareContradiction 2 (some .boolean), Cond.fieldLink RX0 20 "RankFinder$Weighing" "equations" "I", Cond.fieldLink RX0 16 "RankFinder$Weighing" "held" "[I", Cond.fieldLink RX0 13 "RankFinder$Weighing" "cell" "[[J", Cond.fieldLink RX0 24 "RankFinder$Weighing" "weights" "I", Cond.methodLink RX0 76 yX0_rowBelowZero, Cond.instanceMethod yX0_rowBelowZero, Cond.selects RX0 yX0_rowBelowZero yX0_rowBelowZero, Cond.code yX0_rowBelowZero cX0_rowBelowZero 3 (some .int), Cond.methodLink RX0 85 yX0_holdsLess, Cond.instanceMethod yX0_holdsLess, Cond.selects RX0 yX0_holdsLess yX0_holdsLess, Cond.code yX0_holdsLess cX0_holdsLess 3 (some .boolean), Cond.methodLink RX0 79 yX0_columnThatLifts, Cond.instanceMethod yX0_columnThatLifts, Cond.selects RX0 yX0_columnThatLifts yX0_columnThatLifts, Cond.code yX0_columnThatLifts cX0_columnThatLifts 4 (some .int), Cond.methodLink RX0 89 yX0_isCheaper, Cond.instanceMethod yX0_isCheaper]
def wsX0_reachesRightSides_r2 : List Cond := [Cond.selects RX0 yX0_isCheaper yX0_isCheaper, Cond.code yX0_isCheaper cX0_isCheaper 5 (some .boolean), Cond.methodLink RX0 68 yX0_exchange, Cond.instanceMethod yX0_exchange, Cond.selects RX0 yX0_exchange yX0_exchange, Cond.code yX0_exchange cX0_exchange 9 none, Cond.methodLink RX0 93 yX0_negate, Cond.instanceMethod yX0_negate, Cond.selects RX0 yX0_negate yX0_negate, Cond.code yX0_negate cX0_negate 3 none, Cond.methodLink RX0 97 yX0_differenceByUnit, Cond.instanceMethod yX0_differenceByUnit, Cond.selects RX0 yX0_differenceByUnit yX0_differenceByUnit, Cond.code yX0_differenceByUnit cX0_differenceByUnit 19 (some .long), Cond.constantLong RX0 113 (-9223372036854775808), Cond.fieldLink RX0 31 "RankFinder$Weighing" "unitTwos" "I", Cond.fieldLink RX0 34 "RankFinder$Weighing" "unitInverse" "J", Cond.methodLink RX0 109 yX0_highProduct, Cond.static yX0_highProduct, Cond.code yX0_highProduct cX0_highProduct 16 (some .long), Cond.constantLong RX0 115 (4294967295), Cond.methodLink RX0 52 yX0_takeUnit, Cond.instanceMethod yX0_takeUnit, Cond.selects RX0 yX0_takeUnit yX0_takeUnit]
def wsX0_reachesRightSides_r3 : List Cond := [Cond.code yX0_takeUnit cX0_takeUnit 8 none, Cond.fieldLink RX0 27 "RankFinder$Weighing" "unit" "J", Cond.constantLong RX0 107 (2), Cond.methodLink RX0 101 yJ13_bitCount_95d88, Cond.static yJ13_bitCount_95d88, Cond.initialized RJ13, Cond.code yJ13_bitCount_95d88 cJ13_bitCount_95d88 2 (some .int), Cond.constantLong RJ13 314 (6148914691236517205), Cond.constantLong RJ13 316 (3689348814741910323), Cond.constantLong RJ13 318 (1085102592571150095)]
def wsX0_reachesRightSides : List Cond := .code yX0_reachesRightSides cX0_reachesRightSides 4 (some .boolean) :: ((wsX0_reachesRightSides_r1 ++ (wsX0_reachesRightSides_r2 ++ wsX0_reachesRightSides_r3)) ++ wsX00)
def wsX1_init_r1 : List Cond := [Cond.methodLink RX1 1 objectInit, Cond.instanceMethod objectInit, Cond.code objectInit ⟨#[0xb1]⟩ 1 none, Cond.classLink RX1 9 "[[I", Cond.arrayClass .int, Cond.fieldLink RX1 11 "RankFinder" "told" "[[I", Cond.fieldLink RX1 14 "RankFinder" "goal" "[I", Cond.classLink RX1 18 RX0, Cond.instantiable RX0 7, Cond.initialized RX0, Cond.fieldLink RX1 21 "RankFinder" "weighing" "LRankFinder$Weighing;", Cond.fieldLink RX1 25 "RankFinder" "variables" "I", Cond.fieldLink RX1 29 "RankFinder" "count" "I", Cond.fieldLink RX1 32 "RankFinder" "foundTop" "J", Cond.fieldLink RX1 36 "RankFinder" "foundBottom" "J", Cond.methodLink RX1 20 yX0_init, Cond.instanceMethod yX0_init, Cond.code yX0_init cX0_init 1 none, Cond.methodLink RX0 3 objectInit, Cond.classLink RX0 11 "[[J", Cond.arrayClass .long, Cond.fieldLink RX0 13 "RankFinder$Weighing" "cell" "[[J", Cond.fieldLink RX0 16 "RankFinder$Weighing" "held" "[I", Cond.fieldLink RX0 20 "RankFinder$Weighing" "equations" "I"]
def wsX1_init_r2 : List Cond := [Cond.fieldLink RX0 24 "RankFinder$Weighing" "weights" "I", Cond.fieldLink RX0 27 "RankFinder$Weighing" "unit" "J", Cond.fieldLink RX0 31 "RankFinder$Weighing" "unitTwos" "I", Cond.fieldLink RX0 34 "RankFinder$Weighing" "unitInverse" "J"]
def wsX1_init : List Cond := .code yX1_init cX1_init 1 none :: ((wsX1_init_r1 ++ wsX1_init_r2) ++ wsX10 ++ wsX00)
def wsX1_begin : List Cond := .code yX1_begin cX1_begin 2 (some .boolean) :: ([.fieldLink RX1 25 "RankFinder" "variables" "I", .fieldLink RX1 29 "RankFinder" "count" "I"] ++ wsX10)
def wsX1_isWithin : List Cond := .code yX1_isWithin cX1_isWithin 2 (some .boolean) :: ([])
def wsX1_areWithin : List Cond := .code yX1_areWithin cX1_areWithin 4 (some .boolean) :: ([.methodLink RX1 43 yX1_isWithin, .static yX1_isWithin, .initialized RX1, .code yX1_isWithin cX1_isWithin 2 (some .boolean)])
def wsX1_fill : List Cond := .code yX1_fill cX1_fill 5 none :: ([])
def wsX1_rule : List Cond := .code yX1_rule cX1_rule 9 (some .int) :: ([.fieldLink RX1 29 "RankFinder" "count" "I", .fieldLink RX1 11 "RankFinder" "told" "[[I", .methodLink RX1 39 yX1_areWithin, .static yX1_areWithin, .initialized RX1, .code yX1_areWithin cX1_areWithin 4 (some .boolean), .methodLink RX1 43 yX1_isWithin, .static yX1_isWithin, .code yX1_isWithin cX1_isWithin 2 (some .boolean), .methodLink RX1 47 yX1_fill, .static yX1_fill, .code yX1_fill cX1_fill 5 none] ++ wsX10)
def wsX1_isRule : List Cond := .code yX1_isRule cX1_isRule 2 (some .boolean) :: ([.fieldLink RX1 29 "RankFinder" "count" "I"] ++ wsX10)
def wsX1_drop : List Cond := .code yX1_drop cX1_drop 3 (some .boolean) :: ([.fieldLink RX1 29 "RankFinder" "count" "I", .fieldLink RX1 11 "RankFinder" "told" "[[I", .methodLink RX1 55 arraycopyName, .native arraycopyName, .static arraycopyName, .initialized "java/lang/System", .methodLink RX1 51 yX1_isRule, .instanceMethod yX1_isRule, .selects RX1 yX1_isRule yX1_isRule, .initialized RX1, .code yX1_isRule cX1_isRule 2 (some .boolean)] ++ wsX10)
def wsX1_rules : List Cond := .code yX1_rules cX1_rules 1 (some .int) :: ([.fieldLink RX1 29 "RankFinder" "count" "I"] ++ wsX10)
def wsX1_number : List Cond := .code yX1_number cX1_number 3 (some .int) :: ([.fieldLink RX1 11 "RankFinder" "told" "[[I", .methodLink RX1 51 yX1_isRule, .instanceMethod yX1_isRule, .selects RX1 yX1_isRule yX1_isRule, .initialized RX1, .code yX1_isRule cX1_isRule 2 (some .boolean), .fieldLink RX1 29 "RankFinder" "count" "I"] ++ wsX10)
def wsX1_partOf : List Cond := .code yX1_partOf cX1_partOf 12 (some .long) :: ([.fieldLink RX1 11 "RankFinder" "told" "[[I", .fieldLink RX1 25 "RankFinder" "variables" "I"] ++ wsX10)
def wsX1_keeps : List Cond := .code yX1_keeps cX1_keeps 10 (some .boolean) :: ([.fieldLink RX1 29 "RankFinder" "count" "I", .fieldLink RX1 11 "RankFinder" "told" "[[I", .methodLink RX1 61 yX1_partOf, .instanceMethod yX1_partOf, .selects RX1 yX1_partOf yX1_partOf, .initialized RX1, .code yX1_partOf cX1_partOf 12 (some .long), .fieldLink RX1 25 "RankFinder" "variables" "I"] ++ wsX10)
def wsX1_weighGoal_r1 : List Cond := [Cond.fieldLink RX1 21 "RankFinder" "weighing" "LRankFinder$Weighing;", Cond.fieldLink RX1 25 "RankFinder" "variables" "I", Cond.fieldLink RX1 29 "RankFinder" "count" "I", Cond.fieldLink RX1 11 "RankFinder" "told" "[[I", Cond.fieldLink RX1 14 "RankFinder" "goal" "[I", Cond.methodLink RX1 98 yX0_clear, Cond.instanceMethod yX0_clear, Cond.selects RX0 yX0_clear yX0_clear, Cond.initialized RX0, Cond.code yX0_clear cX0_clear 4 none, Cond.methodLink RX0 37 Lib.Math.min.name, Cond.static Lib.Math.min.name, Cond.initialized "java/lang/Math", Cond.code Lib.Math.min.name Lib.Math.min.code 2 (some .int), Cond.fieldLink RX0 20 "RankFinder$Weighing" "equations" "I", Cond.fieldLink RX0 24 "RankFinder$Weighing" "weights" "I", Cond.fieldLink RX0 13 "RankFinder$Weighing" "cell" "[[J", Cond.fieldLink RX0 16 "RankFinder$Weighing" "held" "[I", Cond.methodLink RX0 43 yJ7_fill_d0a16, Cond.static yJ7_fill_d0a16, Cond.initialized RJ7, Cond.code yJ7_fill_d0a16 cJ7_fill_d0a16 5 none, Cond.methodLink RX0 49 yJ7_fill_53178, Cond.static yJ7_fill_53178]
def wsX1_weighGoal_r2 : List Cond := [Cond.code yJ7_fill_53178 cJ7_fill_53178 4 none, Cond.methodLink RX0 52 yX0_takeUnit, Cond.instanceMethod yX0_takeUnit, Cond.selects RX0 yX0_takeUnit yX0_takeUnit, Cond.code yX0_takeUnit cX0_takeUnit 8 none, Cond.fieldLink RX0 27 "RankFinder$Weighing" "unit" "J", Cond.fieldLink RX0 31 "RankFinder$Weighing" "unitTwos" "I", Cond.constantLong RX0 107 (2), Cond.fieldLink RX0 34 "RankFinder$Weighing" "unitInverse" "J", Cond.methodLink RX0 101 yJ13_bitCount_95d88, Cond.static yJ13_bitCount_95d88, Cond.initialized RJ13, Cond.code yJ13_bitCount_95d88 cJ13_bitCount_95d88 2 (some .int), Cond.constantLong RJ13 314 (6148914691236517205), Cond.constantLong RJ13 316 (3689348814741910323), Cond.constantLong RJ13 318 (1085102592571150095), Cond.methodLink RX1 102 yX0_put, Cond.instanceMethod yX0_put, Cond.selects RX0 yX0_put yX0_put, Cond.code yX0_put cX0_put 4 none, Cond.methodLink RX1 106 yX0_putRightSide, Cond.instanceMethod yX0_putRightSide, Cond.selects RX0 yX0_putRightSide yX0_putRightSide, Cond.code yX0_putRightSide cX0_putRightSide 3 none]
def wsX1_weighGoal_r3 : List Cond := [Cond.methodLink RX1 109 yX0_putCost, Cond.instanceMethod yX0_putCost, Cond.selects RX0 yX0_putCost yX0_putCost, Cond.code yX0_putCost cX0_putCost 3 none]
def wsX1_weighGoal : List Cond := .code yX1_weighGoal cX1_weighGoal 4 none :: ((wsX1_weighGoal_r1 ++ (wsX1_weighGoal_r2 ++ wsX1_weighGoal_r3)) ++ wsX10 ++ wsX00)
def wsX1_seekLeast_r1 : List Cond := [Cond.fieldLink RX1 21 "RankFinder" "weighing" "LRankFinder$Weighing;", Cond.methodLink RX1 92 yX1_weighGoal, Cond.instanceMethod yX1_weighGoal, Cond.selects RX1 yX1_weighGoal yX1_weighGoal, Cond.initialized RX1, Cond.code yX1_weighGoal cX1_weighGoal 4 none, Cond.fieldLink RX1 25 "RankFinder" "variables" "I", Cond.fieldLink RX1 29 "RankFinder" "count" "I", Cond.fieldLink RX1 11 "RankFinder" "told" "[[I", Cond.fieldLink RX1 14 "RankFinder" "goal" "[I", Cond.methodLink RX1 98 yX0_clear, Cond.instanceMethod yX0_clear, Cond.selects RX0 yX0_clear yX0_clear, Cond.initialized RX0, Cond.code yX0_clear cX0_clear 4 none, Cond.methodLink RX0 37 Lib.Math.min.name, Cond.static Lib.Math.min.name, Cond.initialized "java/lang/Math", Cond.code Lib.Math.min.name Lib.Math.min.code 2 (some .int), Cond.fieldLink RX0 20 "RankFinder$Weighing" "equations" "I", Cond.fieldLink RX0 24 "RankFinder$Weighing" "weights" "I", Cond.fieldLink RX0 13 "RankFinder$Weighing" "cell" "[[J", Cond.fieldLink RX0 16 "RankFinder$Weighing" "held" "[I", Cond.methodLink RX0 43 yJ7_fill_d0a16]
def wsX1_seekLeast_r2 : List Cond := [Cond.static yJ7_fill_d0a16, Cond.initialized RJ7, Cond.code yJ7_fill_d0a16 cJ7_fill_d0a16 5 none, Cond.methodLink RX0 49 yJ7_fill_53178, Cond.static yJ7_fill_53178, Cond.code yJ7_fill_53178 cJ7_fill_53178 4 none, Cond.methodLink RX0 52 yX0_takeUnit, Cond.instanceMethod yX0_takeUnit, Cond.selects RX0 yX0_takeUnit yX0_takeUnit, Cond.code yX0_takeUnit cX0_takeUnit 8 none, Cond.fieldLink RX0 27 "RankFinder$Weighing" "unit" "J", Cond.fieldLink RX0 31 "RankFinder$Weighing" "unitTwos" "I", Cond.constantLong RX0 107 (2), Cond.fieldLink RX0 34 "RankFinder$Weighing" "unitInverse" "J", Cond.methodLink RX0 101 yJ13_bitCount_95d88, Cond.static yJ13_bitCount_95d88, Cond.initialized RJ13, Cond.code yJ13_bitCount_95d88 cJ13_bitCount_95d88 2 (some .int), Cond.constantLong RJ13 314 (6148914691236517205), Cond.constantLong RJ13 316 (3689348814741910323), Cond.constantLong RJ13 318 (1085102592571150095), Cond.methodLink RX1 102 yX0_put, Cond.instanceMethod yX0_put, Cond.selects RX0 yX0_put yX0_put]
def wsX1_seekLeast_r3 : List Cond := [Cond.code yX0_put cX0_put 4 none, Cond.methodLink RX1 106 yX0_putRightSide, Cond.instanceMethod yX0_putRightSide, Cond.selects RX0 yX0_putRightSide yX0_putRightSide, Cond.code yX0_putRightSide cX0_putRightSide 3 none, Cond.methodLink RX1 109 yX0_putCost, Cond.instanceMethod yX0_putCost, Cond.selects RX0 yX0_putCost yX0_putCost, Cond.code yX0_putCost cX0_putCost 3 none, Cond.methodLink RX1 77 yX0_fallsForEver, Cond.instanceMethod yX0_fallsForEver, Cond.selects RX0 yX0_fallsForEver yX0_fallsForEver, Cond.code yX0_fallsForEver cX0_fallsForEver 4 (some .boolean), Cond.constant RX0 59 (1000000), Cond.methodLink RX0 56 yX0_holdColumns, Cond.instanceMethod yX0_holdColumns, Cond.selects RX0 yX0_holdColumns yX0_holdColumns, Cond.code yX0_holdColumns cX0_holdColumns 3 none, Cond.methodLink RX0 82 yX0_firstColumnOf, Cond.instanceMethod yX0_firstColumnOf, Cond.selects RX0 yX0_firstColumnOf yX0_firstColumnOf, Cond.code yX0_firstColumnOf cX0_firstColumnOf 3 (some .int), Cond.methodLink RX0 68 yX0_exchange, Cond.instanceMethod yX0_exchange]
def wsX1_seekLeast_r4 : List Cond := [Cond.selects RX0 yX0_exchange yX0_exchange, Cond.code yX0_exchange cX0_exchange 9 none, Cond.methodLink RX0 93 yX0_negate, Cond.instanceMethod yX0_negate, Cond.selects RX0 yX0_negate yX0_negate, Cond.code yX0_negate cX0_negate 3 none, Cond.methodLink RX0 97 yX0_differenceByUnit, Cond.instanceMethod yX0_differenceByUnit, Cond.selects RX0 yX0_differenceByUnit yX0_differenceByUnit, Cond.code yX0_differenceByUnit cX0_differenceByUnit 19 (some .long), Cond.constantLong RX0 113 (-9223372036854775808), Cond.methodLink RX0 109 yX0_highProduct, Cond.static yX0_highProduct, Cond.code yX0_highProduct cX0_highProduct 16 (some .long), Cond.constantLong RX0 115 (4294967295), Cond.methodLink RX0 60 yX0_columnThatSaves, Cond.instanceMethod yX0_columnThatSaves, Cond.selects RX0 yX0_columnThatSaves yX0_columnThatSaves, Cond.code yX0_columnThatSaves cX0_columnThatSaves 2 (some .int), Cond.methodLink RX0 64 yX0_rowThatLimits, Cond.instanceMethod yX0_rowThatLimits, Cond.selects RX0 yX0_rowThatLimits yX0_rowThatLimits, Cond.code yX0_rowThatLimits cX0_rowThatLimits 4 (some .int), Cond.methodLink RX0 85 yX0_holdsLess]
def wsX1_seekLeast_r5 : List Cond := [Cond.instanceMethod yX0_holdsLess, Cond.selects RX0 yX0_holdsLess yX0_holdsLess, Cond.code yX0_holdsLess cX0_holdsLess 3 (some .boolean), Cond.methodLink RX1 95 yX0_reachesRightSides, Cond.instanceMethod yX0_reachesRightSides, Cond.selects RX0 yX0_reachesRightSides yX0_reachesRightSides, Cond.code yX0_reachesRightSides cX0_reachesRightSides 4 (some .boolean), Cond.methodLink RX0 72 yX0_hasBareContradiction, Cond.instanceMethod yX0_hasBareContradiction, Cond.selects RX0 yX0_hasBareContradiction yX0_hasBareContradiction, Cond.code yX0_hasBareContradiction cX0_hasBareContradiction 2 (some .boolean), Cond.methodLink RX0 76 yX0_rowBelowZero, Cond.instanceMethod yX0_rowBelowZero, Cond.selects RX0 yX0_rowBelowZero yX0_rowBelowZero, Cond.code yX0_rowBelowZero cX0_rowBelowZero 3 (some .int), Cond.methodLink RX0 79 yX0_columnThatLifts, Cond.instanceMethod yX0_columnThatLifts, Cond.selects RX0 yX0_columnThatLifts yX0_columnThatLifts, Cond.code yX0_columnThatLifts cX0_columnThatLifts 4 (some .int), Cond.methodLink RX0 89 yX0_isCheaper, Cond.instanceMethod yX0_isCheaper, Cond.selects RX0 yX0_isCheaper yX0_isCheaper, Cond.code yX0_isCheaper cX0_isCheaper 5 (some .boolean)]
def wsX1_seekLeast : List Cond := .code yX1_seekLeast cX1_seekLeast 1 (some .int) :: ((wsX1_seekLeast_r1 ++ (wsX1_seekLeast_r2 ++ (wsX1_seekLeast_r3 ++ (wsX1_seekLeast_r4 ++ wsX1_seekLeast_r5)))) ++ wsX10 ++ wsX00)
def wsX1_hasTurn_r1 : List Cond := [Cond.fieldLink RX1 14 "RankFinder" "goal" "[I", Cond.methodLink RX1 65 yJ7_fill_53178, Cond.static yJ7_fill_53178, Cond.initialized RJ7, Cond.code yJ7_fill_53178 cJ7_fill_53178 4 none, Cond.methodLink RX1 70 yX1_seekLeast, Cond.instanceMethod yX1_seekLeast, Cond.selects RX1 yX1_seekLeast yX1_seekLeast, Cond.initialized RX1, Cond.code yX1_seekLeast cX1_seekLeast 1 (some .int), Cond.fieldLink RX1 21 "RankFinder" "weighing" "LRankFinder$Weighing;", Cond.methodLink RX1 92 yX1_weighGoal, Cond.instanceMethod yX1_weighGoal, Cond.selects RX1 yX1_weighGoal yX1_weighGoal, Cond.code yX1_weighGoal cX1_weighGoal 4 none, Cond.fieldLink RX1 25 "RankFinder" "variables" "I", Cond.fieldLink RX1 29 "RankFinder" "count" "I", Cond.fieldLink RX1 11 "RankFinder" "told" "[[I", Cond.methodLink RX1 98 yX0_clear, Cond.instanceMethod yX0_clear, Cond.selects RX0 yX0_clear yX0_clear, Cond.initialized RX0, Cond.code yX0_clear cX0_clear 4 none, Cond.methodLink RX0 37 Lib.Math.min.name]
def wsX1_hasTurn_r2 : List Cond := [Cond.static Lib.Math.min.name, Cond.initialized "java/lang/Math", Cond.code Lib.Math.min.name Lib.Math.min.code 2 (some .int), Cond.fieldLink RX0 20 "RankFinder$Weighing" "equations" "I", Cond.fieldLink RX0 24 "RankFinder$Weighing" "weights" "I", Cond.fieldLink RX0 13 "RankFinder$Weighing" "cell" "[[J", Cond.fieldLink RX0 16 "RankFinder$Weighing" "held" "[I", Cond.methodLink RX0 43 yJ7_fill_d0a16, Cond.static yJ7_fill_d0a16, Cond.code yJ7_fill_d0a16 cJ7_fill_d0a16 5 none, Cond.methodLink RX0 49 yJ7_fill_53178, Cond.methodLink RX0 52 yX0_takeUnit, Cond.instanceMethod yX0_takeUnit, Cond.selects RX0 yX0_takeUnit yX0_takeUnit, Cond.code yX0_takeUnit cX0_takeUnit 8 none, Cond.fieldLink RX0 27 "RankFinder$Weighing" "unit" "J", Cond.fieldLink RX0 31 "RankFinder$Weighing" "unitTwos" "I", Cond.constantLong RX0 107 (2), Cond.fieldLink RX0 34 "RankFinder$Weighing" "unitInverse" "J", Cond.methodLink RX0 101 yJ13_bitCount_95d88, Cond.static yJ13_bitCount_95d88, Cond.initialized RJ13, Cond.code yJ13_bitCount_95d88 cJ13_bitCount_95d88 2 (some .int), Cond.constantLong RJ13 314 (6148914691236517205)]
def wsX1_hasTurn_r3 : List Cond := [Cond.constantLong RJ13 316 (3689348814741910323), Cond.constantLong RJ13 318 (1085102592571150095), Cond.methodLink RX1 102 yX0_put, Cond.instanceMethod yX0_put, Cond.selects RX0 yX0_put yX0_put, Cond.code yX0_put cX0_put 4 none, Cond.methodLink RX1 106 yX0_putRightSide, Cond.instanceMethod yX0_putRightSide, Cond.selects RX0 yX0_putRightSide yX0_putRightSide, Cond.code yX0_putRightSide cX0_putRightSide 3 none, Cond.methodLink RX1 109 yX0_putCost, Cond.instanceMethod yX0_putCost, Cond.selects RX0 yX0_putCost yX0_putCost, Cond.code yX0_putCost cX0_putCost 3 none, Cond.methodLink RX1 77 yX0_fallsForEver, Cond.instanceMethod yX0_fallsForEver, Cond.selects RX0 yX0_fallsForEver yX0_fallsForEver, Cond.code yX0_fallsForEver cX0_fallsForEver 4 (some .boolean), Cond.constant RX0 59 (1000000), Cond.methodLink RX0 56 yX0_holdColumns, Cond.instanceMethod yX0_holdColumns, Cond.selects RX0 yX0_holdColumns yX0_holdColumns, Cond.code yX0_holdColumns cX0_holdColumns 3 none, Cond.methodLink RX0 82 yX0_firstColumnOf]
def wsX1_hasTurn_r4 : List Cond := [Cond.instanceMethod yX0_firstColumnOf, Cond.selects RX0 yX0_firstColumnOf yX0_firstColumnOf, Cond.code yX0_firstColumnOf cX0_firstColumnOf 3 (some .int), Cond.methodLink RX0 68 yX0_exchange, Cond.instanceMethod yX0_exchange, Cond.selects RX0 yX0_exchange yX0_exchange, Cond.code yX0_exchange cX0_exchange 9 none, Cond.methodLink RX0 93 yX0_negate, Cond.instanceMethod yX0_negate, Cond.selects RX0 yX0_negate yX0_negate, Cond.code yX0_negate cX0_negate 3 none, Cond.methodLink RX0 97 yX0_differenceByUnit, Cond.instanceMethod yX0_differenceByUnit, Cond.selects RX0 yX0_differenceByUnit yX0_differenceByUnit, Cond.code yX0_differenceByUnit cX0_differenceByUnit 19 (some .long), Cond.constantLong RX0 113 (-9223372036854775808), Cond.methodLink RX0 109 yX0_highProduct, Cond.static yX0_highProduct, Cond.code yX0_highProduct cX0_highProduct 16 (some .long), Cond.constantLong RX0 115 (4294967295), Cond.methodLink RX0 60 yX0_columnThatSaves, Cond.instanceMethod yX0_columnThatSaves, Cond.selects RX0 yX0_columnThatSaves yX0_columnThatSaves, Cond.code yX0_columnThatSaves cX0_columnThatSaves 2 (some .int)]
def wsX1_hasTurn_r5 : List Cond := [Cond.methodLink RX0 64 yX0_rowThatLimits, Cond.instanceMethod yX0_rowThatLimits, Cond.selects RX0 yX0_rowThatLimits yX0_rowThatLimits, Cond.code yX0_rowThatLimits cX0_rowThatLimits 4 (some .int), Cond.methodLink RX0 85 yX0_holdsLess, Cond.instanceMethod yX0_holdsLess, Cond.selects RX0 yX0_holdsLess yX0_holdsLess, Cond.code yX0_holdsLess cX0_holdsLess 3 (some .boolean), Cond.methodLink RX1 95 yX0_reachesRightSides, Cond.instanceMethod yX0_reachesRightSides, Cond.selects RX0 yX0_reachesRightSides yX0_reachesRightSides, Cond.code yX0_reachesRightSides cX0_reachesRightSides 4 (some .boolean), Cond.methodLink RX0 72 yX0_hasBareContradiction, Cond.instanceMethod yX0_hasBareContradiction, Cond.selects RX0 yX0_hasBareContradiction yX0_hasBareContradiction, Cond.code yX0_hasBareContradiction cX0_hasBareContradiction 2 (some .boolean), Cond.methodLink RX0 76 yX0_rowBelowZero, Cond.instanceMethod yX0_rowBelowZero, Cond.selects RX0 yX0_rowBelowZero yX0_rowBelowZero, Cond.code yX0_rowBelowZero cX0_rowBelowZero 3 (some .int), Cond.methodLink RX0 79 yX0_columnThatLifts, Cond.instanceMethod yX0_columnThatLifts, Cond.selects RX0 yX0_columnThatLifts yX0_columnThatLifts, Cond.code yX0_columnThatLifts cX0_columnThatLifts 4 (some .int)]
def wsX1_hasTurn_r6 : List Cond := [Cond.methodLink RX0 89 yX0_isCheaper, Cond.instanceMethod yX0_isCheaper, Cond.selects RX0 yX0_isCheaper yX0_isCheaper, Cond.code yX0_isCheaper cX0_isCheaper 5 (some .boolean)]
def wsX1_hasTurn : List Cond := .code yX1_hasTurn cX1_hasTurn 1 (some .boolean) :: ((wsX1_hasTurn_r1 ++ (wsX1_hasTurn_r2 ++ (wsX1_hasTurn_r3 ++ (wsX1_hasTurn_r4 ++ (wsX1_hasTurn_r5 ++ wsX1_hasTurn_r6))))) ++ wsX10 ++ wsX00)
def wsX1_weighRanking_r1 : List Cond := [Cond.fieldLink RX1 21 "RankFinder" "weighing" "LRankFinder$Weighing;", Cond.fieldLink RX1 25 "RankFinder" "variables" "I", Cond.fieldLink RX1 29 "RankFinder" "count" "I", Cond.fieldLink RX1 11 "RankFinder" "told" "[[I", Cond.methodLink RX1 98 yX0_clear, Cond.instanceMethod yX0_clear, Cond.selects RX0 yX0_clear yX0_clear, Cond.initialized RX0, Cond.code yX0_clear cX0_clear 4 none, Cond.methodLink RX0 37 Lib.Math.min.name, Cond.static Lib.Math.min.name, Cond.initialized "java/lang/Math", Cond.code Lib.Math.min.name Lib.Math.min.code 2 (some .int), Cond.fieldLink RX0 20 "RankFinder$Weighing" "equations" "I", Cond.fieldLink RX0 24 "RankFinder$Weighing" "weights" "I", Cond.fieldLink RX0 13 "RankFinder$Weighing" "cell" "[[J", Cond.fieldLink RX0 16 "RankFinder$Weighing" "held" "[I", Cond.methodLink RX0 43 yJ7_fill_d0a16, Cond.static yJ7_fill_d0a16, Cond.initialized RJ7, Cond.code yJ7_fill_d0a16 cJ7_fill_d0a16 5 none, Cond.methodLink RX0 49 yJ7_fill_53178, Cond.static yJ7_fill_53178, Cond.code yJ7_fill_53178 cJ7_fill_53178 4 none]
def wsX1_weighRanking_r2 : List Cond := [Cond.methodLink RX0 52 yX0_takeUnit, Cond.instanceMethod yX0_takeUnit, Cond.selects RX0 yX0_takeUnit yX0_takeUnit, Cond.code yX0_takeUnit cX0_takeUnit 8 none, Cond.fieldLink RX0 27 "RankFinder$Weighing" "unit" "J", Cond.fieldLink RX0 31 "RankFinder$Weighing" "unitTwos" "I", Cond.constantLong RX0 107 (2), Cond.fieldLink RX0 34 "RankFinder$Weighing" "unitInverse" "J", Cond.methodLink RX0 101 yJ13_bitCount_95d88, Cond.static yJ13_bitCount_95d88, Cond.initialized RJ13, Cond.code yJ13_bitCount_95d88 cJ13_bitCount_95d88 2 (some .int), Cond.constantLong RJ13 314 (6148914691236517205), Cond.constantLong RJ13 316 (3689348814741910323), Cond.constantLong RJ13 318 (1085102592571150095), Cond.methodLink RX1 102 yX0_put, Cond.instanceMethod yX0_put, Cond.selects RX0 yX0_put yX0_put, Cond.code yX0_put cX0_put 4 none, Cond.methodLink RX1 109 yX0_putCost, Cond.instanceMethod yX0_putCost, Cond.selects RX0 yX0_putCost yX0_putCost, Cond.code yX0_putCost cX0_putCost 3 none]
def wsX1_weighRanking : List Cond := .code yX1_weighRanking cX1_weighRanking 7 none :: ((wsX1_weighRanking_r1 ++ wsX1_weighRanking_r2) ++ wsX10 ++ wsX00)
def wsX1_ranked_r1 : List Cond := [Cond.fieldLink RX1 21 "RankFinder" "weighing" "LRankFinder$Weighing;", Cond.methodLink RX1 74 yX1_weighRanking, Cond.instanceMethod yX1_weighRanking, Cond.selects RX1 yX1_weighRanking yX1_weighRanking, Cond.initialized RX1, Cond.code yX1_weighRanking cX1_weighRanking 7 none, Cond.fieldLink RX1 25 "RankFinder" "variables" "I", Cond.fieldLink RX1 29 "RankFinder" "count" "I", Cond.fieldLink RX1 11 "RankFinder" "told" "[[I", Cond.methodLink RX1 98 yX0_clear, Cond.instanceMethod yX0_clear, Cond.selects RX0 yX0_clear yX0_clear, Cond.initialized RX0, Cond.code yX0_clear cX0_clear 4 none, Cond.methodLink RX0 37 Lib.Math.min.name, Cond.static Lib.Math.min.name, Cond.initialized "java/lang/Math", Cond.code Lib.Math.min.name Lib.Math.min.code 2 (some .int), Cond.fieldLink RX0 20 "RankFinder$Weighing" "equations" "I", Cond.fieldLink RX0 24 "RankFinder$Weighing" "weights" "I", Cond.fieldLink RX0 13 "RankFinder$Weighing" "cell" "[[J", Cond.fieldLink RX0 16 "RankFinder$Weighing" "held" "[I", Cond.methodLink RX0 43 yJ7_fill_d0a16, Cond.static yJ7_fill_d0a16]
def wsX1_ranked_r2 : List Cond := [Cond.initialized RJ7, Cond.code yJ7_fill_d0a16 cJ7_fill_d0a16 5 none, Cond.methodLink RX0 49 yJ7_fill_53178, Cond.static yJ7_fill_53178, Cond.code yJ7_fill_53178 cJ7_fill_53178 4 none, Cond.methodLink RX0 52 yX0_takeUnit, Cond.instanceMethod yX0_takeUnit, Cond.selects RX0 yX0_takeUnit yX0_takeUnit, Cond.code yX0_takeUnit cX0_takeUnit 8 none, Cond.fieldLink RX0 27 "RankFinder$Weighing" "unit" "J", Cond.fieldLink RX0 31 "RankFinder$Weighing" "unitTwos" "I", Cond.constantLong RX0 107 (2), Cond.fieldLink RX0 34 "RankFinder$Weighing" "unitInverse" "J", Cond.methodLink RX0 101 yJ13_bitCount_95d88, Cond.static yJ13_bitCount_95d88, Cond.initialized RJ13, Cond.code yJ13_bitCount_95d88 cJ13_bitCount_95d88 2 (some .int), Cond.constantLong RJ13 314 (6148914691236517205), Cond.constantLong RJ13 316 (3689348814741910323), Cond.constantLong RJ13 318 (1085102592571150095), Cond.methodLink RX1 102 yX0_put, Cond.instanceMethod yX0_put, Cond.selects RX0 yX0_put yX0_put, Cond.code yX0_put cX0_put 4 none]
def wsX1_ranked_r3 : List Cond := [Cond.methodLink RX1 109 yX0_putCost, Cond.instanceMethod yX0_putCost, Cond.selects RX0 yX0_putCost yX0_putCost, Cond.code yX0_putCost cX0_putCost 3 none, Cond.methodLink RX1 77 yX0_fallsForEver, Cond.instanceMethod yX0_fallsForEver, Cond.selects RX0 yX0_fallsForEver yX0_fallsForEver, Cond.code yX0_fallsForEver cX0_fallsForEver 4 (some .boolean), Cond.constant RX0 59 (1000000), Cond.methodLink RX0 56 yX0_holdColumns, Cond.instanceMethod yX0_holdColumns, Cond.selects RX0 yX0_holdColumns yX0_holdColumns, Cond.code yX0_holdColumns cX0_holdColumns 3 none, Cond.methodLink RX0 82 yX0_firstColumnOf, Cond.instanceMethod yX0_firstColumnOf, Cond.selects RX0 yX0_firstColumnOf yX0_firstColumnOf, Cond.code yX0_firstColumnOf cX0_firstColumnOf 3 (some .int), Cond.methodLink RX0 68 yX0_exchange, Cond.instanceMethod yX0_exchange, Cond.selects RX0 yX0_exchange yX0_exchange, Cond.code yX0_exchange cX0_exchange 9 none, Cond.methodLink RX0 93 yX0_negate, Cond.instanceMethod yX0_negate, Cond.selects RX0 yX0_negate yX0_negate]
def wsX1_ranked_r4 : List Cond := [Cond.code yX0_negate cX0_negate 3 none, Cond.methodLink RX0 97 yX0_differenceByUnit, Cond.instanceMethod yX0_differenceByUnit, Cond.selects RX0 yX0_differenceByUnit yX0_differenceByUnit, Cond.code yX0_differenceByUnit cX0_differenceByUnit 19 (some .long), Cond.constantLong RX0 113 (-9223372036854775808), Cond.methodLink RX0 109 yX0_highProduct, Cond.static yX0_highProduct, Cond.code yX0_highProduct cX0_highProduct 16 (some .long), Cond.constantLong RX0 115 (4294967295), Cond.methodLink RX0 60 yX0_columnThatSaves, Cond.instanceMethod yX0_columnThatSaves, Cond.selects RX0 yX0_columnThatSaves yX0_columnThatSaves, Cond.code yX0_columnThatSaves cX0_columnThatSaves 2 (some .int), Cond.methodLink RX0 64 yX0_rowThatLimits, Cond.instanceMethod yX0_rowThatLimits, Cond.selects RX0 yX0_rowThatLimits yX0_rowThatLimits, Cond.code yX0_rowThatLimits cX0_rowThatLimits 4 (some .int), Cond.methodLink RX0 85 yX0_holdsLess, Cond.instanceMethod yX0_holdsLess, Cond.selects RX0 yX0_holdsLess yX0_holdsLess, Cond.code yX0_holdsLess cX0_holdsLess 3 (some .boolean)]
def wsX1_ranked : List Cond := .code yX1_ranked cX1_ranked 1 (some .boolean) :: ((wsX1_ranked_r1 ++ (wsX1_ranked_r2 ++ (wsX1_ranked_r3 ++ wsX1_ranked_r4))) ++ wsX10 ++ wsX00)
def wsX1_ranks_r1 : List Cond := [Cond.fieldLink RX1 14 "RankFinder" "goal" "[I", Cond.fieldLink RX1 21 "RankFinder" "weighing" "LRankFinder$Weighing;", Cond.methodLink RX1 39 yX1_areWithin, Cond.static yX1_areWithin, Cond.initialized RX1, Cond.code yX1_areWithin cX1_areWithin 4 (some .boolean), Cond.methodLink RX1 43 yX1_isWithin, Cond.static yX1_isWithin, Cond.code yX1_isWithin cX1_isWithin 2 (some .boolean), Cond.methodLink RX1 47 yX1_fill, Cond.static yX1_fill, Cond.code yX1_fill cX1_fill 5 none, Cond.methodLink RX1 70 yX1_seekLeast, Cond.instanceMethod yX1_seekLeast, Cond.selects RX1 yX1_seekLeast yX1_seekLeast, Cond.code yX1_seekLeast cX1_seekLeast 1 (some .int), Cond.methodLink RX1 92 yX1_weighGoal, Cond.instanceMethod yX1_weighGoal, Cond.selects RX1 yX1_weighGoal yX1_weighGoal, Cond.code yX1_weighGoal cX1_weighGoal 4 none, Cond.fieldLink RX1 25 "RankFinder" "variables" "I", Cond.fieldLink RX1 29 "RankFinder" "count" "I", Cond.fieldLink RX1 11 "RankFinder" "told" "[[I", Cond.methodLink RX1 98 yX0_clear]
def wsX1_ranks_r2 : List Cond := [Cond.instanceMethod yX0_clear, Cond.selects RX0 yX0_clear yX0_clear, Cond.initialized RX0, Cond.code yX0_clear cX0_clear 4 none, Cond.methodLink RX0 37 Lib.Math.min.name, Cond.static Lib.Math.min.name, Cond.initialized "java/lang/Math", Cond.code Lib.Math.min.name Lib.Math.min.code 2 (some .int), Cond.fieldLink RX0 20 "RankFinder$Weighing" "equations" "I", Cond.fieldLink RX0 24 "RankFinder$Weighing" "weights" "I", Cond.fieldLink RX0 13 "RankFinder$Weighing" "cell" "[[J", Cond.fieldLink RX0 16 "RankFinder$Weighing" "held" "[I", Cond.methodLink RX0 43 yJ7_fill_d0a16, Cond.static yJ7_fill_d0a16, Cond.initialized RJ7, Cond.code yJ7_fill_d0a16 cJ7_fill_d0a16 5 none, Cond.methodLink RX0 49 yJ7_fill_53178, Cond.static yJ7_fill_53178, Cond.code yJ7_fill_53178 cJ7_fill_53178 4 none, Cond.methodLink RX0 52 yX0_takeUnit, Cond.instanceMethod yX0_takeUnit, Cond.selects RX0 yX0_takeUnit yX0_takeUnit, Cond.code yX0_takeUnit cX0_takeUnit 8 none, Cond.fieldLink RX0 27 "RankFinder$Weighing" "unit" "J"]
def wsX1_ranks_r3 : List Cond := [Cond.fieldLink RX0 31 "RankFinder$Weighing" "unitTwos" "I", Cond.constantLong RX0 107 (2), Cond.fieldLink RX0 34 "RankFinder$Weighing" "unitInverse" "J", Cond.methodLink RX0 101 yJ13_bitCount_95d88, Cond.static yJ13_bitCount_95d88, Cond.initialized RJ13, Cond.code yJ13_bitCount_95d88 cJ13_bitCount_95d88 2 (some .int), Cond.constantLong RJ13 314 (6148914691236517205), Cond.constantLong RJ13 316 (3689348814741910323), Cond.constantLong RJ13 318 (1085102592571150095), Cond.methodLink RX1 102 yX0_put, Cond.instanceMethod yX0_put, Cond.selects RX0 yX0_put yX0_put, Cond.code yX0_put cX0_put 4 none, Cond.methodLink RX1 106 yX0_putRightSide, Cond.instanceMethod yX0_putRightSide, Cond.selects RX0 yX0_putRightSide yX0_putRightSide, Cond.code yX0_putRightSide cX0_putRightSide 3 none, Cond.methodLink RX1 109 yX0_putCost, Cond.instanceMethod yX0_putCost, Cond.selects RX0 yX0_putCost yX0_putCost, Cond.code yX0_putCost cX0_putCost 3 none, Cond.methodLink RX1 77 yX0_fallsForEver, Cond.instanceMethod yX0_fallsForEver]
def wsX1_ranks_r4 : List Cond := [Cond.selects RX0 yX0_fallsForEver yX0_fallsForEver, Cond.code yX0_fallsForEver cX0_fallsForEver 4 (some .boolean), Cond.constant RX0 59 (1000000), Cond.methodLink RX0 56 yX0_holdColumns, Cond.instanceMethod yX0_holdColumns, Cond.selects RX0 yX0_holdColumns yX0_holdColumns, Cond.code yX0_holdColumns cX0_holdColumns 3 none, Cond.methodLink RX0 82 yX0_firstColumnOf, Cond.instanceMethod yX0_firstColumnOf, Cond.selects RX0 yX0_firstColumnOf yX0_firstColumnOf, Cond.code yX0_firstColumnOf cX0_firstColumnOf 3 (some .int), Cond.methodLink RX0 68 yX0_exchange, Cond.instanceMethod yX0_exchange, Cond.selects RX0 yX0_exchange yX0_exchange, Cond.code yX0_exchange cX0_exchange 9 none, Cond.methodLink RX0 93 yX0_negate, Cond.instanceMethod yX0_negate, Cond.selects RX0 yX0_negate yX0_negate, Cond.code yX0_negate cX0_negate 3 none, Cond.methodLink RX0 97 yX0_differenceByUnit, Cond.instanceMethod yX0_differenceByUnit, Cond.selects RX0 yX0_differenceByUnit yX0_differenceByUnit, Cond.code yX0_differenceByUnit cX0_differenceByUnit 19 (some .long), Cond.constantLong RX0 113 (-9223372036854775808)]
def wsX1_ranks_r5 : List Cond := [Cond.methodLink RX0 109 yX0_highProduct, Cond.static yX0_highProduct, Cond.code yX0_highProduct cX0_highProduct 16 (some .long), Cond.constantLong RX0 115 (4294967295), Cond.methodLink RX0 60 yX0_columnThatSaves, Cond.instanceMethod yX0_columnThatSaves, Cond.selects RX0 yX0_columnThatSaves yX0_columnThatSaves, Cond.code yX0_columnThatSaves cX0_columnThatSaves 2 (some .int), Cond.methodLink RX0 64 yX0_rowThatLimits, Cond.instanceMethod yX0_rowThatLimits, Cond.selects RX0 yX0_rowThatLimits yX0_rowThatLimits, Cond.code yX0_rowThatLimits cX0_rowThatLimits 4 (some .int), Cond.methodLink RX0 85 yX0_holdsLess, Cond.instanceMethod yX0_holdsLess, Cond.selects RX0 yX0_holdsLess yX0_holdsLess, Cond.code yX0_holdsLess cX0_holdsLess 3 (some .boolean), Cond.methodLink RX1 95 yX0_reachesRightSides, Cond.instanceMethod yX0_reachesRightSides, Cond.selects RX0 yX0_reachesRightSides yX0_reachesRightSides, Cond.code yX0_reachesRightSides cX0_reachesRightSides 4 (some .boolean), Cond.methodLink RX0 72 yX0_hasBareContradiction, Cond.instanceMethod yX0_hasBareContradiction, Cond.selects RX0 yX0_hasBareContradiction yX0_hasBareContradiction, Cond.code yX0_hasBareContradiction cX0_hasBareContradiction 2 (some .boolean)]
def wsX1_ranks_r6 : List Cond := [Cond.methodLink RX0 76 yX0_rowBelowZero, Cond.instanceMethod yX0_rowBelowZero, Cond.selects RX0 yX0_rowBelowZero yX0_rowBelowZero, Cond.code yX0_rowBelowZero cX0_rowBelowZero 3 (some .int), Cond.methodLink RX0 79 yX0_columnThatLifts, Cond.instanceMethod yX0_columnThatLifts, Cond.selects RX0 yX0_columnThatLifts yX0_columnThatLifts, Cond.code yX0_columnThatLifts cX0_columnThatLifts 4 (some .int), Cond.methodLink RX0 89 yX0_isCheaper, Cond.instanceMethod yX0_isCheaper, Cond.selects RX0 yX0_isCheaper yX0_isCheaper, Cond.code yX0_isCheaper cX0_isCheaper 5 (some .boolean), Cond.methodLink RX1 81 yX0_leastTop, Cond.instanceMethod yX0_leastTop, Cond.selects RX0 yX0_leastTop yX0_leastTop, Cond.code yX0_leastTop cX0_leastTop 1 (some .long), Cond.methodLink RX1 85 yX0_leastBottom, Cond.instanceMethod yX0_leastBottom, Cond.selects RX0 yX0_leastBottom yX0_leastBottom, Cond.code yX0_leastBottom cX0_leastBottom 1 (some .long)]
def wsX1_ranks : List Cond := .code yX1_ranks cX1_ranks 6 (some .boolean) :: ((wsX1_ranks_r1 ++ (wsX1_ranks_r2 ++ (wsX1_ranks_r3 ++ (wsX1_ranks_r4 ++ (wsX1_ranks_r5 ++ wsX1_ranks_r6))))) ++ wsX10 ++ wsX00)
def wsX1_commonFactor : List Cond := .code yX1_commonFactor cX1_commonFactor 11 (some .long) :: ([.methodLink RX1 112 Lib.MathLoose.abs_long.x, .static Lib.MathLoose.abs_long.x, .initialized "java/lang/Math", .code Lib.MathLoose.abs_long.x Lib.MathLoose.abs_long.code 2 (some .long), .methodLink RX1 118 Lib.MathLoose.max_long.x, .static Lib.MathLoose.max_long.x, .code Lib.MathLoose.max_long.x Lib.MathLoose.max_long.code 4 (some .long)])
def wsX1_least_r1 : List Cond := [Cond.fieldLink RX1 14 "RankFinder" "goal" "[I", Cond.fieldLink RX1 32 "RankFinder" "foundTop" "J", Cond.fieldLink RX1 36 "RankFinder" "foundBottom" "J", Cond.fieldLink RX1 21 "RankFinder" "weighing" "LRankFinder$Weighing;", Cond.methodLink RX1 39 yX1_areWithin, Cond.static yX1_areWithin, Cond.initialized RX1, Cond.code yX1_areWithin cX1_areWithin 4 (some .boolean), Cond.methodLink RX1 43 yX1_isWithin, Cond.static yX1_isWithin, Cond.code yX1_isWithin cX1_isWithin 2 (some .boolean), Cond.methodLink RX1 47 yX1_fill, Cond.static yX1_fill, Cond.code yX1_fill cX1_fill 5 none, Cond.methodLink RX1 70 yX1_seekLeast, Cond.instanceMethod yX1_seekLeast, Cond.selects RX1 yX1_seekLeast yX1_seekLeast, Cond.code yX1_seekLeast cX1_seekLeast 1 (some .int), Cond.methodLink RX1 92 yX1_weighGoal, Cond.instanceMethod yX1_weighGoal, Cond.selects RX1 yX1_weighGoal yX1_weighGoal, Cond.code yX1_weighGoal cX1_weighGoal 4 none, Cond.fieldLink RX1 25 "RankFinder" "variables" "I", Cond.fieldLink RX1 29 "RankFinder" "count" "I"]
def wsX1_least_r2 : List Cond := [Cond.fieldLink RX1 11 "RankFinder" "told" "[[I", Cond.methodLink RX1 98 yX0_clear, Cond.instanceMethod yX0_clear, Cond.selects RX0 yX0_clear yX0_clear, Cond.initialized RX0, Cond.code yX0_clear cX0_clear 4 none, Cond.methodLink RX0 37 Lib.Math.min.name, Cond.static Lib.Math.min.name, Cond.initialized "java/lang/Math", Cond.code Lib.Math.min.name Lib.Math.min.code 2 (some .int), Cond.fieldLink RX0 20 "RankFinder$Weighing" "equations" "I", Cond.fieldLink RX0 24 "RankFinder$Weighing" "weights" "I", Cond.fieldLink RX0 13 "RankFinder$Weighing" "cell" "[[J", Cond.fieldLink RX0 16 "RankFinder$Weighing" "held" "[I", Cond.methodLink RX0 43 yJ7_fill_d0a16, Cond.static yJ7_fill_d0a16, Cond.initialized RJ7, Cond.code yJ7_fill_d0a16 cJ7_fill_d0a16 5 none, Cond.methodLink RX0 49 yJ7_fill_53178, Cond.static yJ7_fill_53178, Cond.code yJ7_fill_53178 cJ7_fill_53178 4 none, Cond.methodLink RX0 52 yX0_takeUnit, Cond.instanceMethod yX0_takeUnit, Cond.selects RX0 yX0_takeUnit yX0_takeUnit]
def wsX1_least_r3 : List Cond := [Cond.code yX0_takeUnit cX0_takeUnit 8 none, Cond.fieldLink RX0 27 "RankFinder$Weighing" "unit" "J", Cond.fieldLink RX0 31 "RankFinder$Weighing" "unitTwos" "I", Cond.constantLong RX0 107 (2), Cond.fieldLink RX0 34 "RankFinder$Weighing" "unitInverse" "J", Cond.methodLink RX0 101 yJ13_bitCount_95d88, Cond.static yJ13_bitCount_95d88, Cond.initialized RJ13, Cond.code yJ13_bitCount_95d88 cJ13_bitCount_95d88 2 (some .int), Cond.constantLong RJ13 314 (6148914691236517205), Cond.constantLong RJ13 316 (3689348814741910323), Cond.constantLong RJ13 318 (1085102592571150095), Cond.methodLink RX1 102 yX0_put, Cond.instanceMethod yX0_put, Cond.selects RX0 yX0_put yX0_put, Cond.code yX0_put cX0_put 4 none, Cond.methodLink RX1 106 yX0_putRightSide, Cond.instanceMethod yX0_putRightSide, Cond.selects RX0 yX0_putRightSide yX0_putRightSide, Cond.code yX0_putRightSide cX0_putRightSide 3 none, Cond.methodLink RX1 109 yX0_putCost, Cond.instanceMethod yX0_putCost, Cond.selects RX0 yX0_putCost yX0_putCost, Cond.code yX0_putCost cX0_putCost 3 none]
def wsX1_least_r4 : List Cond := [Cond.methodLink RX1 77 yX0_fallsForEver, Cond.instanceMethod yX0_fallsForEver, Cond.selects RX0 yX0_fallsForEver yX0_fallsForEver, Cond.code yX0_fallsForEver cX0_fallsForEver 4 (some .boolean), Cond.constant RX0 59 (1000000), Cond.methodLink RX0 56 yX0_holdColumns, Cond.instanceMethod yX0_holdColumns, Cond.selects RX0 yX0_holdColumns yX0_holdColumns, Cond.code yX0_holdColumns cX0_holdColumns 3 none, Cond.methodLink RX0 82 yX0_firstColumnOf, Cond.instanceMethod yX0_firstColumnOf, Cond.selects RX0 yX0_firstColumnOf yX0_firstColumnOf, Cond.code yX0_firstColumnOf cX0_firstColumnOf 3 (some .int), Cond.methodLink RX0 68 yX0_exchange, Cond.instanceMethod yX0_exchange, Cond.selects RX0 yX0_exchange yX0_exchange, Cond.code yX0_exchange cX0_exchange 9 none, Cond.methodLink RX0 93 yX0_negate, Cond.instanceMethod yX0_negate, Cond.selects RX0 yX0_negate yX0_negate, Cond.code yX0_negate cX0_negate 3 none, Cond.methodLink RX0 97 yX0_differenceByUnit, Cond.instanceMethod yX0_differenceByUnit, Cond.selects RX0 yX0_differenceByUnit yX0_differenceByUnit]
def wsX1_least_r5 : List Cond := [Cond.code yX0_differenceByUnit cX0_differenceByUnit 19 (some .long), Cond.constantLong RX0 113 (-9223372036854775808), Cond.methodLink RX0 109 yX0_highProduct, Cond.static yX0_highProduct, Cond.code yX0_highProduct cX0_highProduct 16 (some .long), Cond.constantLong RX0 115 (4294967295), Cond.methodLink RX0 60 yX0_columnThatSaves, Cond.instanceMethod yX0_columnThatSaves, Cond.selects RX0 yX0_columnThatSaves yX0_columnThatSaves, Cond.code yX0_columnThatSaves cX0_columnThatSaves 2 (some .int), Cond.methodLink RX0 64 yX0_rowThatLimits, Cond.instanceMethod yX0_rowThatLimits, Cond.selects RX0 yX0_rowThatLimits yX0_rowThatLimits, Cond.code yX0_rowThatLimits cX0_rowThatLimits 4 (some .int), Cond.methodLink RX0 85 yX0_holdsLess, Cond.instanceMethod yX0_holdsLess, Cond.selects RX0 yX0_holdsLess yX0_holdsLess, Cond.code yX0_holdsLess cX0_holdsLess 3 (some .boolean), Cond.methodLink RX1 95 yX0_reachesRightSides, Cond.instanceMethod yX0_reachesRightSides, Cond.selects RX0 yX0_reachesRightSides yX0_reachesRightSides, Cond.code yX0_reachesRightSides cX0_reachesRightSides 4 (some .boolean), Cond.methodLink RX0 72 yX0_hasBareContradiction, Cond.instanceMethod yX0_hasBareContradiction]
def wsX1_least_r6 : List Cond := [Cond.selects RX0 yX0_hasBareContradiction yX0_hasBareContradiction, Cond.code yX0_hasBareContradiction cX0_hasBareContradiction 2 (some .boolean), Cond.methodLink RX0 76 yX0_rowBelowZero, Cond.instanceMethod yX0_rowBelowZero, Cond.selects RX0 yX0_rowBelowZero yX0_rowBelowZero, Cond.code yX0_rowBelowZero cX0_rowBelowZero 3 (some .int), Cond.methodLink RX0 79 yX0_columnThatLifts, Cond.instanceMethod yX0_columnThatLifts, Cond.selects RX0 yX0_columnThatLifts yX0_columnThatLifts, Cond.code yX0_columnThatLifts cX0_columnThatLifts 4 (some .int), Cond.methodLink RX0 89 yX0_isCheaper, Cond.instanceMethod yX0_isCheaper, Cond.selects RX0 yX0_isCheaper yX0_isCheaper, Cond.code yX0_isCheaper cX0_isCheaper 5 (some .boolean), Cond.methodLink RX1 81 yX0_leastTop, Cond.instanceMethod yX0_leastTop, Cond.selects RX0 yX0_leastTop yX0_leastTop, Cond.code yX0_leastTop cX0_leastTop 1 (some .long), Cond.methodLink RX1 85 yX0_leastBottom, Cond.instanceMethod yX0_leastBottom, Cond.selects RX0 yX0_leastBottom yX0_leastBottom, Cond.code yX0_leastBottom cX0_leastBottom 1 (some .long), Cond.methodLink RX1 88 yX1_commonFactor, Cond.static yX1_commonFactor]
def wsX1_least_r7 : List Cond := [Cond.code yX1_commonFactor cX1_commonFactor 11 (some .long), Cond.methodLink RX1 112 Lib.MathLoose.abs_long.x, Cond.static Lib.MathLoose.abs_long.x, Cond.code Lib.MathLoose.abs_long.x Lib.MathLoose.abs_long.code 2 (some .long), Cond.methodLink RX1 118 Lib.MathLoose.max_long.x, Cond.static Lib.MathLoose.max_long.x, Cond.code Lib.MathLoose.max_long.x Lib.MathLoose.max_long.code 4 (some .long)]
def wsX1_least : List Cond := .code yX1_least cX1_least 10 (some .int) :: ((wsX1_least_r1 ++ (wsX1_least_r2 ++ (wsX1_least_r3 ++ (wsX1_least_r4 ++ (wsX1_least_r5 ++ (wsX1_least_r6 ++ wsX1_least_r7)))))) ++ wsX10 ++ wsX00)
def wsX1_top : List Cond := .code yX1_top cX1_top 1 (some .long) :: ([.fieldLink RX1 32 "RankFinder" "foundTop" "J"] ++ wsX10)
def wsX1_bottom : List Cond := .code yX1_bottom cX1_bottom 1 (some .long) :: ([.fieldLink RX1 36 "RankFinder" "foundBottom" "J"] ++ wsX10)
def wsX2_init : List Cond := .code yX2_init cX2_init 1 none :: ([.methodLink RX2 1 objectInit, .instanceMethod objectInit, .code objectInit ⟨#[0xb1]⟩ 1 none, .fieldLink RX2 7 "RankFinderModel" "n" "I", .arrayClass .int, .fieldLink RX2 13 "RankFinderModel" "numbers" "[I", .arrayClass .long, .fieldLink RX2 17 "RankFinderModel" "rows" "[J", .fieldLink RX2 21 "RankFinderModel" "next" "[J", .fieldLink RX2 24 "RankFinderModel" "origins" "[I", .fieldLink RX2 27 "RankFinderModel" "nextOrigins" "[I", .fieldLink RX2 30 "RankFinderModel" "highs" "[J", .fieldLink RX2 33 "RankFinderModel" "lows" "[J", .fieldLink RX2 36 "RankFinderModel" "wanted" "[I"] ++ wsX20)
def wsX2_begin : List Cond := .code yX2_begin cX2_begin 2 (some .boolean) :: ([.fieldLink RX2 7 "RankFinderModel" "n" "I", .fieldLink RX2 39 "RankFinderModel" "count" "I"] ++ wsX20)
def wsX2_isSmall : List Cond := .code yX2_isSmall cX2_isSmall 2 (some .boolean) :: ([])
def wsX2_rule : List Cond := .code yX2_rule cX2_rule 10 (some .int) :: ([.fieldLink RX2 39 "RankFinderModel" "count" "I", .fieldLink RX2 13 "RankFinderModel" "numbers" "[I", .methodLink RX2 42 yX2_isSmall, .static yX2_isSmall, .initialized RX2, .code yX2_isSmall cX2_isSmall 2 (some .boolean)] ++ wsX20)
def wsX2_drop : List Cond := .code yX2_drop cX2_drop 3 (some .boolean) :: ([.fieldLink RX2 39 "RankFinderModel" "count" "I", .fieldLink RX2 13 "RankFinderModel" "numbers" "[I"] ++ wsX20)
def wsX2_rules : List Cond := .code yX2_rules cX2_rules 1 (some .int) :: ([.fieldLink RX2 39 "RankFinderModel" "count" "I"] ++ wsX20)
def wsX2_number : List Cond := .code yX2_number cX2_number 3 (some .int) :: ([.fieldLink RX2 39 "RankFinderModel" "count" "I", .fieldLink RX2 13 "RankFinderModel" "numbers" "[I"] ++ wsX20)
def wsX2_keeps : List Cond := .code yX2_keeps cX2_keeps 16 (some .boolean) :: ([.fieldLink RX2 39 "RankFinderModel" "count" "I", .fieldLink RX2 7 "RankFinderModel" "n" "I", .fieldLink RX2 13 "RankFinderModel" "numbers" "[I"] ++ wsX20)
def wsX2_empty : List Cond := .code yX2_empty cX2_empty 2 (some .int) :: ([.fieldLink RX2 17 "RankFinderModel" "rows" "[J", .fieldLink RX2 46 "RankFinderModel" "rowCount" "I", .fieldLink RX2 24 "RankFinderModel" "origins" "[I"] ++ wsX20)
def wsX2_beginRows : List Cond := .code yX2_beginRows cX2_beginRows 4 none :: ([.fieldLink RX2 46 "RankFinderModel" "rowCount" "I", .fieldLink RX2 39 "RankFinderModel" "count" "I", .fieldLink RX2 7 "RankFinderModel" "n" "I", .fieldLink RX2 17 "RankFinderModel" "rows" "[J", .fieldLink RX2 13 "RankFinderModel" "numbers" "[I", .methodLink RX2 49 yX2_empty, .instanceMethod yX2_empty, .selects RX2 yX2_empty yX2_empty, .initialized RX2, .code yX2_empty cX2_empty 2 (some .int), .fieldLink RX2 24 "RankFinderModel" "origins" "[I"] ++ wsX20)
def wsX2_size : List Cond := .code yX2_size cX2_size 3 (some .int) :: ([])
def wsX2_areBeside : List Cond := .code yX2_areBeside cX2_areBeside 5 (some .boolean) :: ([.fieldLink RX2 24 "RankFinderModel" "origins" "[I", .fieldLink RX2 46 "RankFinderModel" "rowCount" "I"] ++ wsX20)
def wsX2_isBelow : List Cond := .code yX2_isBelow cX2_isBelow 4 (some .boolean) :: ([.constantLong RX2 53 (-9223372036854775808)])
def wsX2_high : List Cond := .code yX2_high cX2_high 16 (some .long) :: ([.constantLong RX2 55 (4294967295)])
def wsX2_make : List Cond := .code yX2_make cX2_make 14 none :: ([.fieldLink RX2 30 "RankFinderModel" "highs" "[J", .fieldLink RX2 33 "RankFinderModel" "lows" "[J", .methodLink RX2 57 yX2_high, .static yX2_high, .initialized RX2, .code yX2_high cX2_high 16 (some .long), .constantLong RX2 55 (4294967295), .methodLink RX2 61 yX2_isBelow, .static yX2_isBelow, .code yX2_isBelow cX2_isBelow 4 (some .boolean), .constantLong RX2 53 (-9223372036854775808)] ++ wsX20)
def wsX2_gather : List Cond := .code yX2_gather cX2_gather 18 none :: ([.fieldLink RX2 65 "RankFinderModel" "divisorHigh" "J", .fieldLink RX2 69 "RankFinderModel" "divisorLow" "J", .methodLink RX2 61 yX2_isBelow, .static yX2_isBelow, .initialized RX2, .code yX2_isBelow cX2_isBelow 4 (some .boolean), .constantLong RX2 53 (-9223372036854775808)] ++ wsX20)
def wsX2_share : List Cond := .code yX2_share cX2_share 14 (some .long) :: ([.fieldLink RX2 65 "RankFinderModel" "divisorHigh" "J", .fieldLink RX2 69 "RankFinderModel" "divisorLow" "J", .methodLink RX2 61 yX2_isBelow, .static yX2_isBelow, .initialized RX2, .code yX2_isBelow cX2_isBelow 4 (some .boolean), .constantLong RX2 53 (-9223372036854775808)] ++ wsX20)
def wsX2_combine_r1 : List Cond := [Cond.fieldLink RX2 17 "RankFinderModel" "rows" "[J", Cond.fieldLink RX2 65 "RankFinderModel" "divisorHigh" "J", Cond.fieldLink RX2 69 "RankFinderModel" "divisorLow" "J", Cond.fieldLink RX2 30 "RankFinderModel" "highs" "[J", Cond.fieldLink RX2 33 "RankFinderModel" "lows" "[J", Cond.fieldLink RX2 21 "RankFinderModel" "next" "[J", Cond.fieldLink RX2 83 "RankFinderModel" "nextCount" "I", Cond.fieldLink RX2 27 "RankFinderModel" "nextOrigins" "[I", Cond.fieldLink RX2 24 "RankFinderModel" "origins" "[I", Cond.methodLink RX2 72 yX2_make, Cond.instanceMethod yX2_make, Cond.selects RX2 yX2_make yX2_make, Cond.initialized RX2, Cond.code yX2_make cX2_make 14 none, Cond.methodLink RX2 57 yX2_high, Cond.static yX2_high, Cond.code yX2_high cX2_high 16 (some .long), Cond.constantLong RX2 55 (4294967295), Cond.methodLink RX2 61 yX2_isBelow, Cond.static yX2_isBelow, Cond.code yX2_isBelow cX2_isBelow 4 (some .boolean), Cond.constantLong RX2 53 (-9223372036854775808), Cond.methodLink RX2 76 yX2_gather, Cond.instanceMethod yX2_gather]
def wsX2_combine_r2 : List Cond := [Cond.selects RX2 yX2_gather yX2_gather, Cond.code yX2_gather cX2_gather 18 none, Cond.methodLink RX2 80 yX2_share, Cond.instanceMethod yX2_share, Cond.selects RX2 yX2_share yX2_share, Cond.code yX2_share cX2_share 14 (some .long)]
def wsX2_combine : List Cond := .code yX2_combine cX2_combine 17 none :: ((wsX2_combine_r1 ++ wsX2_combine_r2) ++ wsX20)
def wsX2_carry : List Cond := .code yX2_carry cX2_carry 3 none :: ([.fieldLink RX2 21 "RankFinderModel" "next" "[J", .fieldLink RX2 83 "RankFinderModel" "nextCount" "I", .fieldLink RX2 17 "RankFinderModel" "rows" "[J", .fieldLink RX2 27 "RankFinderModel" "nextOrigins" "[I", .fieldLink RX2 24 "RankFinderModel" "origins" "[I"] ++ wsX20)
def wsX2_eliminate_r1 : List Cond := [Cond.fieldLink RX2 83 "RankFinderModel" "nextCount" "I", Cond.fieldLink RX2 46 "RankFinderModel" "rowCount" "I", Cond.fieldLink RX2 17 "RankFinderModel" "rows" "[J", Cond.fieldLink RX2 24 "RankFinderModel" "origins" "[I", Cond.fieldLink RX2 21 "RankFinderModel" "next" "[J", Cond.fieldLink RX2 27 "RankFinderModel" "nextOrigins" "[I", Cond.methodLink RX2 86 yX2_carry, Cond.instanceMethod yX2_carry, Cond.selects RX2 yX2_carry yX2_carry, Cond.initialized RX2, Cond.code yX2_carry cX2_carry 3 none, Cond.methodLink RX2 90 yX2_size, Cond.static yX2_size, Cond.code yX2_size cX2_size 3 (some .int), Cond.methodLink RX2 94 yX2_areBeside, Cond.instanceMethod yX2_areBeside, Cond.selects RX2 yX2_areBeside yX2_areBeside, Cond.code yX2_areBeside cX2_areBeside 5 (some .boolean), Cond.methodLink RX2 97 yX2_combine, Cond.instanceMethod yX2_combine, Cond.selects RX2 yX2_combine yX2_combine, Cond.code yX2_combine cX2_combine 17 none, Cond.fieldLink RX2 65 "RankFinderModel" "divisorHigh" "J", Cond.fieldLink RX2 69 "RankFinderModel" "divisorLow" "J"]
def wsX2_eliminate_r2 : List Cond := [Cond.fieldLink RX2 30 "RankFinderModel" "highs" "[J", Cond.fieldLink RX2 33 "RankFinderModel" "lows" "[J", Cond.methodLink RX2 72 yX2_make, Cond.instanceMethod yX2_make, Cond.selects RX2 yX2_make yX2_make, Cond.code yX2_make cX2_make 14 none, Cond.methodLink RX2 57 yX2_high, Cond.static yX2_high, Cond.code yX2_high cX2_high 16 (some .long), Cond.constantLong RX2 55 (4294967295), Cond.methodLink RX2 61 yX2_isBelow, Cond.static yX2_isBelow, Cond.code yX2_isBelow cX2_isBelow 4 (some .boolean), Cond.constantLong RX2 53 (-9223372036854775808), Cond.methodLink RX2 76 yX2_gather, Cond.instanceMethod yX2_gather, Cond.selects RX2 yX2_gather yX2_gather, Cond.code yX2_gather cX2_gather 18 none, Cond.methodLink RX2 80 yX2_share, Cond.instanceMethod yX2_share, Cond.selects RX2 yX2_share yX2_share, Cond.code yX2_share cX2_share 14 (some .long)]
def wsX2_eliminate : List Cond := .code yX2_eliminate cX2_eliminate 8 none :: ((wsX2_eliminate_r1 ++ wsX2_eliminate_r2) ++ wsX20)
def wsX2_eliminateAll_r1 : List Cond := [Cond.methodLink RX2 101 yX2_eliminate, Cond.instanceMethod yX2_eliminate, Cond.selects RX2 yX2_eliminate yX2_eliminate, Cond.initialized RX2, Cond.code yX2_eliminate cX2_eliminate 8 none, Cond.fieldLink RX2 83 "RankFinderModel" "nextCount" "I", Cond.fieldLink RX2 46 "RankFinderModel" "rowCount" "I", Cond.fieldLink RX2 17 "RankFinderModel" "rows" "[J", Cond.fieldLink RX2 24 "RankFinderModel" "origins" "[I", Cond.fieldLink RX2 21 "RankFinderModel" "next" "[J", Cond.fieldLink RX2 27 "RankFinderModel" "nextOrigins" "[I", Cond.methodLink RX2 86 yX2_carry, Cond.instanceMethod yX2_carry, Cond.selects RX2 yX2_carry yX2_carry, Cond.code yX2_carry cX2_carry 3 none, Cond.methodLink RX2 90 yX2_size, Cond.static yX2_size, Cond.code yX2_size cX2_size 3 (some .int), Cond.methodLink RX2 94 yX2_areBeside, Cond.instanceMethod yX2_areBeside, Cond.selects RX2 yX2_areBeside yX2_areBeside, Cond.code yX2_areBeside cX2_areBeside 5 (some .boolean), Cond.methodLink RX2 97 yX2_combine, Cond.instanceMethod yX2_combine]
def wsX2_eliminateAll_r2 : List Cond := [Cond.selects RX2 yX2_combine yX2_combine, Cond.code yX2_combine cX2_combine 17 none, Cond.fieldLink RX2 65 "RankFinderModel" "divisorHigh" "J", Cond.fieldLink RX2 69 "RankFinderModel" "divisorLow" "J", Cond.fieldLink RX2 30 "RankFinderModel" "highs" "[J", Cond.fieldLink RX2 33 "RankFinderModel" "lows" "[J", Cond.methodLink RX2 72 yX2_make, Cond.instanceMethod yX2_make, Cond.selects RX2 yX2_make yX2_make, Cond.code yX2_make cX2_make 14 none, Cond.methodLink RX2 57 yX2_high, Cond.static yX2_high, Cond.code yX2_high cX2_high 16 (some .long), Cond.constantLong RX2 55 (4294967295), Cond.methodLink RX2 61 yX2_isBelow, Cond.static yX2_isBelow, Cond.code yX2_isBelow cX2_isBelow 4 (some .boolean), Cond.constantLong RX2 53 (-9223372036854775808), Cond.methodLink RX2 76 yX2_gather, Cond.instanceMethod yX2_gather, Cond.selects RX2 yX2_gather yX2_gather, Cond.code yX2_gather cX2_gather 18 none, Cond.methodLink RX2 80 yX2_share, Cond.instanceMethod yX2_share]
def wsX2_eliminateAll_r3 : List Cond := [Cond.selects RX2 yX2_share yX2_share, Cond.code yX2_share cX2_share 14 (some .long)]
def wsX2_eliminateAll : List Cond := .code yX2_eliminateAll cX2_eliminateAll 2 none :: ((wsX2_eliminateAll_r1 ++ (wsX2_eliminateAll_r2 ++ wsX2_eliminateAll_r3)) ++ wsX20)
def wsX2_isPossible : List Cond := .code yX2_isPossible cX2_isPossible 3 (some .boolean) :: ([.fieldLink RX2 46 "RankFinderModel" "rowCount" "I", .fieldLink RX2 17 "RankFinderModel" "rows" "[J"] ++ wsX20)
def wsX2_hasTurn_r1 : List Cond := [Cond.methodLink RX2 105 yX2_beginRows, Cond.instanceMethod yX2_beginRows, Cond.selects RX2 yX2_beginRows yX2_beginRows, Cond.initialized RX2, Cond.code yX2_beginRows cX2_beginRows 4 none, Cond.fieldLink RX2 46 "RankFinderModel" "rowCount" "I", Cond.fieldLink RX2 39 "RankFinderModel" "count" "I", Cond.fieldLink RX2 7 "RankFinderModel" "n" "I", Cond.fieldLink RX2 17 "RankFinderModel" "rows" "[J", Cond.fieldLink RX2 13 "RankFinderModel" "numbers" "[I", Cond.methodLink RX2 49 yX2_empty, Cond.instanceMethod yX2_empty, Cond.selects RX2 yX2_empty yX2_empty, Cond.code yX2_empty cX2_empty 2 (some .int), Cond.fieldLink RX2 24 "RankFinderModel" "origins" "[I", Cond.methodLink RX2 108 yX2_eliminateAll, Cond.instanceMethod yX2_eliminateAll, Cond.selects RX2 yX2_eliminateAll yX2_eliminateAll, Cond.code yX2_eliminateAll cX2_eliminateAll 2 none, Cond.methodLink RX2 101 yX2_eliminate, Cond.instanceMethod yX2_eliminate, Cond.selects RX2 yX2_eliminate yX2_eliminate, Cond.code yX2_eliminate cX2_eliminate 8 none, Cond.fieldLink RX2 83 "RankFinderModel" "nextCount" "I"]
def wsX2_hasTurn_r2 : List Cond := [Cond.fieldLink RX2 21 "RankFinderModel" "next" "[J", Cond.fieldLink RX2 27 "RankFinderModel" "nextOrigins" "[I", Cond.methodLink RX2 86 yX2_carry, Cond.instanceMethod yX2_carry, Cond.selects RX2 yX2_carry yX2_carry, Cond.code yX2_carry cX2_carry 3 none, Cond.methodLink RX2 90 yX2_size, Cond.static yX2_size, Cond.code yX2_size cX2_size 3 (some .int), Cond.methodLink RX2 94 yX2_areBeside, Cond.instanceMethod yX2_areBeside, Cond.selects RX2 yX2_areBeside yX2_areBeside, Cond.code yX2_areBeside cX2_areBeside 5 (some .boolean), Cond.methodLink RX2 97 yX2_combine, Cond.instanceMethod yX2_combine, Cond.selects RX2 yX2_combine yX2_combine, Cond.code yX2_combine cX2_combine 17 none, Cond.fieldLink RX2 65 "RankFinderModel" "divisorHigh" "J", Cond.fieldLink RX2 69 "RankFinderModel" "divisorLow" "J", Cond.fieldLink RX2 30 "RankFinderModel" "highs" "[J", Cond.fieldLink RX2 33 "RankFinderModel" "lows" "[J", Cond.methodLink RX2 72 yX2_make, Cond.instanceMethod yX2_make, Cond.selects RX2 yX2_make yX2_make]
def wsX2_hasTurn_r3 : List Cond := [Cond.code yX2_make cX2_make 14 none, Cond.methodLink RX2 57 yX2_high, Cond.static yX2_high, Cond.code yX2_high cX2_high 16 (some .long), Cond.constantLong RX2 55 (4294967295), Cond.methodLink RX2 61 yX2_isBelow, Cond.static yX2_isBelow, Cond.code yX2_isBelow cX2_isBelow 4 (some .boolean), Cond.constantLong RX2 53 (-9223372036854775808), Cond.methodLink RX2 76 yX2_gather, Cond.instanceMethod yX2_gather, Cond.selects RX2 yX2_gather yX2_gather, Cond.code yX2_gather cX2_gather 18 none, Cond.methodLink RX2 80 yX2_share, Cond.instanceMethod yX2_share, Cond.selects RX2 yX2_share yX2_share, Cond.code yX2_share cX2_share 14 (some .long), Cond.methodLink RX2 111 yX2_isPossible, Cond.instanceMethod yX2_isPossible, Cond.selects RX2 yX2_isPossible yX2_isPossible, Cond.code yX2_isPossible cX2_isPossible 3 (some .boolean)]
def wsX2_hasTurn : List Cond := .code yX2_hasTurn cX2_hasTurn 1 (some .boolean) :: ((wsX2_hasTurn_r1 ++ (wsX2_hasTurn_r2 ++ wsX2_hasTurn_r3)) ++ wsX20)
def wsX2_ranked_r1 : List Cond := [Cond.fieldLink RX2 39 "RankFinderModel" "count" "I", Cond.fieldLink RX2 7 "RankFinderModel" "n" "I", Cond.fieldLink RX2 17 "RankFinderModel" "rows" "[J", Cond.fieldLink RX2 13 "RankFinderModel" "numbers" "[I", Cond.methodLink RX2 115 yX2_hasTurn, Cond.instanceMethod yX2_hasTurn, Cond.selects RX2 yX2_hasTurn yX2_hasTurn, Cond.initialized RX2, Cond.code yX2_hasTurn cX2_hasTurn 1 (some .boolean), Cond.methodLink RX2 105 yX2_beginRows, Cond.instanceMethod yX2_beginRows, Cond.selects RX2 yX2_beginRows yX2_beginRows, Cond.code yX2_beginRows cX2_beginRows 4 none, Cond.fieldLink RX2 46 "RankFinderModel" "rowCount" "I", Cond.methodLink RX2 49 yX2_empty, Cond.instanceMethod yX2_empty, Cond.selects RX2 yX2_empty yX2_empty, Cond.code yX2_empty cX2_empty 2 (some .int), Cond.fieldLink RX2 24 "RankFinderModel" "origins" "[I", Cond.methodLink RX2 108 yX2_eliminateAll, Cond.instanceMethod yX2_eliminateAll, Cond.selects RX2 yX2_eliminateAll yX2_eliminateAll, Cond.code yX2_eliminateAll cX2_eliminateAll 2 none, Cond.methodLink RX2 101 yX2_eliminate]
def wsX2_ranked_r2 : List Cond := [Cond.instanceMethod yX2_eliminate, Cond.selects RX2 yX2_eliminate yX2_eliminate, Cond.code yX2_eliminate cX2_eliminate 8 none, Cond.fieldLink RX2 83 "RankFinderModel" "nextCount" "I", Cond.fieldLink RX2 21 "RankFinderModel" "next" "[J", Cond.fieldLink RX2 27 "RankFinderModel" "nextOrigins" "[I", Cond.methodLink RX2 86 yX2_carry, Cond.instanceMethod yX2_carry, Cond.selects RX2 yX2_carry yX2_carry, Cond.code yX2_carry cX2_carry 3 none, Cond.methodLink RX2 90 yX2_size, Cond.static yX2_size, Cond.code yX2_size cX2_size 3 (some .int), Cond.methodLink RX2 94 yX2_areBeside, Cond.instanceMethod yX2_areBeside, Cond.selects RX2 yX2_areBeside yX2_areBeside, Cond.code yX2_areBeside cX2_areBeside 5 (some .boolean), Cond.methodLink RX2 97 yX2_combine, Cond.instanceMethod yX2_combine, Cond.selects RX2 yX2_combine yX2_combine, Cond.code yX2_combine cX2_combine 17 none, Cond.fieldLink RX2 65 "RankFinderModel" "divisorHigh" "J", Cond.fieldLink RX2 69 "RankFinderModel" "divisorLow" "J", Cond.fieldLink RX2 30 "RankFinderModel" "highs" "[J"]
def wsX2_ranked_r3 : List Cond := [Cond.fieldLink RX2 33 "RankFinderModel" "lows" "[J", Cond.methodLink RX2 72 yX2_make, Cond.instanceMethod yX2_make, Cond.selects RX2 yX2_make yX2_make, Cond.code yX2_make cX2_make 14 none, Cond.methodLink RX2 57 yX2_high, Cond.static yX2_high, Cond.code yX2_high cX2_high 16 (some .long), Cond.constantLong RX2 55 (4294967295), Cond.methodLink RX2 61 yX2_isBelow, Cond.static yX2_isBelow, Cond.code yX2_isBelow cX2_isBelow 4 (some .boolean), Cond.constantLong RX2 53 (-9223372036854775808), Cond.methodLink RX2 76 yX2_gather, Cond.instanceMethod yX2_gather, Cond.selects RX2 yX2_gather yX2_gather, Cond.code yX2_gather cX2_gather 18 none, Cond.methodLink RX2 80 yX2_share, Cond.instanceMethod yX2_share, Cond.selects RX2 yX2_share yX2_share, Cond.code yX2_share cX2_share 14 (some .long), Cond.methodLink RX2 111 yX2_isPossible, Cond.instanceMethod yX2_isPossible, Cond.selects RX2 yX2_isPossible yX2_isPossible]
def wsX2_ranked_r4 : List Cond := [Cond.code yX2_isPossible cX2_isPossible 3 (some .boolean)]
def wsX2_ranked : List Cond := .code yX2_ranked cX2_ranked 4 (some .boolean) :: ((wsX2_ranked_r1 ++ (wsX2_ranked_r2 ++ (wsX2_ranked_r3 ++ wsX2_ranked_r4))) ++ wsX20)
def wsX2_isGreater : List Cond := .code yX2_isGreater cX2_isGreater 3 (some .boolean) :: ([.fieldLink RX2 17 "RankFinderModel" "rows" "[J", .fieldLink RX2 30 "RankFinderModel" "highs" "[J", .fieldLink RX2 33 "RankFinderModel" "lows" "[J", .methodLink RX2 72 yX2_make, .instanceMethod yX2_make, .selects RX2 yX2_make yX2_make, .initialized RX2, .code yX2_make cX2_make 14 none, .methodLink RX2 57 yX2_high, .static yX2_high, .code yX2_high cX2_high 16 (some .long), .constantLong RX2 55 (4294967295), .methodLink RX2 61 yX2_isBelow, .static yX2_isBelow, .code yX2_isBelow cX2_isBelow 4 (some .boolean), .constantLong RX2 53 (-9223372036854775808)] ++ wsX20)
def wsX2_search_r1 : List Cond := [Cond.fieldLink RX2 7 "RankFinderModel" "n" "I", Cond.fieldLink RX2 17 "RankFinderModel" "rows" "[J", Cond.fieldLink RX2 36 "RankFinderModel" "wanted" "[I", Cond.constantLong RX2 118 (-1), Cond.fieldLink RX2 46 "RankFinderModel" "rowCount" "I", Cond.fieldLink RX2 123 "RankFinderModel" "foundTop" "J", Cond.fieldLink RX2 126 "RankFinderModel" "foundBottom" "J", Cond.methodLink RX2 105 yX2_beginRows, Cond.instanceMethod yX2_beginRows, Cond.selects RX2 yX2_beginRows yX2_beginRows, Cond.initialized RX2, Cond.code yX2_beginRows cX2_beginRows 4 none, Cond.fieldLink RX2 39 "RankFinderModel" "count" "I", Cond.fieldLink RX2 13 "RankFinderModel" "numbers" "[I", Cond.methodLink RX2 49 yX2_empty, Cond.instanceMethod yX2_empty, Cond.selects RX2 yX2_empty yX2_empty, Cond.code yX2_empty cX2_empty 2 (some .int), Cond.fieldLink RX2 24 "RankFinderModel" "origins" "[I", Cond.methodLink RX2 108 yX2_eliminateAll, Cond.instanceMethod yX2_eliminateAll, Cond.selects RX2 yX2_eliminateAll yX2_eliminateAll, Cond.code yX2_eliminateAll cX2_eliminateAll 2 none, Cond.methodLink RX2 101 yX2_eliminate]
def wsX2_search_r2 : List Cond := [Cond.instanceMethod yX2_eliminate, Cond.selects RX2 yX2_eliminate yX2_eliminate, Cond.code yX2_eliminate cX2_eliminate 8 none, Cond.fieldLink RX2 83 "RankFinderModel" "nextCount" "I", Cond.fieldLink RX2 21 "RankFinderModel" "next" "[J", Cond.fieldLink RX2 27 "RankFinderModel" "nextOrigins" "[I", Cond.methodLink RX2 86 yX2_carry, Cond.instanceMethod yX2_carry, Cond.selects RX2 yX2_carry yX2_carry, Cond.code yX2_carry cX2_carry 3 none, Cond.methodLink RX2 90 yX2_size, Cond.static yX2_size, Cond.code yX2_size cX2_size 3 (some .int), Cond.methodLink RX2 94 yX2_areBeside, Cond.instanceMethod yX2_areBeside, Cond.selects RX2 yX2_areBeside yX2_areBeside, Cond.code yX2_areBeside cX2_areBeside 5 (some .boolean), Cond.methodLink RX2 97 yX2_combine, Cond.instanceMethod yX2_combine, Cond.selects RX2 yX2_combine yX2_combine, Cond.code yX2_combine cX2_combine 17 none, Cond.fieldLink RX2 65 "RankFinderModel" "divisorHigh" "J", Cond.fieldLink RX2 69 "RankFinderModel" "divisorLow" "J", Cond.fieldLink RX2 30 "RankFinderModel" "highs" "[J"]
def wsX2_search_r3 : List Cond := [Cond.fieldLink RX2 33 "RankFinderModel" "lows" "[J", Cond.methodLink RX2 72 yX2_make, Cond.instanceMethod yX2_make, Cond.selects RX2 yX2_make yX2_make, Cond.code yX2_make cX2_make 14 none, Cond.methodLink RX2 57 yX2_high, Cond.static yX2_high, Cond.code yX2_high cX2_high 16 (some .long), Cond.constantLong RX2 55 (4294967295), Cond.methodLink RX2 61 yX2_isBelow, Cond.static yX2_isBelow, Cond.code yX2_isBelow cX2_isBelow 4 (some .boolean), Cond.constantLong RX2 53 (-9223372036854775808), Cond.methodLink RX2 76 yX2_gather, Cond.instanceMethod yX2_gather, Cond.selects RX2 yX2_gather yX2_gather, Cond.code yX2_gather cX2_gather 18 none, Cond.methodLink RX2 80 yX2_share, Cond.instanceMethod yX2_share, Cond.selects RX2 yX2_share yX2_share, Cond.code yX2_share cX2_share 14 (some .long), Cond.methodLink RX2 111 yX2_isPossible, Cond.instanceMethod yX2_isPossible, Cond.selects RX2 yX2_isPossible yX2_isPossible]
def wsX2_search_r4 : List Cond := [Cond.code yX2_isPossible cX2_isPossible 3 (some .boolean), Cond.methodLink RX2 120 yX2_isGreater, Cond.instanceMethod yX2_isGreater, Cond.selects RX2 yX2_isGreater yX2_isGreater, Cond.code yX2_isGreater cX2_isGreater 3 (some .boolean)]
def wsX2_search : List Cond := .code yX2_search cX2_search 9 (some .int) :: ((wsX2_search_r1 ++ (wsX2_search_r2 ++ (wsX2_search_r3 ++ wsX2_search_r4))) ++ wsX20)
def wsX2_ranks_r1 : List Cond := [Cond.fieldLink RX2 36 "RankFinderModel" "wanted" "[I", Cond.fieldLink RX2 123 "RankFinderModel" "foundTop" "J", Cond.fieldLink RX2 126 "RankFinderModel" "foundBottom" "J", Cond.methodLink RX2 42 yX2_isSmall, Cond.static yX2_isSmall, Cond.initialized RX2, Cond.code yX2_isSmall cX2_isSmall 2 (some .boolean), Cond.methodLink RX2 129 yX2_search, Cond.instanceMethod yX2_search, Cond.selects RX2 yX2_search yX2_search, Cond.code yX2_search cX2_search 9 (some .int), Cond.fieldLink RX2 7 "RankFinderModel" "n" "I", Cond.fieldLink RX2 17 "RankFinderModel" "rows" "[J", Cond.constantLong RX2 118 (-1), Cond.fieldLink RX2 46 "RankFinderModel" "rowCount" "I", Cond.methodLink RX2 105 yX2_beginRows, Cond.instanceMethod yX2_beginRows, Cond.selects RX2 yX2_beginRows yX2_beginRows, Cond.code yX2_beginRows cX2_beginRows 4 none, Cond.fieldLink RX2 39 "RankFinderModel" "count" "I", Cond.fieldLink RX2 13 "RankFinderModel" "numbers" "[I", Cond.methodLink RX2 49 yX2_empty, Cond.instanceMethod yX2_empty, Cond.selects RX2 yX2_empty yX2_empty]
def wsX2_ranks_r2 : List Cond := [Cond.code yX2_empty cX2_empty 2 (some .int), Cond.fieldLink RX2 24 "RankFinderModel" "origins" "[I", Cond.methodLink RX2 108 yX2_eliminateAll, Cond.instanceMethod yX2_eliminateAll, Cond.selects RX2 yX2_eliminateAll yX2_eliminateAll, Cond.code yX2_eliminateAll cX2_eliminateAll 2 none, Cond.methodLink RX2 101 yX2_eliminate, Cond.instanceMethod yX2_eliminate, Cond.selects RX2 yX2_eliminate yX2_eliminate, Cond.code yX2_eliminate cX2_eliminate 8 none, Cond.fieldLink RX2 83 "RankFinderModel" "nextCount" "I", Cond.fieldLink RX2 21 "RankFinderModel" "next" "[J", Cond.fieldLink RX2 27 "RankFinderModel" "nextOrigins" "[I", Cond.methodLink RX2 86 yX2_carry, Cond.instanceMethod yX2_carry, Cond.selects RX2 yX2_carry yX2_carry, Cond.code yX2_carry cX2_carry 3 none, Cond.methodLink RX2 90 yX2_size, Cond.static yX2_size, Cond.code yX2_size cX2_size 3 (some .int), Cond.methodLink RX2 94 yX2_areBeside, Cond.instanceMethod yX2_areBeside, Cond.selects RX2 yX2_areBeside yX2_areBeside, Cond.code yX2_areBeside cX2_areBeside 5 (some .boolean)]
def wsX2_ranks_r3 : List Cond := [Cond.methodLink RX2 97 yX2_combine, Cond.instanceMethod yX2_combine, Cond.selects RX2 yX2_combine yX2_combine, Cond.code yX2_combine cX2_combine 17 none, Cond.fieldLink RX2 65 "RankFinderModel" "divisorHigh" "J", Cond.fieldLink RX2 69 "RankFinderModel" "divisorLow" "J", Cond.fieldLink RX2 30 "RankFinderModel" "highs" "[J", Cond.fieldLink RX2 33 "RankFinderModel" "lows" "[J", Cond.methodLink RX2 72 yX2_make, Cond.instanceMethod yX2_make, Cond.selects RX2 yX2_make yX2_make, Cond.code yX2_make cX2_make 14 none, Cond.methodLink RX2 57 yX2_high, Cond.static yX2_high, Cond.code yX2_high cX2_high 16 (some .long), Cond.constantLong RX2 55 (4294967295), Cond.methodLink RX2 61 yX2_isBelow, Cond.static yX2_isBelow, Cond.code yX2_isBelow cX2_isBelow 4 (some .boolean), Cond.constantLong RX2 53 (-9223372036854775808), Cond.methodLink RX2 76 yX2_gather, Cond.instanceMethod yX2_gather, Cond.selects RX2 yX2_gather yX2_gather, Cond.code yX2_gather cX2_gather 18 none]
def wsX2_ranks_r4 : List Cond := [Cond.methodLink RX2 80 yX2_share, Cond.instanceMethod yX2_share, Cond.selects RX2 yX2_share yX2_share, Cond.code yX2_share cX2_share 14 (some .long), Cond.methodLink RX2 111 yX2_isPossible, Cond.instanceMethod yX2_isPossible, Cond.selects RX2 yX2_isPossible yX2_isPossible, Cond.code yX2_isPossible cX2_isPossible 3 (some .boolean), Cond.methodLink RX2 120 yX2_isGreater, Cond.instanceMethod yX2_isGreater, Cond.selects RX2 yX2_isGreater yX2_isGreater, Cond.code yX2_isGreater cX2_isGreater 3 (some .boolean)]
def wsX2_ranks : List Cond := .code yX2_ranks cX2_ranks 9 (some .boolean) :: ((wsX2_ranks_r1 ++ (wsX2_ranks_r2 ++ (wsX2_ranks_r3 ++ wsX2_ranks_r4))) ++ wsX20)
def wsX2_least_r1 : List Cond := [Cond.fieldLink RX2 36 "RankFinderModel" "wanted" "[I", Cond.fieldLink RX2 132 "RankFinderModel" "answered" "I", Cond.fieldLink RX2 123 "RankFinderModel" "foundTop" "J", Cond.fieldLink RX2 135 "RankFinderModel" "top" "J", Cond.fieldLink RX2 126 "RankFinderModel" "foundBottom" "J", Cond.fieldLink RX2 138 "RankFinderModel" "bottom" "J", Cond.methodLink RX2 42 yX2_isSmall, Cond.static yX2_isSmall, Cond.initialized RX2, Cond.code yX2_isSmall cX2_isSmall 2 (some .boolean), Cond.methodLink RX2 129 yX2_search, Cond.instanceMethod yX2_search, Cond.selects RX2 yX2_search yX2_search, Cond.code yX2_search cX2_search 9 (some .int), Cond.fieldLink RX2 7 "RankFinderModel" "n" "I", Cond.fieldLink RX2 17 "RankFinderModel" "rows" "[J", Cond.constantLong RX2 118 (-1), Cond.fieldLink RX2 46 "RankFinderModel" "rowCount" "I", Cond.methodLink RX2 105 yX2_beginRows, Cond.instanceMethod yX2_beginRows, Cond.selects RX2 yX2_beginRows yX2_beginRows, Cond.code yX2_beginRows cX2_beginRows 4 none, Cond.fieldLink RX2 39 "RankFinderModel" "count" "I", Cond.fieldLink RX2 13 "RankFinderModel" "numbers" "[I"]
def wsX2_least_r2 : List Cond := [Cond.methodLink RX2 49 yX2_empty, Cond.instanceMethod yX2_empty, Cond.selects RX2 yX2_empty yX2_empty, Cond.code yX2_empty cX2_empty 2 (some .int), Cond.fieldLink RX2 24 "RankFinderModel" "origins" "[I", Cond.methodLink RX2 108 yX2_eliminateAll, Cond.instanceMethod yX2_eliminateAll, Cond.selects RX2 yX2_eliminateAll yX2_eliminateAll, Cond.code yX2_eliminateAll cX2_eliminateAll 2 none, Cond.methodLink RX2 101 yX2_eliminate, Cond.instanceMethod yX2_eliminate, Cond.selects RX2 yX2_eliminate yX2_eliminate, Cond.code yX2_eliminate cX2_eliminate 8 none, Cond.fieldLink RX2 83 "RankFinderModel" "nextCount" "I", Cond.fieldLink RX2 21 "RankFinderModel" "next" "[J", Cond.fieldLink RX2 27 "RankFinderModel" "nextOrigins" "[I", Cond.methodLink RX2 86 yX2_carry, Cond.instanceMethod yX2_carry, Cond.selects RX2 yX2_carry yX2_carry, Cond.code yX2_carry cX2_carry 3 none, Cond.methodLink RX2 90 yX2_size, Cond.static yX2_size, Cond.code yX2_size cX2_size 3 (some .int), Cond.methodLink RX2 94 yX2_areBeside]
def wsX2_least_r3 : List Cond := [Cond.instanceMethod yX2_areBeside, Cond.selects RX2 yX2_areBeside yX2_areBeside, Cond.code yX2_areBeside cX2_areBeside 5 (some .boolean), Cond.methodLink RX2 97 yX2_combine, Cond.instanceMethod yX2_combine, Cond.selects RX2 yX2_combine yX2_combine, Cond.code yX2_combine cX2_combine 17 none, Cond.fieldLink RX2 65 "RankFinderModel" "divisorHigh" "J", Cond.fieldLink RX2 69 "RankFinderModel" "divisorLow" "J", Cond.fieldLink RX2 30 "RankFinderModel" "highs" "[J", Cond.fieldLink RX2 33 "RankFinderModel" "lows" "[J", Cond.methodLink RX2 72 yX2_make, Cond.instanceMethod yX2_make, Cond.selects RX2 yX2_make yX2_make, Cond.code yX2_make cX2_make 14 none, Cond.methodLink RX2 57 yX2_high, Cond.static yX2_high, Cond.code yX2_high cX2_high 16 (some .long), Cond.constantLong RX2 55 (4294967295), Cond.methodLink RX2 61 yX2_isBelow, Cond.static yX2_isBelow, Cond.code yX2_isBelow cX2_isBelow 4 (some .boolean), Cond.constantLong RX2 53 (-9223372036854775808), Cond.methodLink RX2 76 yX2_gather]
def wsX2_least_r4 : List Cond := [Cond.instanceMethod yX2_gather, Cond.selects RX2 yX2_gather yX2_gather, Cond.code yX2_gather cX2_gather 18 none, Cond.methodLink RX2 80 yX2_share, Cond.instanceMethod yX2_share, Cond.selects RX2 yX2_share yX2_share, Cond.code yX2_share cX2_share 14 (some .long), Cond.methodLink RX2 111 yX2_isPossible, Cond.instanceMethod yX2_isPossible, Cond.selects RX2 yX2_isPossible yX2_isPossible, Cond.code yX2_isPossible cX2_isPossible 3 (some .boolean), Cond.methodLink RX2 120 yX2_isGreater, Cond.instanceMethod yX2_isGreater, Cond.selects RX2 yX2_isGreater yX2_isGreater, Cond.code yX2_isGreater cX2_isGreater 3 (some .boolean)]
def wsX2_least : List Cond := .code yX2_least cX2_least 8 (some .int) :: ((wsX2_least_r1 ++ (wsX2_least_r2 ++ (wsX2_least_r3 ++ wsX2_least_r4))) ++ wsX20)
def wsX2_top : List Cond := .code yX2_top cX2_top 1 (some .long) :: ([.fieldLink RX2 135 "RankFinderModel" "top" "J"] ++ wsX20)
def wsX2_bottom : List Cond := .code yX2_bottom cX2_bottom 1 (some .long) :: ([.fieldLink RX2 138 "RankFinderModel" "bottom" "J"] ++ wsX20)
def wsJ9_abs_067f4 : List Cond := .code yJ9_abs_067f4 cJ9_abs_067f4 2 (some .long) :: ([])
def wsJ9_max_f86c9 : List Cond := .code yJ9_max_f86c9 cJ9_max_f86c9 4 (some .long) :: ([])
def wsJ9_min_7cf53 : List Cond := .code yJ9_min_7cf53 cJ9_min_7cf53 2 (some .int) :: ([])
def wsL_law_r1 : List Cond := [Cond.classLink RL 7 RX1, Cond.instantiable RX1 7, Cond.initialized RX1, Cond.classLink RL 10 RX2, Cond.instantiable RX2 19, Cond.initialized RX2, Cond.methodLink RL 9 yX1_init, Cond.instanceMethod yX1_init, Cond.code yX1_init cX1_init 1 none, Cond.methodLink RX1 1 objectInit, Cond.instanceMethod objectInit, Cond.code objectInit ⟨#[0xb1]⟩ 1 none, Cond.classLink RX1 9 "[[I", Cond.arrayClass .int, Cond.fieldLink RX1 11 "RankFinder" "told" "[[I", Cond.fieldLink RX1 14 "RankFinder" "goal" "[I", Cond.classLink RX1 18 RX0, Cond.instantiable RX0 7, Cond.initialized RX0, Cond.fieldLink RX1 21 "RankFinder" "weighing" "LRankFinder$Weighing;", Cond.fieldLink RX1 25 "RankFinder" "variables" "I", Cond.fieldLink RX1 29 "RankFinder" "count" "I", Cond.fieldLink RX1 32 "RankFinder" "foundTop" "J", Cond.fieldLink RX1 36 "RankFinder" "foundBottom" "J"]
def wsL_law_r2 : List Cond := [Cond.methodLink RX1 20 yX0_init, Cond.instanceMethod yX0_init, Cond.code yX0_init cX0_init 1 none, Cond.methodLink RX0 3 objectInit, Cond.classLink RX0 11 "[[J", Cond.arrayClass .long, Cond.fieldLink RX0 13 "RankFinder$Weighing" "cell" "[[J", Cond.fieldLink RX0 16 "RankFinder$Weighing" "held" "[I", Cond.fieldLink RX0 20 "RankFinder$Weighing" "equations" "I", Cond.fieldLink RX0 24 "RankFinder$Weighing" "weights" "I", Cond.fieldLink RX0 27 "RankFinder$Weighing" "unit" "J", Cond.fieldLink RX0 31 "RankFinder$Weighing" "unitTwos" "I", Cond.fieldLink RX0 34 "RankFinder$Weighing" "unitInverse" "J", Cond.methodLink RL 12 yX2_init, Cond.instanceMethod yX2_init, Cond.code yX2_init cX2_init 1 none, Cond.methodLink RX2 1 objectInit, Cond.fieldLink RX2 7 "RankFinderModel" "n" "I", Cond.fieldLink RX2 13 "RankFinderModel" "numbers" "[I", Cond.fieldLink RX2 17 "RankFinderModel" "rows" "[J", Cond.fieldLink RX2 21 "RankFinderModel" "next" "[J", Cond.fieldLink RX2 24 "RankFinderModel" "origins" "[I", Cond.fieldLink RX2 27 "RankFinderModel" "nextOrigins" "[I", Cond.fieldLink RX2 30 "RankFinderModel" "highs" "[J"]
def wsL_law_r3 : List Cond := [Cond.fieldLink RX2 33 "RankFinderModel" "lows" "[J", Cond.fieldLink RX2 36 "RankFinderModel" "wanted" "[I", Cond.methodLink RL 13 yX1_begin, Cond.instanceMethod yX1_begin, Cond.selects RX1 yX1_begin yX1_begin, Cond.code yX1_begin cX1_begin 2 (some .boolean), Cond.methodLink RL 17 yX2_begin, Cond.instanceMethod yX2_begin, Cond.selects RX2 yX2_begin yX2_begin, Cond.code yX2_begin cX2_begin 2 (some .boolean), Cond.fieldLink RX2 39 "RankFinderModel" "count" "I", Cond.methodLink RL 18 yX1_rule, Cond.instanceMethod yX1_rule, Cond.selects RX1 yX1_rule yX1_rule, Cond.code yX1_rule cX1_rule 9 (some .int), Cond.methodLink RX1 39 yX1_areWithin, Cond.static yX1_areWithin, Cond.code yX1_areWithin cX1_areWithin 4 (some .boolean), Cond.methodLink RX1 43 yX1_isWithin, Cond.static yX1_isWithin, Cond.code yX1_isWithin cX1_isWithin 2 (some .boolean), Cond.methodLink RX1 47 yX1_fill, Cond.static yX1_fill, Cond.code yX1_fill cX1_fill 5 none]
def wsL_law_r4 : List Cond := [Cond.methodLink RL 22 yX2_rule, Cond.instanceMethod yX2_rule, Cond.selects RX2 yX2_rule yX2_rule, Cond.code yX2_rule cX2_rule 10 (some .int), Cond.methodLink RX2 42 yX2_isSmall, Cond.static yX2_isSmall, Cond.code yX2_isSmall cX2_isSmall 2 (some .boolean), Cond.methodLink RL 23 yX1_drop, Cond.instanceMethod yX1_drop, Cond.selects RX1 yX1_drop yX1_drop, Cond.code yX1_drop cX1_drop 3 (some .boolean), Cond.methodLink RX1 55 arraycopyName, Cond.native arraycopyName, Cond.static arraycopyName, Cond.initialized "java/lang/System", Cond.methodLink RX1 51 yX1_isRule, Cond.instanceMethod yX1_isRule, Cond.selects RX1 yX1_isRule yX1_isRule, Cond.code yX1_isRule cX1_isRule 2 (some .boolean), Cond.methodLink RL 26 yX2_drop, Cond.instanceMethod yX2_drop, Cond.selects RX2 yX2_drop yX2_drop, Cond.code yX2_drop cX2_drop 3 (some .boolean), Cond.methodLink RL 27 yX1_rules]
def wsL_law_r5 : List Cond := [Cond.instanceMethod yX1_rules, Cond.selects RX1 yX1_rules yX1_rules, Cond.code yX1_rules cX1_rules 1 (some .int), Cond.methodLink RL 31 yX2_rules, Cond.instanceMethod yX2_rules, Cond.selects RX2 yX2_rules yX2_rules, Cond.code yX2_rules cX2_rules 1 (some .int), Cond.methodLink RL 32 yX1_number, Cond.instanceMethod yX1_number, Cond.selects RX1 yX1_number yX1_number, Cond.code yX1_number cX1_number 3 (some .int), Cond.methodLink RL 36 yX2_number, Cond.instanceMethod yX2_number, Cond.selects RX2 yX2_number yX2_number, Cond.code yX2_number cX2_number 3 (some .int), Cond.methodLink RL 37 yX1_keeps, Cond.instanceMethod yX1_keeps, Cond.selects RX1 yX1_keeps yX1_keeps, Cond.code yX1_keeps cX1_keeps 10 (some .boolean), Cond.methodLink RX1 61 yX1_partOf, Cond.instanceMethod yX1_partOf, Cond.selects RX1 yX1_partOf yX1_partOf, Cond.code yX1_partOf cX1_partOf 12 (some .long), Cond.methodLink RL 41 yX2_keeps]
def wsL_law_r6 : List Cond := [Cond.instanceMethod yX2_keeps, Cond.selects RX2 yX2_keeps yX2_keeps, Cond.code yX2_keeps cX2_keeps 16 (some .boolean), Cond.methodLink RL 42 yX1_hasTurn, Cond.instanceMethod yX1_hasTurn, Cond.selects RX1 yX1_hasTurn yX1_hasTurn, Cond.code yX1_hasTurn cX1_hasTurn 1 (some .boolean), Cond.methodLink RX1 65 yJ7_fill_53178, Cond.static yJ7_fill_53178, Cond.initialized RJ7, Cond.code yJ7_fill_53178 cJ7_fill_53178 4 none, Cond.methodLink RX1 70 yX1_seekLeast, Cond.instanceMethod yX1_seekLeast, Cond.selects RX1 yX1_seekLeast yX1_seekLeast, Cond.code yX1_seekLeast cX1_seekLeast 1 (some .int), Cond.methodLink RX1 92 yX1_weighGoal, Cond.instanceMethod yX1_weighGoal, Cond.selects RX1 yX1_weighGoal yX1_weighGoal, Cond.code yX1_weighGoal cX1_weighGoal 4 none, Cond.methodLink RX1 98 yX0_clear, Cond.instanceMethod yX0_clear, Cond.selects RX0 yX0_clear yX0_clear, Cond.code yX0_clear cX0_clear 4 none, Cond.methodLink RX0 37 Lib.Math.min.name]
def wsL_law_r7 : List Cond := [Cond.static Lib.Math.min.name, Cond.initialized "java/lang/Math", Cond.code Lib.Math.min.name Lib.Math.min.code 2 (some .int), Cond.methodLink RX0 43 yJ7_fill_d0a16, Cond.static yJ7_fill_d0a16, Cond.code yJ7_fill_d0a16 cJ7_fill_d0a16 5 none, Cond.methodLink RX0 49 yJ7_fill_53178, Cond.methodLink RX0 52 yX0_takeUnit, Cond.instanceMethod yX0_takeUnit, Cond.selects RX0 yX0_takeUnit yX0_takeUnit, Cond.code yX0_takeUnit cX0_takeUnit 8 none, Cond.constantLong RX0 107 (2), Cond.methodLink RX0 101 yJ13_bitCount_95d88, Cond.static yJ13_bitCount_95d88, Cond.initialized RJ13, Cond.code yJ13_bitCount_95d88 cJ13_bitCount_95d88 2 (some .int), Cond.constantLong RJ13 314 (6148914691236517205), Cond.constantLong RJ13 316 (3689348814741910323), Cond.constantLong RJ13 318 (1085102592571150095), Cond.methodLink RX1 102 yX0_put, Cond.instanceMethod yX0_put, Cond.selects RX0 yX0_put yX0_put, Cond.code yX0_put cX0_put 4 none, Cond.methodLink RX1 106 yX0_putRightSide]
def wsL_law_r8 : List Cond := [Cond.instanceMethod yX0_putRightSide, Cond.selects RX0 yX0_putRightSide yX0_putRightSide, Cond.code yX0_putRightSide cX0_putRightSide 3 none, Cond.methodLink RX1 109 yX0_putCost, Cond.instanceMethod yX0_putCost, Cond.selects RX0 yX0_putCost yX0_putCost, Cond.code yX0_putCost cX0_putCost 3 none, Cond.methodLink RX1 77 yX0_fallsForEver, Cond.instanceMethod yX0_fallsForEver, Cond.selects RX0 yX0_fallsForEver yX0_fallsForEver, Cond.code yX0_fallsForEver cX0_fallsForEver 4 (some .boolean), Cond.constant RX0 59 (1000000), Cond.methodLink RX0 56 yX0_holdColumns, Cond.instanceMethod yX0_holdColumns, Cond.selects RX0 yX0_holdColumns yX0_holdColumns, Cond.code yX0_holdColumns cX0_holdColumns 3 none, Cond.methodLink RX0 82 yX0_firstColumnOf, Cond.instanceMethod yX0_firstColumnOf, Cond.selects RX0 yX0_firstColumnOf yX0_firstColumnOf, Cond.code yX0_firstColumnOf cX0_firstColumnOf 3 (some .int), Cond.methodLink RX0 68 yX0_exchange, Cond.instanceMethod yX0_exchange, Cond.selects RX0 yX0_exchange yX0_exchange, Cond.code yX0_exchange cX0_exchange 9 none]
def wsL_law_r9 : List Cond := [Cond.methodLink RX0 93 yX0_negate, Cond.instanceMethod yX0_negate, Cond.selects RX0 yX0_negate yX0_negate, Cond.code yX0_negate cX0_negate 3 none, Cond.methodLink RX0 97 yX0_differenceByUnit, Cond.instanceMethod yX0_differenceByUnit, Cond.selects RX0 yX0_differenceByUnit yX0_differenceByUnit, Cond.code yX0_differenceByUnit cX0_differenceByUnit 19 (some .long), Cond.constantLong RX0 113 (-9223372036854775808), Cond.methodLink RX0 109 yX0_highProduct, Cond.static yX0_highProduct, Cond.code yX0_highProduct cX0_highProduct 16 (some .long), Cond.constantLong RX0 115 (4294967295), Cond.methodLink RX0 60 yX0_columnThatSaves, Cond.instanceMethod yX0_columnThatSaves, Cond.selects RX0 yX0_columnThatSaves yX0_columnThatSaves, Cond.code yX0_columnThatSaves cX0_columnThatSaves 2 (some .int), Cond.methodLink RX0 64 yX0_rowThatLimits, Cond.instanceMethod yX0_rowThatLimits, Cond.selects RX0 yX0_rowThatLimits yX0_rowThatLimits, Cond.code yX0_rowThatLimits cX0_rowThatLimits 4 (some .int), Cond.methodLink RX0 85 yX0_holdsLess, Cond.instanceMethod yX0_holdsLess, Cond.selects RX0 yX0_holdsLess yX0_holdsLess]
def wsL_law_r10 : List Cond := [Cond.code yX0_holdsLess cX0_holdsLess 3 (some .boolean), Cond.methodLink RX1 95 yX0_reachesRightSides, Cond.instanceMethod yX0_reachesRightSides, Cond.selects RX0 yX0_reachesRightSides yX0_reachesRightSides, Cond.code yX0_reachesRightSides cX0_reachesRightSides 4 (some .boolean), Cond.methodLink RX0 72 yX0_hasBareContradiction, Cond.instanceMethod yX0_hasBareContradiction, Cond.selects RX0 yX0_hasBareContradiction yX0_hasBareContradiction, Cond.code yX0_hasBareContradiction cX0_hasBareContradiction 2 (some .boolean), Cond.methodLink RX0 76 yX0_rowBelowZero, Cond.instanceMethod yX0_rowBelowZero, Cond.selects RX0 yX0_rowBelowZero yX0_rowBelowZero, Cond.code yX0_rowBelowZero cX0_rowBelowZero 3 (some .int), Cond.methodLink RX0 79 yX0_columnThatLifts, Cond.instanceMethod yX0_columnThatLifts, Cond.selects RX0 yX0_columnThatLifts yX0_columnThatLifts, Cond.code yX0_columnThatLifts cX0_columnThatLifts 4 (some .int), Cond.methodLink RX0 89 yX0_isCheaper, Cond.instanceMethod yX0_isCheaper, Cond.selects RX0 yX0_isCheaper yX0_isCheaper, Cond.code yX0_isCheaper cX0_isCheaper 5 (some .boolean), Cond.methodLink RL 46 yX2_hasTurn, Cond.instanceMethod yX2_hasTurn, Cond.selects RX2 yX2_hasTurn yX2_hasTurn]
def wsL_law_r11 : List Cond := [Cond.code yX2_hasTurn cX2_hasTurn 1 (some .boolean), Cond.methodLink RX2 105 yX2_beginRows, Cond.instanceMethod yX2_beginRows, Cond.selects RX2 yX2_beginRows yX2_beginRows, Cond.code yX2_beginRows cX2_beginRows 4 none, Cond.fieldLink RX2 46 "RankFinderModel" "rowCount" "I", Cond.methodLink RX2 49 yX2_empty, Cond.instanceMethod yX2_empty, Cond.selects RX2 yX2_empty yX2_empty, Cond.code yX2_empty cX2_empty 2 (some .int), Cond.methodLink RX2 108 yX2_eliminateAll, Cond.instanceMethod yX2_eliminateAll, Cond.selects RX2 yX2_eliminateAll yX2_eliminateAll, Cond.code yX2_eliminateAll cX2_eliminateAll 2 none, Cond.methodLink RX2 101 yX2_eliminate, Cond.instanceMethod yX2_eliminate, Cond.selects RX2 yX2_eliminate yX2_eliminate, Cond.code yX2_eliminate cX2_eliminate 8 none, Cond.fieldLink RX2 83 "RankFinderModel" "nextCount" "I", Cond.methodLink RX2 86 yX2_carry, Cond.instanceMethod yX2_carry, Cond.selects RX2 yX2_carry yX2_carry, Cond.code yX2_carry cX2_carry 3 none, Cond.methodLink RX2 90 yX2_size]
def wsL_law_r12 : List Cond := [Cond.static yX2_size, Cond.code yX2_size cX2_size 3 (some .int), Cond.methodLink RX2 94 yX2_areBeside, Cond.instanceMethod yX2_areBeside, Cond.selects RX2 yX2_areBeside yX2_areBeside, Cond.code yX2_areBeside cX2_areBeside 5 (some .boolean), Cond.methodLink RX2 97 yX2_combine, Cond.instanceMethod yX2_combine, Cond.selects RX2 yX2_combine yX2_combine, Cond.code yX2_combine cX2_combine 17 none, Cond.fieldLink RX2 65 "RankFinderModel" "divisorHigh" "J", Cond.fieldLink RX2 69 "RankFinderModel" "divisorLow" "J", Cond.methodLink RX2 72 yX2_make, Cond.instanceMethod yX2_make, Cond.selects RX2 yX2_make yX2_make, Cond.code yX2_make cX2_make 14 none, Cond.methodLink RX2 57 yX2_high, Cond.static yX2_high, Cond.code yX2_high cX2_high 16 (some .long), Cond.constantLong RX2 55 (4294967295), Cond.methodLink RX2 61 yX2_isBelow, Cond.static yX2_isBelow, Cond.code yX2_isBelow cX2_isBelow 4 (some .boolean), Cond.constantLong RX2 53 (-9223372036854775808)]
def wsL_law_r13 : List Cond := [Cond.methodLink RX2 76 yX2_gather, Cond.instanceMethod yX2_gather, Cond.selects RX2 yX2_gather yX2_gather, Cond.code yX2_gather cX2_gather 18 none, Cond.methodLink RX2 80 yX2_share, Cond.instanceMethod yX2_share, Cond.selects RX2 yX2_share yX2_share, Cond.code yX2_share cX2_share 14 (some .long), Cond.methodLink RX2 111 yX2_isPossible, Cond.instanceMethod yX2_isPossible, Cond.selects RX2 yX2_isPossible yX2_isPossible, Cond.code yX2_isPossible cX2_isPossible 3 (some .boolean), Cond.methodLink RL 47 yX1_ranked, Cond.instanceMethod yX1_ranked, Cond.selects RX1 yX1_ranked yX1_ranked, Cond.code yX1_ranked cX1_ranked 1 (some .boolean), Cond.methodLink RX1 74 yX1_weighRanking, Cond.instanceMethod yX1_weighRanking, Cond.selects RX1 yX1_weighRanking yX1_weighRanking, Cond.code yX1_weighRanking cX1_weighRanking 7 none, Cond.methodLink RL 50 yX2_ranked, Cond.instanceMethod yX2_ranked, Cond.selects RX2 yX2_ranked yX2_ranked, Cond.code yX2_ranked cX2_ranked 4 (some .boolean)]
def wsL_law_r14 : List Cond := [Cond.methodLink RX2 115 yX2_hasTurn, Cond.methodLink RL 51 yX1_ranks, Cond.instanceMethod yX1_ranks, Cond.selects RX1 yX1_ranks yX1_ranks, Cond.code yX1_ranks cX1_ranks 6 (some .boolean), Cond.methodLink RX1 81 yX0_leastTop, Cond.instanceMethod yX0_leastTop, Cond.selects RX0 yX0_leastTop yX0_leastTop, Cond.code yX0_leastTop cX0_leastTop 1 (some .long), Cond.methodLink RX1 85 yX0_leastBottom, Cond.instanceMethod yX0_leastBottom, Cond.selects RX0 yX0_leastBottom yX0_leastBottom, Cond.code yX0_leastBottom cX0_leastBottom 1 (some .long), Cond.methodLink RL 55 yX2_ranks, Cond.instanceMethod yX2_ranks, Cond.selects RX2 yX2_ranks yX2_ranks, Cond.code yX2_ranks cX2_ranks 9 (some .boolean), Cond.fieldLink RX2 123 "RankFinderModel" "foundTop" "J", Cond.fieldLink RX2 126 "RankFinderModel" "foundBottom" "J", Cond.methodLink RX2 129 yX2_search, Cond.instanceMethod yX2_search, Cond.selects RX2 yX2_search yX2_search, Cond.code yX2_search cX2_search 9 (some .int), Cond.constantLong RX2 118 (-1)]
def wsL_law_r15 : List Cond := [Cond.methodLink RX2 120 yX2_isGreater, Cond.instanceMethod yX2_isGreater, Cond.selects RX2 yX2_isGreater yX2_isGreater, Cond.code yX2_isGreater cX2_isGreater 3 (some .boolean), Cond.methodLink RL 56 yX1_least, Cond.instanceMethod yX1_least, Cond.selects RX1 yX1_least yX1_least, Cond.code yX1_least cX1_least 10 (some .int), Cond.methodLink RX1 88 yX1_commonFactor, Cond.static yX1_commonFactor, Cond.code yX1_commonFactor cX1_commonFactor 11 (some .long), Cond.methodLink RX1 112 Lib.MathLoose.abs_long.x, Cond.static Lib.MathLoose.abs_long.x, Cond.code Lib.MathLoose.abs_long.x Lib.MathLoose.abs_long.code 2 (some .long), Cond.methodLink RX1 118 Lib.MathLoose.max_long.x, Cond.static Lib.MathLoose.max_long.x, Cond.code Lib.MathLoose.max_long.x Lib.MathLoose.max_long.code 4 (some .long), Cond.methodLink RL 60 yX2_least, Cond.instanceMethod yX2_least, Cond.selects RX2 yX2_least yX2_least, Cond.code yX2_least cX2_least 8 (some .int), Cond.fieldLink RX2 132 "RankFinderModel" "answered" "I", Cond.fieldLink RX2 135 "RankFinderModel" "top" "J", Cond.fieldLink RX2 138 "RankFinderModel" "bottom" "J"]
def wsL_law_r16 : List Cond := [Cond.methodLink RL 61 yX1_top, Cond.instanceMethod yX1_top, Cond.selects RX1 yX1_top yX1_top, Cond.code yX1_top cX1_top 1 (some .long), Cond.methodLink RL 65 yX2_top, Cond.instanceMethod yX2_top, Cond.selects RX2 yX2_top yX2_top, Cond.code yX2_top cX2_top 1 (some .long), Cond.methodLink RL 66 yX1_bottom, Cond.instanceMethod yX1_bottom, Cond.selects RX1 yX1_bottom yX1_bottom, Cond.code yX1_bottom cX1_bottom 1 (some .long), Cond.methodLink RL 69 yX2_bottom, Cond.instanceMethod yX2_bottom, Cond.selects RX2 yX2_bottom yX2_bottom, Cond.code yX2_bottom cX2_bottom 1 (some .long)]
def wsL_law : List Cond := (wsL_law_r1 ++ (wsL_law_r2 ++ (wsL_law_r3 ++ (wsL_law_r4 ++ (wsL_law_r5 ++ (wsL_law_r6 ++ (wsL_law_r7 ++ (wsL_law_r8 ++ (wsL_law_r9 ++ (wsL_law_r10 ++ (wsL_law_r11 ++ (wsL_law_r12 ++ (wsL_law_r13 ++ (wsL_law_r14 ++ (wsL_law_r15 ++ wsL_law_r16))))))))))))))) ++ wsX10 ++ wsX20 ++ wsX00 ++ ([] : List Cond)
theorem inJ13 : ∀ w ∈ wsJ130, w ∈ lw_tbl := by decide +kernel
theorem inJ9 : ∀ w ∈ wsJ90, w ∈ lw_tbl := by decide +kernel
theorem inJ10 : ∀ w ∈ wsJ100, w ∈ lw_tbl := by decide +kernel
theorem inJ7 : ∀ w ∈ wsJ70, w ∈ lw_tbl := by decide +kernel
end
section
theorem dX0_init_0 : decode cX0_init 0 = .ok (.aload_n 0, 1) := by decide +kernel
theorem dX0_init_1 : decode cX0_init 1 = .ok (.invokespecial 3, 3) := by decide +kernel
theorem dX0_init_4 : decode cX0_init 4 = .ok (.aload_n 0, 1) := by decide +kernel
theorem dX0_init_5 : decode cX0_init 5 = .ok (.bipush 10, 2) := by decide +kernel
theorem dX0_init_7 : decode cX0_init 7 = .ok (.bipush 17, 2) := by decide +kernel
theorem dX0_init_9 : decode cX0_init 9 = .ok (.multianewarray 11 2, 4) := by decide +kernel
theorem dX0_init_13 : decode cX0_init 13 = .ok (.putfield 13, 3) := by decide +kernel
theorem dX0_init_16 : decode cX0_init 16 = .ok (.aload_n 0, 1) := by decide +kernel
theorem dX0_init_17 : decode cX0_init 17 = .ok (.bipush 9, 2) := by decide +kernel
theorem dX0_init_19 : decode cX0_init 19 = .ok (.newarray .int, 2) := by decide +kernel
theorem dX0_init_21 : decode cX0_init 21 = .ok (.putfield 16, 3) := by decide +kernel
theorem dX0_init_24 : decode cX0_init 24 = .ok (.aload_n 0, 1) := by decide +kernel
theorem dX0_init_25 : decode cX0_init 25 = .ok (.iconst 0, 1) := by decide +kernel
theorem dX0_init_26 : decode cX0_init 26 = .ok (.putfield 20, 3) := by decide +kernel
theorem dX0_init_29 : decode cX0_init 29 = .ok (.aload_n 0, 1) := by decide +kernel
theorem dX0_init_30 : decode cX0_init 30 = .ok (.iconst 0, 1) := by decide +kernel
theorem dX0_init_31 : decode cX0_init 31 = .ok (.putfield 24, 3) := by decide +kernel
theorem dX0_init_34 : decode cX0_init 34 = .ok (.aload_n 0, 1) := by decide +kernel
theorem dX0_init_35 : decode cX0_init 35 = .ok (.lconst 1, 1) := by decide +kernel
theorem dX0_init_36 : decode cX0_init 36 = .ok (.putfield 27, 3) := by decide +kernel
theorem dX0_init_39 : decode cX0_init 39 = .ok (.aload_n 0, 1) := by decide +kernel
theorem dX0_init_40 : decode cX0_init 40 = .ok (.iconst 0, 1) := by decide +kernel
theorem dX0_init_41 : decode cX0_init 41 = .ok (.putfield 31, 3) := by decide +kernel
theorem dX0_init_44 : decode cX0_init 44 = .ok (.aload_n 0, 1) := by decide +kernel
theorem dX0_init_45 : decode cX0_init 45 = .ok (.lconst 1, 1) := by decide +kernel
theorem dX0_init_46 : decode cX0_init 46 = .ok (.putfield 34, 3) := by decide +kernel
theorem dX0_init_49 : decode cX0_init 49 = .ok (.return_, 1) := by decide +kernel
set_option maxRecDepth 20000 in
theorem ggX0_clear_J7_fill_d0a16 : GoodIn wsX0_clear wsJ7_fill_d0a16 := goodIn_r _ [12] (by decide +kernel) (by decide +kernel)
set_option maxRecDepth 20000 in
theorem gX0_clear_J7_fill_d0a16 : GoodIn wsX0_clear (va_wsS RX0 43 yJ7_fill_d0a16 wsJ7_fill_d0a16) := goodIn_app (goodIn_of _ (by decide +kernel)) ggX0_clear_J7_fill_d0a16
set_option maxRecDepth 20000 in
theorem ggX0_clear_J7_fill_53178 : GoodIn wsX0_clear wsJ7_fill_53178 := goodIn_r _ [15] (by decide +kernel) (by decide +kernel)
set_option maxRecDepth 20000 in
theorem gX0_clear_J7_fill_53178 : GoodIn wsX0_clear (va_wsS RX0 49 yJ7_fill_53178 wsJ7_fill_53178) := goodIn_app (goodIn_of _ (by decide +kernel)) ggX0_clear_J7_fill_53178
set_option maxRecDepth 20000 in
theorem ggX0_clear_X0_takeUnit : GoodIn wsX0_clear wsX0_takeUnit := goodIn_r _ [20, 21, 22, 23, 24, 25, 26, 27, 28, 29, 30, 31, 32, 33, 34, 35, 36, 37, 38] (by decide +kernel) (by decide +kernel)
set_option maxRecDepth 20000 in
theorem gX0_clear_X0_takeUnit : GoodIn wsX0_clear (wsV RX0 52 RX0 yX0_takeUnit wsX0_takeUnit) := goodIn_app (goodIn_of _ (by decide +kernel)) ggX0_clear_X0_takeUnit
theorem dX0_clear_0 : decode cX0_clear 0 = .ok (.aload_n 0, 1) := by decide +kernel
theorem dX0_clear_1 : decode cX0_clear 1 = .ok (.iload_n 1, 1) := by decide +kernel
theorem dX0_clear_2 : decode cX0_clear 2 = .ok (.bipush 9, 2) := by decide +kernel
theorem dX0_clear_4 : decode cX0_clear 4 = .ok (.invokestatic 37, 3) := by decide +kernel
theorem dX0_clear_7 : decode cX0_clear 7 = .ok (.putfield 20, 3) := by decide +kernel
theorem dX0_clear_10 : decode cX0_clear 10 = .ok (.aload_n 0, 1) := by decide +kernel
theorem dX0_clear_11 : decode cX0_clear 11 = .ok (.iload_n 2, 1) := by decide +kernel
theorem dX0_clear_12 : decode cX0_clear 12 = .ok (.bipush 16, 2) := by decide +kernel
theorem dX0_clear_14 : decode cX0_clear 14 = .ok (.invokestatic 37, 3) := by decide +kernel
theorem dX0_clear_17 : decode cX0_clear 17 = .ok (.putfield 24, 3) := by decide +kernel
theorem dX0_clear_20 : decode cX0_clear 20 = .ok (.iconst 0, 1) := by decide +kernel
theorem dX0_clear_21 : decode cX0_clear 21 = .ok (.istore_n 3, 1) := by decide +kernel
theorem dX0_clear_22 : decode cX0_clear 22 = .ok (.iload_n 3, 1) := by decide +kernel
theorem dX0_clear_23 : decode cX0_clear 23 = .ok (.aload_n 0, 1) := by decide +kernel
theorem dX0_clear_24 : decode cX0_clear 24 = .ok (.getfield 20, 3) := by decide +kernel
theorem dX0_clear_27 : decode cX0_clear 27 = .ok (.if_icmp .gt 19, 3) := by decide +kernel
theorem dX0_clear_30 : decode cX0_clear 30 = .ok (.aload_n 0, 1) := by decide +kernel
theorem dX0_clear_31 : decode cX0_clear 31 = .ok (.getfield 13, 3) := by decide +kernel
theorem dX0_clear_34 : decode cX0_clear 34 = .ok (.iload_n 3, 1) := by decide +kernel
theorem dX0_clear_35 : decode cX0_clear 35 = .ok (.aaload, 1) := by decide +kernel
theorem dX0_clear_36 : decode cX0_clear 36 = .ok (.lconst 0, 1) := by decide +kernel
theorem dX0_clear_37 : decode cX0_clear 37 = .ok (.invokestatic 43, 3) := by decide +kernel
theorem dX0_clear_40 : decode cX0_clear 40 = .ok (.iinc 3 1, 3) := by decide +kernel
theorem dX0_clear_43 : decode cX0_clear 43 = .ok (.goto (-21), 3) := by decide +kernel
theorem dX0_clear_46 : decode cX0_clear 46 = .ok (.aload_n 0, 1) := by decide +kernel
theorem dX0_clear_47 : decode cX0_clear 47 = .ok (.getfield 16, 3) := by decide +kernel
theorem dX0_clear_50 : decode cX0_clear 50 = .ok (.iconst (-1), 1) := by decide +kernel
theorem dX0_clear_51 : decode cX0_clear 51 = .ok (.invokestatic 49, 3) := by decide +kernel
theorem dX0_clear_54 : decode cX0_clear 54 = .ok (.aload_n 0, 1) := by decide +kernel
theorem dX0_clear_55 : decode cX0_clear 55 = .ok (.lconst 1, 1) := by decide +kernel
theorem dX0_clear_56 : decode cX0_clear 56 = .ok (.invokevirtual 52, 3) := by decide +kernel
theorem dX0_clear_59 : decode cX0_clear 59 = .ok (.return_, 1) := by decide +kernel
theorem dX0_put_0 : decode cX0_put 0 = .ok (.aload_n 0, 1) := by decide +kernel
theorem dX0_put_1 : decode cX0_put 1 = .ok (.getfield 13, 3) := by decide +kernel
theorem dX0_put_4 : decode cX0_put 4 = .ok (.iload_n 1, 1) := by decide +kernel
theorem dX0_put_5 : decode cX0_put 5 = .ok (.aaload, 1) := by decide +kernel
theorem dX0_put_6 : decode cX0_put 6 = .ok (.iload_n 2, 1) := by decide +kernel
theorem dX0_put_7 : decode cX0_put 7 = .ok (.iload_n 3, 1) := by decide +kernel
theorem dX0_put_8 : decode cX0_put 8 = .ok (.i2l, 1) := by decide +kernel
theorem dX0_put_9 : decode cX0_put 9 = .ok (.lastore, 1) := by decide +kernel
theorem dX0_put_10 : decode cX0_put 10 = .ok (.return_, 1) := by decide +kernel
theorem dX0_putRightSide_0 : decode cX0_putRightSide 0 = .ok (.aload_n 0, 1) := by decide +kernel
theorem dX0_putRightSide_1 : decode cX0_putRightSide 1 = .ok (.getfield 13, 3) := by decide +kernel
theorem dX0_putRightSide_4 : decode cX0_putRightSide 4 = .ok (.iload_n 1, 1) := by decide +kernel
theorem dX0_putRightSide_5 : decode cX0_putRightSide 5 = .ok (.aaload, 1) := by decide +kernel
theorem dX0_putRightSide_6 : decode cX0_putRightSide 6 = .ok (.aload_n 0, 1) := by decide +kernel
theorem dX0_putRightSide_7 : decode cX0_putRightSide 7 = .ok (.getfield 24, 3) := by decide +kernel
theorem dX0_putRightSide_10 : decode cX0_putRightSide 10 = .ok (.iload_n 2, 1) := by decide +kernel
theorem dX0_putRightSide_11 : decode cX0_putRightSide 11 = .ok (.i2l, 1) := by decide +kernel
theorem dX0_putRightSide_12 : decode cX0_putRightSide 12 = .ok (.lastore, 1) := by decide +kernel
theorem dX0_putRightSide_13 : decode cX0_putRightSide 13 = .ok (.return_, 1) := by decide +kernel
theorem dX0_putCost_0 : decode cX0_putCost 0 = .ok (.aload_n 0, 1) := by decide +kernel
theorem dX0_putCost_1 : decode cX0_putCost 1 = .ok (.getfield 13, 3) := by decide +kernel
theorem dX0_putCost_4 : decode cX0_putCost 4 = .ok (.aload_n 0, 1) := by decide +kernel
theorem dX0_putCost_5 : decode cX0_putCost 5 = .ok (.getfield 20, 3) := by decide +kernel
theorem dX0_putCost_8 : decode cX0_putCost 8 = .ok (.aaload, 1) := by decide +kernel
theorem dX0_putCost_9 : decode cX0_putCost 9 = .ok (.iload_n 1, 1) := by decide +kernel
theorem dX0_putCost_10 : decode cX0_putCost 10 = .ok (.iload_n 2, 1) := by decide +kernel
theorem dX0_putCost_11 : decode cX0_putCost 11 = .ok (.i2l, 1) := by decide +kernel
theorem dX0_putCost_12 : decode cX0_putCost 12 = .ok (.lastore, 1) := by decide +kernel
theorem dX0_putCost_13 : decode cX0_putCost 13 = .ok (.return_, 1) := by decide +kernel
theorem dX0_leastTop_0 : decode cX0_leastTop 0 = .ok (.aload_n 0, 1) := by decide +kernel
theorem dX0_leastTop_1 : decode cX0_leastTop 1 = .ok (.getfield 13, 3) := by decide +kernel
theorem dX0_leastTop_4 : decode cX0_leastTop 4 = .ok (.aload_n 0, 1) := by decide +kernel
theorem dX0_leastTop_5 : decode cX0_leastTop 5 = .ok (.getfield 20, 3) := by decide +kernel
theorem dX0_leastTop_8 : decode cX0_leastTop 8 = .ok (.aaload, 1) := by decide +kernel
theorem dX0_leastTop_9 : decode cX0_leastTop 9 = .ok (.aload_n 0, 1) := by decide +kernel
theorem dX0_leastTop_10 : decode cX0_leastTop 10 = .ok (.getfield 24, 3) := by decide +kernel
theorem dX0_leastTop_13 : decode cX0_leastTop 13 = .ok (.laload, 1) := by decide +kernel
theorem dX0_leastTop_14 : decode cX0_leastTop 14 = .ok (.lreturn, 1) := by decide +kernel
theorem dX0_leastBottom_0 : decode cX0_leastBottom 0 = .ok (.aload_n 0, 1) := by decide +kernel
theorem dX0_leastBottom_1 : decode cX0_leastBottom 1 = .ok (.getfield 27, 3) := by decide +kernel
theorem dX0_leastBottom_4 : decode cX0_leastBottom 4 = .ok (.lreturn, 1) := by decide +kernel
set_option maxRecDepth 20000 in
theorem ggX0_fallsForEver_X0_holdColumns : GoodIn wsX0_fallsForEver wsX0_holdColumns := goodIn_r _ [6, 7, 8, 9, 10, 5, 11, 12, 13, 14, 15, 16, 17, 18, 19, 20, 21, 22, 23, 24, 25, 26, 27, 28, 29, 30, 31, 32, 33, 34, 35, 36, 37, 38, 39, 40, 41, 42, 43, 44, 45, 46, 59, 60, 61, 62, 63, 64, 65] (by decide +kernel) (by decide +kernel)
set_option maxRecDepth 20000 in
theorem gX0_fallsForEver_X0_holdColumns : GoodIn wsX0_fallsForEver (wsV RX0 56 RX0 yX0_holdColumns wsX0_holdColumns) := goodIn_app (goodIn_of _ (by decide +kernel)) ggX0_fallsForEver_X0_holdColumns
set_option maxRecDepth 20000 in
theorem ggX0_fallsForEver_X0_columnThatSaves : GoodIn wsX0_fallsForEver wsX0_columnThatSaves := goodIn_r _ [50, 12, 13, 7, 59, 60, 61, 62, 63, 64, 65] (by decide +kernel) (by decide +kernel)
set_option maxRecDepth 20000 in
theorem gX0_fallsForEver_X0_columnThatSaves : GoodIn wsX0_fallsForEver (wsV RX0 60 RX0 yX0_columnThatSaves wsX0_columnThatSaves) := goodIn_app (goodIn_of _ (by decide +kernel)) ggX0_fallsForEver_X0_columnThatSaves
set_option maxRecDepth 20000 in
theorem ggX0_fallsForEver_X0_rowThatLimits : GoodIn wsX0_fallsForEver wsX0_rowThatLimits := goodIn_r _ [54, 7, 13, 55, 56, 57, 5, 58, 18, 59, 60, 61, 62, 63, 64, 65] (by decide +kernel) (by decide +kernel)
set_option maxRecDepth 20000 in
theorem gX0_fallsForEver_X0_rowThatLimits : GoodIn wsX0_fallsForEver (wsV RX0 64 RX0 yX0_rowThatLimits wsX0_rowThatLimits) := goodIn_app (goodIn_of _ (by decide +kernel)) ggX0_fallsForEver_X0_rowThatLimits
set_option maxRecDepth 20000 in
theorem ggX0_fallsForEver_X0_exchange : GoodIn wsX0_fallsForEver wsX0_exchange := goodIn_r _ [17, 13, 7, 12, 18, 19, 20, 21, 5, 22, 23, 24, 25, 26, 27, 28, 29, 30, 31, 32, 33, 34, 35, 36, 37, 38, 39, 40, 41, 42, 43, 44, 45, 46, 59, 60, 61, 62, 63, 64, 65] (by decide +kernel) (by decide +kernel)
set_option maxRecDepth 20000 in
theorem gX0_fallsForEver_X0_exchange : GoodIn wsX0_fallsForEver (wsV RX0 68 RX0 yX0_exchange wsX0_exchange) := goodIn_app (goodIn_of _ (by decide +kernel)) ggX0_fallsForEver_X0_exchange
theorem dX0_fallsForEver_0 : decode cX0_fallsForEver 0 = .ok (.aload_n 0, 1) := by decide +kernel
theorem dX0_fallsForEver_1 : decode cX0_fallsForEver 1 = .ok (.invokevirtual 56, 3) := by decide +kernel
theorem dX0_fallsForEver_4 : decode cX0_fallsForEver 4 = .ok (.iconst 0, 1) := by decide +kernel
theorem dX0_fallsForEver_5 : decode cX0_fallsForEver 5 = .ok (.istore_n 1, 1) := by decide +kernel
theorem dX0_fallsForEver_6 : decode cX0_fallsForEver 6 = .ok (.iload_n 1, 1) := by decide +kernel
theorem dX0_fallsForEver_7 : decode cX0_fallsForEver 7 = .ok (.ldc 59, 2) := by decide +kernel
theorem dX0_fallsForEver_9 : decode cX0_fallsForEver 9 = .ok (.if_icmp .ge 40, 3) := by decide +kernel
theorem dX0_fallsForEver_12 : decode cX0_fallsForEver 12 = .ok (.aload_n 0, 1) := by decide +kernel
theorem dX0_fallsForEver_13 : decode cX0_fallsForEver 13 = .ok (.invokevirtual 60, 3) := by decide +kernel
theorem dX0_fallsForEver_16 : decode cX0_fallsForEver 16 = .ok (.istore_n 2, 1) := by decide +kernel
theorem dX0_fallsForEver_17 : decode cX0_fallsForEver 17 = .ok (.iload_n 2, 1) := by decide +kernel
theorem dX0_fallsForEver_18 : decode cX0_fallsForEver 18 = .ok (.iconst (-1), 1) := by decide +kernel
theorem dX0_fallsForEver_19 : decode cX0_fallsForEver 19 = .ok (.if_icmp .ne 5, 3) := by decide +kernel
theorem dX0_fallsForEver_22 : decode cX0_fallsForEver 22 = .ok (.iconst 0, 1) := by decide +kernel
theorem dX0_fallsForEver_23 : decode cX0_fallsForEver 23 = .ok (.ireturn, 1) := by decide +kernel
theorem dX0_fallsForEver_24 : decode cX0_fallsForEver 24 = .ok (.aload_n 0, 1) := by decide +kernel
theorem dX0_fallsForEver_25 : decode cX0_fallsForEver 25 = .ok (.iload_n 2, 1) := by decide +kernel
theorem dX0_fallsForEver_26 : decode cX0_fallsForEver 26 = .ok (.invokevirtual 64, 3) := by decide +kernel
theorem dX0_fallsForEver_29 : decode cX0_fallsForEver 29 = .ok (.istore_n 3, 1) := by decide +kernel
theorem dX0_fallsForEver_30 : decode cX0_fallsForEver 30 = .ok (.iload_n 3, 1) := by decide +kernel
theorem dX0_fallsForEver_31 : decode cX0_fallsForEver 31 = .ok (.iconst (-1), 1) := by decide +kernel
theorem dX0_fallsForEver_32 : decode cX0_fallsForEver 32 = .ok (.if_icmp .ne 5, 3) := by decide +kernel
theorem dX0_fallsForEver_35 : decode cX0_fallsForEver 35 = .ok (.iconst 1, 1) := by decide +kernel
theorem dX0_fallsForEver_36 : decode cX0_fallsForEver 36 = .ok (.ireturn, 1) := by decide +kernel
theorem dX0_fallsForEver_37 : decode cX0_fallsForEver 37 = .ok (.aload_n 0, 1) := by decide +kernel
theorem dX0_fallsForEver_38 : decode cX0_fallsForEver 38 = .ok (.iload_n 3, 1) := by decide +kernel
theorem dX0_fallsForEver_39 : decode cX0_fallsForEver 39 = .ok (.iload_n 2, 1) := by decide +kernel
theorem dX0_fallsForEver_40 : decode cX0_fallsForEver 40 = .ok (.invokevirtual 68, 3) := by decide +kernel
theorem dX0_fallsForEver_43 : decode cX0_fallsForEver 43 = .ok (.iinc 1 1, 3) := by decide +kernel
theorem dX0_fallsForEver_46 : decode cX0_fallsForEver 46 = .ok (.goto (-40), 3) := by decide +kernel
theorem dX0_fallsForEver_49 : decode cX0_fallsForEver 49 = .ok (.iconst 0, 1) := by decide +kernel
theorem dX0_fallsForEver_50 : decode cX0_fallsForEver 50 = .ok (.ireturn, 1) := by decide +kernel
set_option maxRecDepth 20000 in
theorem ggX0_reachesRightSides_X0_hasBareContradiction : GoodIn wsX0_reachesRightSides wsX0_hasBareContradiction := goodIn_r _ [6, 7, 8, 9, 10, 59, 60, 61, 62, 63, 64, 65] (by decide +kernel) (by decide +kernel)
set_option maxRecDepth 20000 in
theorem gX0_reachesRightSides_X0_hasBareContradiction : GoodIn wsX0_reachesRightSides (wsV RX0 72 RX0 yX0_hasBareContradiction wsX0_hasBareContradiction) := goodIn_app (goodIn_of _ (by decide +kernel)) ggX0_reachesRightSides_X0_hasBareContradiction
set_option maxRecDepth 20000 in
theorem ggX0_reachesRightSides_X0_rowBelowZero : GoodIn wsX0_reachesRightSides wsX0_rowBelowZero := goodIn_r _ [14, 7, 9, 10, 15, 16, 17, 5, 18, 8, 59, 60, 61, 62, 63, 64, 65] (by decide +kernel) (by decide +kernel)
set_option maxRecDepth 20000 in
theorem gX0_reachesRightSides_X0_rowBelowZero : GoodIn wsX0_reachesRightSides (wsV RX0 76 RX0 yX0_rowBelowZero wsX0_rowBelowZero) := goodIn_app (goodIn_of _ (by decide +kernel)) ggX0_reachesRightSides_X0_rowBelowZero
set_option maxRecDepth 20000 in
theorem ggX0_reachesRightSides_X0_columnThatLifts : GoodIn wsX0_reachesRightSides wsX0_columnThatLifts := goodIn_r _ [22, 10, 9, 23, 24, 25, 5, 26, 7, 59, 60, 61, 62, 63, 64, 65] (by decide +kernel) (by decide +kernel)
set_option maxRecDepth 20000 in
theorem gX0_reachesRightSides_X0_columnThatLifts : GoodIn wsX0_reachesRightSides (wsV RX0 79 RX0 yX0_columnThatLifts wsX0_columnThatLifts) := goodIn_app (goodIn_of _ (by decide +kernel)) ggX0_reachesRightSides_X0_columnThatLifts
set_option maxRecDepth 20000 in
theorem ggX0_reachesRightSides_X0_exchange : GoodIn wsX0_reachesRightSides wsX0_exchange := goodIn_r _ [30, 9, 7, 10, 8, 31, 32, 33, 5, 34, 35, 36, 37, 38, 39, 40, 41, 42, 43, 44, 45, 46, 47, 48, 49, 50, 51, 52, 53, 54, 55, 56, 57, 58, 59, 60, 61, 62, 63, 64, 65] (by decide +kernel) (by decide +kernel)
set_option maxRecDepth 20000 in
theorem gX0_reachesRightSides_X0_exchange : GoodIn wsX0_reachesRightSides (wsV RX0 68 RX0 yX0_exchange wsX0_exchange) := goodIn_app (goodIn_of _ (by decide +kernel)) ggX0_reachesRightSides_X0_exchange
theorem dX0_reachesRightSides_0 : decode cX0_reachesRightSides 0 = .ok (.aload_n 0, 1) := by decide +kernel
theorem dX0_reachesRightSides_1 : decode cX0_reachesRightSides 1 = .ok (.invokevirtual 72, 3) := by decide +kernel
theorem dX0_reachesRightSides_4 : decode cX0_reachesRightSides 4 = .ok (.ifCond .eq 5, 3) := by decide +kernel
theorem dX0_reachesRightSides_7 : decode cX0_reachesRightSides 7 = .ok (.iconst 0, 1) := by decide +kernel
theorem dX0_reachesRightSides_8 : decode cX0_reachesRightSides 8 = .ok (.ireturn, 1) := by decide +kernel
theorem dX0_reachesRightSides_9 : decode cX0_reachesRightSides 9 = .ok (.iconst 0, 1) := by decide +kernel
theorem dX0_reachesRightSides_10 : decode cX0_reachesRightSides 10 = .ok (.istore_n 1, 1) := by decide +kernel
theorem dX0_reachesRightSides_11 : decode cX0_reachesRightSides 11 = .ok (.iload_n 1, 1) := by decide +kernel
theorem dX0_reachesRightSides_12 : decode cX0_reachesRightSides 12 = .ok (.ldc 59, 2) := by decide +kernel
theorem dX0_reachesRightSides_14 : decode cX0_reachesRightSides 14 = .ok (.if_icmp .ge 40, 3) := by decide +kernel
theorem dX0_reachesRightSides_17 : decode cX0_reachesRightSides 17 = .ok (.aload_n 0, 1) := by decide +kernel
theorem dX0_reachesRightSides_18 : decode cX0_reachesRightSides 18 = .ok (.invokevirtual 76, 3) := by decide +kernel
theorem dX0_reachesRightSides_21 : decode cX0_reachesRightSides 21 = .ok (.istore_n 2, 1) := by decide +kernel
theorem dX0_reachesRightSides_22 : decode cX0_reachesRightSides 22 = .ok (.iload_n 2, 1) := by decide +kernel
theorem dX0_reachesRightSides_23 : decode cX0_reachesRightSides 23 = .ok (.iconst (-1), 1) := by decide +kernel
theorem dX0_reachesRightSides_24 : decode cX0_reachesRightSides 24 = .ok (.if_icmp .ne 5, 3) := by decide +kernel
theorem dX0_reachesRightSides_27 : decode cX0_reachesRightSides 27 = .ok (.iconst 1, 1) := by decide +kernel
theorem dX0_reachesRightSides_28 : decode cX0_reachesRightSides 28 = .ok (.ireturn, 1) := by decide +kernel
theorem dX0_reachesRightSides_29 : decode cX0_reachesRightSides 29 = .ok (.aload_n 0, 1) := by decide +kernel
theorem dX0_reachesRightSides_30 : decode cX0_reachesRightSides 30 = .ok (.iload_n 2, 1) := by decide +kernel
theorem dX0_reachesRightSides_31 : decode cX0_reachesRightSides 31 = .ok (.invokevirtual 79, 3) := by decide +kernel
theorem dX0_reachesRightSides_34 : decode cX0_reachesRightSides 34 = .ok (.istore_n 3, 1) := by decide +kernel
theorem dX0_reachesRightSides_35 : decode cX0_reachesRightSides 35 = .ok (.iload_n 3, 1) := by decide +kernel
theorem dX0_reachesRightSides_36 : decode cX0_reachesRightSides 36 = .ok (.iconst (-1), 1) := by decide +kernel
theorem dX0_reachesRightSides_37 : decode cX0_reachesRightSides 37 = .ok (.if_icmp .ne 5, 3) := by decide +kernel
theorem dX0_reachesRightSides_40 : decode cX0_reachesRightSides 40 = .ok (.iconst 0, 1) := by decide +kernel
theorem dX0_reachesRightSides_41 : decode cX0_reachesRightSides 41 = .ok (.ireturn, 1) := by decide +kernel
theorem dX0_reachesRightSides_42 : decode cX0_reachesRightSides 42 = .ok (.aload_n 0, 1) := by decide +kernel
theorem dX0_reachesRightSides_43 : decode cX0_reachesRightSides 43 = .ok (.iload_n 2, 1) := by decide +kernel
theorem dX0_reachesRightSides_44 : decode cX0_reachesRightSides 44 = .ok (.iload_n 3, 1) := by decide +kernel
theorem dX0_reachesRightSides_45 : decode cX0_reachesRightSides 45 = .ok (.invokevirtual 68, 3) := by decide +kernel
theorem dX0_reachesRightSides_48 : decode cX0_reachesRightSides 48 = .ok (.iinc 1 1, 3) := by decide +kernel
theorem dX0_reachesRightSides_51 : decode cX0_reachesRightSides 51 = .ok (.goto (-40), 3) := by decide +kernel
theorem dX0_reachesRightSides_54 : decode cX0_reachesRightSides 54 = .ok (.iconst 0, 1) := by decide +kernel
theorem dX0_reachesRightSides_55 : decode cX0_reachesRightSides 55 = .ok (.ireturn, 1) := by decide +kernel
set_option maxRecDepth 20000 in
theorem ggX0_holdColumns_X0_firstColumnOf : GoodIn wsX0_holdColumns wsX0_firstColumnOf := goodIn_r _ [6, 7, 8, 42, 43, 44, 45, 46, 47, 48] (by decide +kernel) (by decide +kernel)
set_option maxRecDepth 20000 in
theorem gX0_holdColumns_X0_firstColumnOf : GoodIn wsX0_holdColumns (wsV RX0 82 RX0 yX0_firstColumnOf wsX0_firstColumnOf) := goodIn_app (goodIn_of _ (by decide +kernel)) ggX0_holdColumns_X0_firstColumnOf
set_option maxRecDepth 20000 in
theorem ggX0_holdColumns_X0_exchange : GoodIn wsX0_holdColumns wsX0_exchange := goodIn_r _ [12, 8, 1, 7, 13, 14, 15, 16, 5, 17, 18, 19, 20, 21, 22, 23, 24, 25, 26, 27, 28, 29, 30, 31, 32, 33, 34, 35, 36, 37, 38, 39, 40, 41, 42, 43, 44, 45, 46, 47, 48] (by decide +kernel) (by decide +kernel)
set_option maxRecDepth 20000 in
theorem gX0_holdColumns_X0_exchange : GoodIn wsX0_holdColumns (wsV RX0 68 RX0 yX0_exchange wsX0_exchange) := goodIn_app (goodIn_of _ (by decide +kernel)) ggX0_holdColumns_X0_exchange
theorem dX0_holdColumns_0 : decode cX0_holdColumns 0 = .ok (.iconst 0, 1) := by decide +kernel
theorem dX0_holdColumns_1 : decode cX0_holdColumns 1 = .ok (.istore_n 1, 1) := by decide +kernel
theorem dX0_holdColumns_2 : decode cX0_holdColumns 2 = .ok (.iload_n 1, 1) := by decide +kernel
theorem dX0_holdColumns_3 : decode cX0_holdColumns 3 = .ok (.aload_n 0, 1) := by decide +kernel
theorem dX0_holdColumns_4 : decode cX0_holdColumns 4 = .ok (.getfield 20, 3) := by decide +kernel
theorem dX0_holdColumns_7 : decode cX0_holdColumns 7 = .ok (.if_icmp .ge 26, 3) := by decide +kernel
theorem dX0_holdColumns_10 : decode cX0_holdColumns 10 = .ok (.aload_n 0, 1) := by decide +kernel
theorem dX0_holdColumns_11 : decode cX0_holdColumns 11 = .ok (.iload_n 1, 1) := by decide +kernel
theorem dX0_holdColumns_12 : decode cX0_holdColumns 12 = .ok (.invokevirtual 82, 3) := by decide +kernel
theorem dX0_holdColumns_15 : decode cX0_holdColumns 15 = .ok (.istore_n 2, 1) := by decide +kernel
theorem dX0_holdColumns_16 : decode cX0_holdColumns 16 = .ok (.iload_n 2, 1) := by decide +kernel
theorem dX0_holdColumns_17 : decode cX0_holdColumns 17 = .ok (.iconst (-1), 1) := by decide +kernel
theorem dX0_holdColumns_18 : decode cX0_holdColumns 18 = .ok (.if_icmp .eq 9, 3) := by decide +kernel
theorem dX0_holdColumns_21 : decode cX0_holdColumns 21 = .ok (.aload_n 0, 1) := by decide +kernel
theorem dX0_holdColumns_22 : decode cX0_holdColumns 22 = .ok (.iload_n 1, 1) := by decide +kernel
theorem dX0_holdColumns_23 : decode cX0_holdColumns 23 = .ok (.iload_n 2, 1) := by decide +kernel
theorem dX0_holdColumns_24 : decode cX0_holdColumns 24 = .ok (.invokevirtual 68, 3) := by decide +kernel
theorem dX0_holdColumns_27 : decode cX0_holdColumns 27 = .ok (.iinc 1 1, 3) := by decide +kernel
theorem dX0_holdColumns_30 : decode cX0_holdColumns 30 = .ok (.goto (-28), 3) := by decide +kernel
theorem dX0_holdColumns_33 : decode cX0_holdColumns 33 = .ok (.return_, 1) := by decide +kernel
theorem dX0_firstColumnOf_0 : decode cX0_firstColumnOf 0 = .ok (.iconst 0, 1) := by decide +kernel
theorem dX0_firstColumnOf_1 : decode cX0_firstColumnOf 1 = .ok (.istore_n 2, 1) := by decide +kernel
theorem dX0_firstColumnOf_2 : decode cX0_firstColumnOf 2 = .ok (.iload_n 2, 1) := by decide +kernel
theorem dX0_firstColumnOf_3 : decode cX0_firstColumnOf 3 = .ok (.aload_n 0, 1) := by decide +kernel
theorem dX0_firstColumnOf_4 : decode cX0_firstColumnOf 4 = .ok (.getfield 24, 3) := by decide +kernel
theorem dX0_firstColumnOf_7 : decode cX0_firstColumnOf 7 = .ok (.if_icmp .ge 24, 3) := by decide +kernel
theorem dX0_firstColumnOf_10 : decode cX0_firstColumnOf 10 = .ok (.aload_n 0, 1) := by decide +kernel
theorem dX0_firstColumnOf_11 : decode cX0_firstColumnOf 11 = .ok (.getfield 13, 3) := by decide +kernel
theorem dX0_firstColumnOf_14 : decode cX0_firstColumnOf 14 = .ok (.iload_n 1, 1) := by decide +kernel
theorem dX0_firstColumnOf_15 : decode cX0_firstColumnOf 15 = .ok (.aaload, 1) := by decide +kernel
theorem dX0_firstColumnOf_16 : decode cX0_firstColumnOf 16 = .ok (.iload_n 2, 1) := by decide +kernel
theorem dX0_firstColumnOf_17 : decode cX0_firstColumnOf 17 = .ok (.laload, 1) := by decide +kernel
theorem dX0_firstColumnOf_18 : decode cX0_firstColumnOf 18 = .ok (.lconst 0, 1) := by decide +kernel
theorem dX0_firstColumnOf_19 : decode cX0_firstColumnOf 19 = .ok (.lcmp, 1) := by decide +kernel
theorem dX0_firstColumnOf_20 : decode cX0_firstColumnOf 20 = .ok (.ifCond .eq 5, 3) := by decide +kernel
theorem dX0_firstColumnOf_23 : decode cX0_firstColumnOf 23 = .ok (.iload_n 2, 1) := by decide +kernel
theorem dX0_firstColumnOf_24 : decode cX0_firstColumnOf 24 = .ok (.ireturn, 1) := by decide +kernel
theorem dX0_firstColumnOf_25 : decode cX0_firstColumnOf 25 = .ok (.iinc 2 1, 3) := by decide +kernel
theorem dX0_firstColumnOf_28 : decode cX0_firstColumnOf 28 = .ok (.goto (-26), 3) := by decide +kernel
theorem dX0_firstColumnOf_31 : decode cX0_firstColumnOf 31 = .ok (.iconst (-1), 1) := by decide +kernel
theorem dX0_firstColumnOf_32 : decode cX0_firstColumnOf 32 = .ok (.ireturn, 1) := by decide +kernel
theorem dX0_hasBareContradiction_0 : decode cX0_hasBareContradiction 0 = .ok (.iconst 0, 1) := by decide +kernel
theorem dX0_hasBareContradiction_1 : decode cX0_hasBareContradiction 1 = .ok (.istore_n 1, 1) := by decide +kernel
theorem dX0_hasBareContradiction_2 : decode cX0_hasBareContradiction 2 = .ok (.iload_n 1, 1) := by decide +kernel
theorem dX0_hasBareContradiction_3 : decode cX0_hasBareContradiction 3 = .ok (.aload_n 0, 1) := by decide +kernel
theorem dX0_hasBareContradiction_4 : decode cX0_hasBareContradiction 4 = .ok (.getfield 20, 3) := by decide +kernel
theorem dX0_hasBareContradiction_7 : decode cX0_hasBareContradiction 7 = .ok (.if_icmp .ge 37, 3) := by decide +kernel
theorem dX0_hasBareContradiction_10 : decode cX0_hasBareContradiction 10 = .ok (.aload_n 0, 1) := by decide +kernel
theorem dX0_hasBareContradiction_11 : decode cX0_hasBareContradiction 11 = .ok (.getfield 16, 3) := by decide +kernel
theorem dX0_hasBareContradiction_14 : decode cX0_hasBareContradiction 14 = .ok (.iload_n 1, 1) := by decide +kernel
theorem dX0_hasBareContradiction_15 : decode cX0_hasBareContradiction 15 = .ok (.iaload, 1) := by decide +kernel
theorem dX0_hasBareContradiction_16 : decode cX0_hasBareContradiction 16 = .ok (.iconst (-1), 1) := by decide +kernel
theorem dX0_hasBareContradiction_17 : decode cX0_hasBareContradiction 17 = .ok (.if_icmp .ne 21, 3) := by decide +kernel
theorem dX0_hasBareContradiction_20 : decode cX0_hasBareContradiction 20 = .ok (.aload_n 0, 1) := by decide +kernel
theorem dX0_hasBareContradiction_21 : decode cX0_hasBareContradiction 21 = .ok (.getfield 13, 3) := by decide +kernel
theorem dX0_hasBareContradiction_24 : decode cX0_hasBareContradiction 24 = .ok (.iload_n 1, 1) := by decide +kernel
theorem dX0_hasBareContradiction_25 : decode cX0_hasBareContradiction 25 = .ok (.aaload, 1) := by decide +kernel
theorem dX0_hasBareContradiction_26 : decode cX0_hasBareContradiction 26 = .ok (.aload_n 0, 1) := by decide +kernel
theorem dX0_hasBareContradiction_27 : decode cX0_hasBareContradiction 27 = .ok (.getfield 24, 3) := by decide +kernel
theorem dX0_hasBareContradiction_30 : decode cX0_hasBareContradiction 30 = .ok (.laload, 1) := by decide +kernel
theorem dX0_hasBareContradiction_31 : decode cX0_hasBareContradiction 31 = .ok (.lconst 0, 1) := by decide +kernel
theorem dX0_hasBareContradiction_32 : decode cX0_hasBareContradiction 32 = .ok (.lcmp, 1) := by decide +kernel
theorem dX0_hasBareContradiction_33 : decode cX0_hasBareContradiction 33 = .ok (.ifCond .eq 5, 3) := by decide +kernel
theorem dX0_hasBareContradiction_36 : decode cX0_hasBareContradiction 36 = .ok (.iconst 1, 1) := by decide +kernel
theorem dX0_hasBareContradiction_37 : decode cX0_hasBareContradiction 37 = .ok (.ireturn, 1) := by decide +kernel
theorem dX0_hasBareContradiction_38 : decode cX0_hasBareContradiction 38 = .ok (.iinc 1 1, 3) := by decide +kernel
theorem dX0_hasBareContradiction_41 : decode cX0_hasBareContradiction 41 = .ok (.goto (-39), 3) := by decide +kernel
theorem dX0_hasBareContradiction_44 : decode cX0_hasBareContradiction 44 = .ok (.iconst 0, 1) := by decide +kernel
theorem dX0_hasBareContradiction_45 : decode cX0_hasBareContradiction 45 = .ok (.ireturn, 1) := by decide +kernel
theorem dX0_columnThatSaves_0 : decode cX0_columnThatSaves 0 = .ok (.iconst 0, 1) := by decide +kernel
theorem dX0_columnThatSaves_1 : decode cX0_columnThatSaves 1 = .ok (.istore_n 1, 1) := by decide +kernel
theorem dX0_columnThatSaves_2 : decode cX0_columnThatSaves 2 = .ok (.iload_n 1, 1) := by decide +kernel
theorem dX0_columnThatSaves_3 : decode cX0_columnThatSaves 3 = .ok (.aload_n 0, 1) := by decide +kernel
theorem dX0_columnThatSaves_4 : decode cX0_columnThatSaves 4 = .ok (.getfield 24, 3) := by decide +kernel
theorem dX0_columnThatSaves_7 : decode cX0_columnThatSaves 7 = .ok (.if_icmp .ge 27, 3) := by decide +kernel
theorem dX0_columnThatSaves_10 : decode cX0_columnThatSaves 10 = .ok (.aload_n 0, 1) := by decide +kernel
theorem dX0_columnThatSaves_11 : decode cX0_columnThatSaves 11 = .ok (.getfield 13, 3) := by decide +kernel
theorem dX0_columnThatSaves_14 : decode cX0_columnThatSaves 14 = .ok (.aload_n 0, 1) := by decide +kernel
theorem dX0_columnThatSaves_15 : decode cX0_columnThatSaves 15 = .ok (.getfield 20, 3) := by decide +kernel
theorem dX0_columnThatSaves_18 : decode cX0_columnThatSaves 18 = .ok (.aaload, 1) := by decide +kernel
theorem dX0_columnThatSaves_19 : decode cX0_columnThatSaves 19 = .ok (.iload_n 1, 1) := by decide +kernel
theorem dX0_columnThatSaves_20 : decode cX0_columnThatSaves 20 = .ok (.laload, 1) := by decide +kernel
theorem dX0_columnThatSaves_21 : decode cX0_columnThatSaves 21 = .ok (.lconst 0, 1) := by decide +kernel
theorem dX0_columnThatSaves_22 : decode cX0_columnThatSaves 22 = .ok (.lcmp, 1) := by decide +kernel
theorem dX0_columnThatSaves_23 : decode cX0_columnThatSaves 23 = .ok (.ifCond .ge 5, 3) := by decide +kernel
theorem dX0_columnThatSaves_26 : decode cX0_columnThatSaves 26 = .ok (.iload_n 1, 1) := by decide +kernel
theorem dX0_columnThatSaves_27 : decode cX0_columnThatSaves 27 = .ok (.ireturn, 1) := by decide +kernel
theorem dX0_columnThatSaves_28 : decode cX0_columnThatSaves 28 = .ok (.iinc 1 1, 3) := by decide +kernel
theorem dX0_columnThatSaves_31 : decode cX0_columnThatSaves 31 = .ok (.goto (-29), 3) := by decide +kernel
theorem dX0_columnThatSaves_34 : decode cX0_columnThatSaves 34 = .ok (.iconst (-1), 1) := by decide +kernel
theorem dX0_columnThatSaves_35 : decode cX0_columnThatSaves 35 = .ok (.ireturn, 1) := by decide +kernel
set_option maxRecDepth 20000 in
theorem ggX0_rowThatLimits_X0_holdsLess : GoodIn wsX0_rowThatLimits wsX0_holdsLess := goodIn_r _ [7, 8, 9, 10, 11, 12, 13, 14, 15] (by decide +kernel) (by decide +kernel)
set_option maxRecDepth 20000 in
theorem gX0_rowThatLimits_X0_holdsLess : GoodIn wsX0_rowThatLimits (wsV RX0 85 RX0 yX0_holdsLess wsX0_holdsLess) := goodIn_app (goodIn_of _ (by decide +kernel)) ggX0_rowThatLimits_X0_holdsLess
theorem dX0_rowThatLimits_0 : decode cX0_rowThatLimits 0 = .ok (.iconst (-1), 1) := by decide +kernel
theorem dX0_rowThatLimits_1 : decode cX0_rowThatLimits 1 = .ok (.istore_n 2, 1) := by decide +kernel
theorem dX0_rowThatLimits_2 : decode cX0_rowThatLimits 2 = .ok (.iconst 0, 1) := by decide +kernel
theorem dX0_rowThatLimits_3 : decode cX0_rowThatLimits 3 = .ok (.istore_n 3, 1) := by decide +kernel
theorem dX0_rowThatLimits_4 : decode cX0_rowThatLimits 4 = .ok (.iload_n 3, 1) := by decide +kernel
theorem dX0_rowThatLimits_5 : decode cX0_rowThatLimits 5 = .ok (.aload_n 0, 1) := by decide +kernel
theorem dX0_rowThatLimits_6 : decode cX0_rowThatLimits 6 = .ok (.getfield 20, 3) := by decide +kernel
theorem dX0_rowThatLimits_9 : decode cX0_rowThatLimits 9 = .ok (.if_icmp .ge 33, 3) := by decide +kernel
theorem dX0_rowThatLimits_12 : decode cX0_rowThatLimits 12 = .ok (.aload_n 0, 1) := by decide +kernel
theorem dX0_rowThatLimits_13 : decode cX0_rowThatLimits 13 = .ok (.getfield 13, 3) := by decide +kernel
theorem dX0_rowThatLimits_16 : decode cX0_rowThatLimits 16 = .ok (.iload_n 3, 1) := by decide +kernel
theorem dX0_rowThatLimits_17 : decode cX0_rowThatLimits 17 = .ok (.aaload, 1) := by decide +kernel
theorem dX0_rowThatLimits_18 : decode cX0_rowThatLimits 18 = .ok (.iload_n 1, 1) := by decide +kernel
theorem dX0_rowThatLimits_19 : decode cX0_rowThatLimits 19 = .ok (.laload, 1) := by decide +kernel
theorem dX0_rowThatLimits_20 : decode cX0_rowThatLimits 20 = .ok (.lconst 0, 1) := by decide +kernel
theorem dX0_rowThatLimits_21 : decode cX0_rowThatLimits 21 = .ok (.lcmp, 1) := by decide +kernel
theorem dX0_rowThatLimits_22 : decode cX0_rowThatLimits 22 = .ok (.ifCond .le 14, 3) := by decide +kernel
theorem dX0_rowThatLimits_25 : decode cX0_rowThatLimits 25 = .ok (.aload_n 0, 1) := by decide +kernel
theorem dX0_rowThatLimits_26 : decode cX0_rowThatLimits 26 = .ok (.iload_n 3, 1) := by decide +kernel
theorem dX0_rowThatLimits_27 : decode cX0_rowThatLimits 27 = .ok (.iload_n 2, 1) := by decide +kernel
theorem dX0_rowThatLimits_28 : decode cX0_rowThatLimits 28 = .ok (.invokevirtual 85, 3) := by decide +kernel
theorem dX0_rowThatLimits_31 : decode cX0_rowThatLimits 31 = .ok (.ifCond .eq 5, 3) := by decide +kernel
theorem dX0_rowThatLimits_34 : decode cX0_rowThatLimits 34 = .ok (.iload_n 3, 1) := by decide +kernel
theorem dX0_rowThatLimits_35 : decode cX0_rowThatLimits 35 = .ok (.istore_n 2, 1) := by decide +kernel
theorem dX0_rowThatLimits_36 : decode cX0_rowThatLimits 36 = .ok (.iinc 3 1, 3) := by decide +kernel
theorem dX0_rowThatLimits_39 : decode cX0_rowThatLimits 39 = .ok (.goto (-35), 3) := by decide +kernel
theorem dX0_rowThatLimits_42 : decode cX0_rowThatLimits 42 = .ok (.iload_n 2, 1) := by decide +kernel
theorem dX0_rowThatLimits_43 : decode cX0_rowThatLimits 43 = .ok (.ireturn, 1) := by decide +kernel
set_option maxRecDepth 20000 in
theorem ggX0_rowBelowZero_X0_holdsLess : GoodIn wsX0_rowBelowZero wsX0_holdsLess := goodIn_r _ [8, 9, 10, 11, 12, 13, 14, 15, 16] (by decide +kernel) (by decide +kernel)
set_option maxRecDepth 20000 in
theorem gX0_rowBelowZero_X0_holdsLess : GoodIn wsX0_rowBelowZero (wsV RX0 85 RX0 yX0_holdsLess wsX0_holdsLess) := goodIn_app (goodIn_of _ (by decide +kernel)) ggX0_rowBelowZero_X0_holdsLess
theorem dX0_rowBelowZero_0 : decode cX0_rowBelowZero 0 = .ok (.iconst (-1), 1) := by decide +kernel
theorem dX0_rowBelowZero_1 : decode cX0_rowBelowZero 1 = .ok (.istore_n 1, 1) := by decide +kernel
theorem dX0_rowBelowZero_2 : decode cX0_rowBelowZero 2 = .ok (.iconst 0, 1) := by decide +kernel
theorem dX0_rowBelowZero_3 : decode cX0_rowBelowZero 3 = .ok (.istore_n 2, 1) := by decide +kernel
theorem dX0_rowBelowZero_4 : decode cX0_rowBelowZero 4 = .ok (.iload_n 2, 1) := by decide +kernel
theorem dX0_rowBelowZero_5 : decode cX0_rowBelowZero 5 = .ok (.aload_n 0, 1) := by decide +kernel
theorem dX0_rowBelowZero_6 : decode cX0_rowBelowZero 6 = .ok (.getfield 20, 3) := by decide +kernel
theorem dX0_rowBelowZero_9 : decode cX0_rowBelowZero 9 = .ok (.if_icmp .ge 36, 3) := by decide +kernel
theorem dX0_rowBelowZero_12 : decode cX0_rowBelowZero 12 = .ok (.aload_n 0, 1) := by decide +kernel
theorem dX0_rowBelowZero_13 : decode cX0_rowBelowZero 13 = .ok (.getfield 13, 3) := by decide +kernel
theorem dX0_rowBelowZero_16 : decode cX0_rowBelowZero 16 = .ok (.iload_n 2, 1) := by decide +kernel
theorem dX0_rowBelowZero_17 : decode cX0_rowBelowZero 17 = .ok (.aaload, 1) := by decide +kernel
theorem dX0_rowBelowZero_18 : decode cX0_rowBelowZero 18 = .ok (.aload_n 0, 1) := by decide +kernel
theorem dX0_rowBelowZero_19 : decode cX0_rowBelowZero 19 = .ok (.getfield 24, 3) := by decide +kernel
theorem dX0_rowBelowZero_22 : decode cX0_rowBelowZero 22 = .ok (.laload, 1) := by decide +kernel
theorem dX0_rowBelowZero_23 : decode cX0_rowBelowZero 23 = .ok (.lconst 0, 1) := by decide +kernel
theorem dX0_rowBelowZero_24 : decode cX0_rowBelowZero 24 = .ok (.lcmp, 1) := by decide +kernel
theorem dX0_rowBelowZero_25 : decode cX0_rowBelowZero 25 = .ok (.ifCond .ge 14, 3) := by decide +kernel
theorem dX0_rowBelowZero_28 : decode cX0_rowBelowZero 28 = .ok (.aload_n 0, 1) := by decide +kernel
theorem dX0_rowBelowZero_29 : decode cX0_rowBelowZero 29 = .ok (.iload_n 2, 1) := by decide +kernel
theorem dX0_rowBelowZero_30 : decode cX0_rowBelowZero 30 = .ok (.iload_n 1, 1) := by decide +kernel
theorem dX0_rowBelowZero_31 : decode cX0_rowBelowZero 31 = .ok (.invokevirtual 85, 3) := by decide +kernel
theorem dX0_rowBelowZero_34 : decode cX0_rowBelowZero 34 = .ok (.ifCond .eq 5, 3) := by decide +kernel
theorem dX0_rowBelowZero_37 : decode cX0_rowBelowZero 37 = .ok (.iload_n 2, 1) := by decide +kernel
theorem dX0_rowBelowZero_38 : decode cX0_rowBelowZero 38 = .ok (.istore_n 1, 1) := by decide +kernel
theorem dX0_rowBelowZero_39 : decode cX0_rowBelowZero 39 = .ok (.iinc 2 1, 3) := by decide +kernel
theorem dX0_rowBelowZero_42 : decode cX0_rowBelowZero 42 = .ok (.goto (-38), 3) := by decide +kernel
theorem dX0_rowBelowZero_45 : decode cX0_rowBelowZero 45 = .ok (.iload_n 1, 1) := by decide +kernel
theorem dX0_rowBelowZero_46 : decode cX0_rowBelowZero 46 = .ok (.ireturn, 1) := by decide +kernel
theorem dX0_holdsLess_0 : decode cX0_holdsLess 0 = .ok (.aload_n 0, 1) := by decide +kernel
theorem dX0_holdsLess_1 : decode cX0_holdsLess 1 = .ok (.getfield 16, 3) := by decide +kernel
theorem dX0_holdsLess_4 : decode cX0_holdsLess 4 = .ok (.iload_n 1, 1) := by decide +kernel
theorem dX0_holdsLess_5 : decode cX0_holdsLess 5 = .ok (.iaload, 1) := by decide +kernel
theorem dX0_holdsLess_6 : decode cX0_holdsLess 6 = .ok (.iconst (-1), 1) := by decide +kernel
theorem dX0_holdsLess_7 : decode cX0_holdsLess 7 = .ok (.if_icmp .eq 27, 3) := by decide +kernel
theorem dX0_holdsLess_10 : decode cX0_holdsLess 10 = .ok (.iload_n 2, 1) := by decide +kernel
theorem dX0_holdsLess_11 : decode cX0_holdsLess 11 = .ok (.iconst (-1), 1) := by decide +kernel
theorem dX0_holdsLess_12 : decode cX0_holdsLess 12 = .ok (.if_icmp .eq 18, 3) := by decide +kernel
theorem dX0_holdsLess_15 : decode cX0_holdsLess 15 = .ok (.aload_n 0, 1) := by decide +kernel
theorem dX0_holdsLess_16 : decode cX0_holdsLess 16 = .ok (.getfield 16, 3) := by decide +kernel
theorem dX0_holdsLess_19 : decode cX0_holdsLess 19 = .ok (.iload_n 1, 1) := by decide +kernel
theorem dX0_holdsLess_20 : decode cX0_holdsLess 20 = .ok (.iaload, 1) := by decide +kernel
theorem dX0_holdsLess_21 : decode cX0_holdsLess 21 = .ok (.aload_n 0, 1) := by decide +kernel
theorem dX0_holdsLess_22 : decode cX0_holdsLess 22 = .ok (.getfield 16, 3) := by decide +kernel
theorem dX0_holdsLess_25 : decode cX0_holdsLess 25 = .ok (.iload_n 2, 1) := by decide +kernel
theorem dX0_holdsLess_26 : decode cX0_holdsLess 26 = .ok (.iaload, 1) := by decide +kernel
theorem dX0_holdsLess_27 : decode cX0_holdsLess 27 = .ok (.if_icmp .ge 7, 3) := by decide +kernel
theorem dX0_holdsLess_30 : decode cX0_holdsLess 30 = .ok (.iconst 1, 1) := by decide +kernel
theorem dX0_holdsLess_31 : decode cX0_holdsLess 31 = .ok (.goto 4, 3) := by decide +kernel
theorem dX0_holdsLess_34 : decode cX0_holdsLess 34 = .ok (.iconst 0, 1) := by decide +kernel
theorem dX0_holdsLess_35 : decode cX0_holdsLess 35 = .ok (.ireturn, 1) := by decide +kernel
set_option maxRecDepth 20000 in
theorem ggX0_columnThatLifts_X0_isCheaper : GoodIn wsX0_columnThatLifts wsX0_isCheaper := goodIn_r _ [7, 2, 8, 9, 10, 11, 12, 13, 14, 15] (by decide +kernel) (by decide +kernel)
set_option maxRecDepth 20000 in
theorem gX0_columnThatLifts_X0_isCheaper : GoodIn wsX0_columnThatLifts (wsV RX0 89 RX0 yX0_isCheaper wsX0_isCheaper) := goodIn_app (goodIn_of _ (by decide +kernel)) ggX0_columnThatLifts_X0_isCheaper
theorem dX0_columnThatLifts_0 : decode cX0_columnThatLifts 0 = .ok (.iconst (-1), 1) := by decide +kernel
theorem dX0_columnThatLifts_1 : decode cX0_columnThatLifts 1 = .ok (.istore_n 2, 1) := by decide +kernel
theorem dX0_columnThatLifts_2 : decode cX0_columnThatLifts 2 = .ok (.iconst 0, 1) := by decide +kernel
theorem dX0_columnThatLifts_3 : decode cX0_columnThatLifts 3 = .ok (.istore_n 3, 1) := by decide +kernel
theorem dX0_columnThatLifts_4 : decode cX0_columnThatLifts 4 = .ok (.iload_n 3, 1) := by decide +kernel
theorem dX0_columnThatLifts_5 : decode cX0_columnThatLifts 5 = .ok (.aload_n 0, 1) := by decide +kernel
theorem dX0_columnThatLifts_6 : decode cX0_columnThatLifts 6 = .ok (.getfield 24, 3) := by decide +kernel
theorem dX0_columnThatLifts_9 : decode cX0_columnThatLifts 9 = .ok (.if_icmp .ge 39, 3) := by decide +kernel
theorem dX0_columnThatLifts_12 : decode cX0_columnThatLifts 12 = .ok (.aload_n 0, 1) := by decide +kernel
theorem dX0_columnThatLifts_13 : decode cX0_columnThatLifts 13 = .ok (.getfield 13, 3) := by decide +kernel
theorem dX0_columnThatLifts_16 : decode cX0_columnThatLifts 16 = .ok (.iload_n 1, 1) := by decide +kernel
theorem dX0_columnThatLifts_17 : decode cX0_columnThatLifts 17 = .ok (.aaload, 1) := by decide +kernel
theorem dX0_columnThatLifts_18 : decode cX0_columnThatLifts 18 = .ok (.iload_n 3, 1) := by decide +kernel
theorem dX0_columnThatLifts_19 : decode cX0_columnThatLifts 19 = .ok (.laload, 1) := by decide +kernel
theorem dX0_columnThatLifts_20 : decode cX0_columnThatLifts 20 = .ok (.lconst 0, 1) := by decide +kernel
theorem dX0_columnThatLifts_21 : decode cX0_columnThatLifts 21 = .ok (.lcmp, 1) := by decide +kernel
theorem dX0_columnThatLifts_22 : decode cX0_columnThatLifts 22 = .ok (.ifCond .ge 20, 3) := by decide +kernel
theorem dX0_columnThatLifts_25 : decode cX0_columnThatLifts 25 = .ok (.iload_n 2, 1) := by decide +kernel
theorem dX0_columnThatLifts_26 : decode cX0_columnThatLifts 26 = .ok (.iconst (-1), 1) := by decide +kernel
theorem dX0_columnThatLifts_27 : decode cX0_columnThatLifts 27 = .ok (.if_icmp .eq 13, 3) := by decide +kernel
theorem dX0_columnThatLifts_30 : decode cX0_columnThatLifts 30 = .ok (.aload_n 0, 1) := by decide +kernel
theorem dX0_columnThatLifts_31 : decode cX0_columnThatLifts 31 = .ok (.iload_n 1, 1) := by decide +kernel
theorem dX0_columnThatLifts_32 : decode cX0_columnThatLifts 32 = .ok (.iload_n 3, 1) := by decide +kernel
theorem dX0_columnThatLifts_33 : decode cX0_columnThatLifts 33 = .ok (.iload_n 2, 1) := by decide +kernel
theorem dX0_columnThatLifts_34 : decode cX0_columnThatLifts 34 = .ok (.invokevirtual 89, 3) := by decide +kernel
theorem dX0_columnThatLifts_37 : decode cX0_columnThatLifts 37 = .ok (.ifCond .eq 5, 3) := by decide +kernel
theorem dX0_columnThatLifts_40 : decode cX0_columnThatLifts 40 = .ok (.iload_n 3, 1) := by decide +kernel
theorem dX0_columnThatLifts_41 : decode cX0_columnThatLifts 41 = .ok (.istore_n 2, 1) := by decide +kernel
theorem dX0_columnThatLifts_42 : decode cX0_columnThatLifts 42 = .ok (.iinc 3 1, 3) := by decide +kernel
theorem dX0_columnThatLifts_45 : decode cX0_columnThatLifts 45 = .ok (.goto (-41), 3) := by decide +kernel
theorem dX0_columnThatLifts_48 : decode cX0_columnThatLifts 48 = .ok (.iload_n 2, 1) := by decide +kernel
theorem dX0_columnThatLifts_49 : decode cX0_columnThatLifts 49 = .ok (.ireturn, 1) := by decide +kernel
theorem dX0_isCheaper_0 : decode cX0_isCheaper 0 = .ok (.aload_n 0, 1) := by decide +kernel
theorem dX0_isCheaper_1 : decode cX0_isCheaper 1 = .ok (.getfield 13, 3) := by decide +kernel
theorem dX0_isCheaper_4 : decode cX0_isCheaper 4 = .ok (.aload_n 0, 1) := by decide +kernel
theorem dX0_isCheaper_5 : decode cX0_isCheaper 5 = .ok (.getfield 20, 3) := by decide +kernel
theorem dX0_isCheaper_8 : decode cX0_isCheaper 8 = .ok (.aaload, 1) := by decide +kernel
theorem dX0_isCheaper_9 : decode cX0_isCheaper 9 = .ok (.astore 4, 2) := by decide +kernel
theorem dX0_isCheaper_11 : decode cX0_isCheaper 11 = .ok (.aload 4, 2) := by decide +kernel
theorem dX0_isCheaper_13 : decode cX0_isCheaper 13 = .ok (.iload_n 2, 1) := by decide +kernel
theorem dX0_isCheaper_14 : decode cX0_isCheaper 14 = .ok (.laload, 1) := by decide +kernel
theorem dX0_isCheaper_15 : decode cX0_isCheaper 15 = .ok (.aload_n 0, 1) := by decide +kernel
theorem dX0_isCheaper_16 : decode cX0_isCheaper 16 = .ok (.getfield 13, 3) := by decide +kernel
theorem dX0_isCheaper_19 : decode cX0_isCheaper 19 = .ok (.iload_n 1, 1) := by decide +kernel
theorem dX0_isCheaper_20 : decode cX0_isCheaper 20 = .ok (.aaload, 1) := by decide +kernel
theorem dX0_isCheaper_21 : decode cX0_isCheaper 21 = .ok (.iload_n 3, 1) := by decide +kernel
theorem dX0_isCheaper_22 : decode cX0_isCheaper 22 = .ok (.laload, 1) := by decide +kernel
theorem dX0_isCheaper_23 : decode cX0_isCheaper 23 = .ok (.lmul, 1) := by decide +kernel
theorem dX0_isCheaper_24 : decode cX0_isCheaper 24 = .ok (.aload 4, 2) := by decide +kernel
theorem dX0_isCheaper_26 : decode cX0_isCheaper 26 = .ok (.iload_n 3, 1) := by decide +kernel
theorem dX0_isCheaper_27 : decode cX0_isCheaper 27 = .ok (.laload, 1) := by decide +kernel
theorem dX0_isCheaper_28 : decode cX0_isCheaper 28 = .ok (.aload_n 0, 1) := by decide +kernel
theorem dX0_isCheaper_29 : decode cX0_isCheaper 29 = .ok (.getfield 13, 3) := by decide +kernel
theorem dX0_isCheaper_32 : decode cX0_isCheaper 32 = .ok (.iload_n 1, 1) := by decide +kernel
theorem dX0_isCheaper_33 : decode cX0_isCheaper 33 = .ok (.aaload, 1) := by decide +kernel
theorem dX0_isCheaper_34 : decode cX0_isCheaper 34 = .ok (.iload_n 2, 1) := by decide +kernel
theorem dX0_isCheaper_35 : decode cX0_isCheaper 35 = .ok (.laload, 1) := by decide +kernel
theorem dX0_isCheaper_36 : decode cX0_isCheaper 36 = .ok (.lmul, 1) := by decide +kernel
theorem dX0_isCheaper_37 : decode cX0_isCheaper 37 = .ok (.lcmp, 1) := by decide +kernel
theorem dX0_isCheaper_38 : decode cX0_isCheaper 38 = .ok (.ifCond .le 7, 3) := by decide +kernel
theorem dX0_isCheaper_41 : decode cX0_isCheaper 41 = .ok (.iconst 1, 1) := by decide +kernel
theorem dX0_isCheaper_42 : decode cX0_isCheaper 42 = .ok (.goto 4, 3) := by decide +kernel
theorem dX0_isCheaper_45 : decode cX0_isCheaper 45 = .ok (.iconst 0, 1) := by decide +kernel
theorem dX0_isCheaper_46 : decode cX0_isCheaper 46 = .ok (.ireturn, 1) := by decide +kernel
set_option maxRecDepth 20000 in
theorem ggX0_exchange_X0_negate : GoodIn wsX0_exchange wsX0_negate := goodIn_r _ [9, 3, 1, 34, 35, 36, 37, 38, 39, 40] (by decide +kernel) (by decide +kernel)
set_option maxRecDepth 20000 in
theorem gX0_exchange_X0_negate : GoodIn wsX0_exchange (wsV RX0 93 RX0 yX0_negate wsX0_negate) := goodIn_app (goodIn_of _ (by decide +kernel)) ggX0_exchange_X0_negate
set_option maxRecDepth 20000 in
theorem ggX0_exchange_X0_differenceByUnit : GoodIn wsX0_exchange wsX0_differenceByUnit := goodIn_r _ [13, 14, 15, 16, 17, 18, 8, 19, 20, 34, 35, 36, 37, 38, 39, 40] (by decide +kernel) (by decide +kernel)
set_option maxRecDepth 20000 in
theorem gX0_exchange_X0_differenceByUnit : GoodIn wsX0_exchange (wsV RX0 97 RX0 yX0_differenceByUnit wsX0_differenceByUnit) := goodIn_app (goodIn_of _ (by decide +kernel)) ggX0_exchange_X0_differenceByUnit
set_option maxRecDepth 20000 in
theorem ggX0_exchange_X0_takeUnit : GoodIn wsX0_exchange wsX0_takeUnit := goodIn_r _ [24, 25, 15, 26, 16, 27, 28, 29, 30, 31, 32, 33, 34, 35, 36, 37, 38, 39, 40] (by decide +kernel) (by decide +kernel)
set_option maxRecDepth 20000 in
theorem gX0_exchange_X0_takeUnit : GoodIn wsX0_exchange (wsV RX0 52 RX0 yX0_takeUnit wsX0_takeUnit) := goodIn_app (goodIn_of _ (by decide +kernel)) ggX0_exchange_X0_takeUnit
theorem dX0_exchange_0 : decode cX0_exchange 0 = .ok (.aload_n 0, 1) := by decide +kernel
theorem dX0_exchange_1 : decode cX0_exchange 1 = .ok (.getfield 13, 3) := by decide +kernel
theorem dX0_exchange_4 : decode cX0_exchange 4 = .ok (.iload_n 1, 1) := by decide +kernel
theorem dX0_exchange_5 : decode cX0_exchange 5 = .ok (.aaload, 1) := by decide +kernel
theorem dX0_exchange_6 : decode cX0_exchange 6 = .ok (.iload_n 2, 1) := by decide +kernel
theorem dX0_exchange_7 : decode cX0_exchange 7 = .ok (.laload, 1) := by decide +kernel
theorem dX0_exchange_8 : decode cX0_exchange 8 = .ok (.lconst 0, 1) := by decide +kernel
theorem dX0_exchange_9 : decode cX0_exchange 9 = .ok (.lcmp, 1) := by decide +kernel
theorem dX0_exchange_10 : decode cX0_exchange 10 = .ok (.ifCond .ge 8, 3) := by decide +kernel
theorem dX0_exchange_13 : decode cX0_exchange 13 = .ok (.aload_n 0, 1) := by decide +kernel
theorem dX0_exchange_14 : decode cX0_exchange 14 = .ok (.iload_n 1, 1) := by decide +kernel
theorem dX0_exchange_15 : decode cX0_exchange 15 = .ok (.invokevirtual 93, 3) := by decide +kernel
theorem dX0_exchange_18 : decode cX0_exchange 18 = .ok (.aload_n 0, 1) := by decide +kernel
theorem dX0_exchange_19 : decode cX0_exchange 19 = .ok (.getfield 13, 3) := by decide +kernel
theorem dX0_exchange_22 : decode cX0_exchange 22 = .ok (.iload_n 1, 1) := by decide +kernel
theorem dX0_exchange_23 : decode cX0_exchange 23 = .ok (.aaload, 1) := by decide +kernel
theorem dX0_exchange_24 : decode cX0_exchange 24 = .ok (.astore_n 3, 1) := by decide +kernel
theorem dX0_exchange_25 : decode cX0_exchange 25 = .ok (.iconst 0, 1) := by decide +kernel
theorem dX0_exchange_26 : decode cX0_exchange 26 = .ok (.istore 4, 2) := by decide +kernel
theorem dX0_exchange_28 : decode cX0_exchange 28 = .ok (.iload 4, 2) := by decide +kernel
theorem dX0_exchange_30 : decode cX0_exchange 30 = .ok (.aload_n 0, 1) := by decide +kernel
theorem dX0_exchange_31 : decode cX0_exchange 31 = .ok (.getfield 20, 3) := by decide +kernel
theorem dX0_exchange_34 : decode cX0_exchange 34 = .ok (.if_icmp .gt 71, 3) := by decide +kernel
theorem dX0_exchange_37 : decode cX0_exchange 37 = .ok (.iload 4, 2) := by decide +kernel
theorem dX0_exchange_39 : decode cX0_exchange 39 = .ok (.iload_n 1, 1) := by decide +kernel
theorem dX0_exchange_40 : decode cX0_exchange 40 = .ok (.if_icmp .eq 59, 3) := by decide +kernel
theorem dX0_exchange_43 : decode cX0_exchange 43 = .ok (.aload_n 0, 1) := by decide +kernel
theorem dX0_exchange_44 : decode cX0_exchange 44 = .ok (.getfield 13, 3) := by decide +kernel
theorem dX0_exchange_47 : decode cX0_exchange 47 = .ok (.iload 4, 2) := by decide +kernel
theorem dX0_exchange_49 : decode cX0_exchange 49 = .ok (.aaload, 1) := by decide +kernel
theorem dX0_exchange_50 : decode cX0_exchange 50 = .ok (.astore 5, 2) := by decide +kernel
theorem dX0_exchange_52 : decode cX0_exchange 52 = .ok (.aload 5, 2) := by decide +kernel
theorem dX0_exchange_54 : decode cX0_exchange 54 = .ok (.iload_n 2, 1) := by decide +kernel
theorem dX0_exchange_55 : decode cX0_exchange 55 = .ok (.laload, 1) := by decide +kernel
theorem dX0_exchange_56 : decode cX0_exchange 56 = .ok (.lstore 6, 2) := by decide +kernel
theorem dX0_exchange_58 : decode cX0_exchange 58 = .ok (.iconst 0, 1) := by decide +kernel
theorem dX0_exchange_59 : decode cX0_exchange 59 = .ok (.istore 8, 2) := by decide +kernel
theorem dX0_exchange_61 : decode cX0_exchange 61 = .ok (.iload 8, 2) := by decide +kernel
theorem dX0_exchange_63 : decode cX0_exchange 63 = .ok (.aload_n 0, 1) := by decide +kernel
theorem dX0_exchange_64 : decode cX0_exchange 64 = .ok (.getfield 24, 3) := by decide +kernel
theorem dX0_exchange_67 : decode cX0_exchange 67 = .ok (.if_icmp .gt 32, 3) := by decide +kernel
theorem dX0_exchange_70 : decode cX0_exchange 70 = .ok (.aload 5, 2) := by decide +kernel
theorem dX0_exchange_72 : decode cX0_exchange 72 = .ok (.iload 8, 2) := by decide +kernel
theorem dX0_exchange_74 : decode cX0_exchange 74 = .ok (.aload_n 0, 1) := by decide +kernel
theorem dX0_exchange_75 : decode cX0_exchange 75 = .ok (.aload_n 3, 1) := by decide +kernel
theorem dX0_exchange_76 : decode cX0_exchange 76 = .ok (.iload_n 2, 1) := by decide +kernel
theorem dX0_exchange_77 : decode cX0_exchange 77 = .ok (.laload, 1) := by decide +kernel
theorem dX0_exchange_78 : decode cX0_exchange 78 = .ok (.aload 5, 2) := by decide +kernel
theorem dX0_exchange_80 : decode cX0_exchange 80 = .ok (.iload 8, 2) := by decide +kernel
theorem dX0_exchange_82 : decode cX0_exchange 82 = .ok (.laload, 1) := by decide +kernel
theorem dX0_exchange_83 : decode cX0_exchange 83 = .ok (.lload 6, 2) := by decide +kernel
theorem dX0_exchange_85 : decode cX0_exchange 85 = .ok (.aload_n 3, 1) := by decide +kernel
theorem dX0_exchange_86 : decode cX0_exchange 86 = .ok (.iload 8, 2) := by decide +kernel
theorem dX0_exchange_88 : decode cX0_exchange 88 = .ok (.laload, 1) := by decide +kernel
theorem dX0_exchange_89 : decode cX0_exchange 89 = .ok (.invokevirtual 97, 3) := by decide +kernel
theorem dX0_exchange_92 : decode cX0_exchange 92 = .ok (.lastore, 1) := by decide +kernel
theorem dX0_exchange_93 : decode cX0_exchange 93 = .ok (.iinc 8 1, 3) := by decide +kernel
theorem dX0_exchange_96 : decode cX0_exchange 96 = .ok (.goto (-35), 3) := by decide +kernel
theorem dX0_exchange_99 : decode cX0_exchange 99 = .ok (.iinc 4 1, 3) := by decide +kernel
theorem dX0_exchange_102 : decode cX0_exchange 102 = .ok (.goto (-74), 3) := by decide +kernel
theorem dX0_exchange_105 : decode cX0_exchange 105 = .ok (.aload_n 0, 1) := by decide +kernel
theorem dX0_exchange_106 : decode cX0_exchange 106 = .ok (.getfield 16, 3) := by decide +kernel
theorem dX0_exchange_109 : decode cX0_exchange 109 = .ok (.iload_n 1, 1) := by decide +kernel
theorem dX0_exchange_110 : decode cX0_exchange 110 = .ok (.iload_n 2, 1) := by decide +kernel
theorem dX0_exchange_111 : decode cX0_exchange 111 = .ok (.iastore, 1) := by decide +kernel
theorem dX0_exchange_112 : decode cX0_exchange 112 = .ok (.aload_n 0, 1) := by decide +kernel
theorem dX0_exchange_113 : decode cX0_exchange 113 = .ok (.aload_n 3, 1) := by decide +kernel
theorem dX0_exchange_114 : decode cX0_exchange 114 = .ok (.iload_n 2, 1) := by decide +kernel
theorem dX0_exchange_115 : decode cX0_exchange 115 = .ok (.laload, 1) := by decide +kernel
theorem dX0_exchange_116 : decode cX0_exchange 116 = .ok (.invokevirtual 52, 3) := by decide +kernel
theorem dX0_exchange_119 : decode cX0_exchange 119 = .ok (.return_, 1) := by decide +kernel
theorem dX0_negate_0 : decode cX0_negate 0 = .ok (.iconst 0, 1) := by decide +kernel
theorem dX0_negate_1 : decode cX0_negate 1 = .ok (.istore_n 2, 1) := by decide +kernel
theorem dX0_negate_2 : decode cX0_negate 2 = .ok (.iload_n 2, 1) := by decide +kernel
theorem dX0_negate_3 : decode cX0_negate 3 = .ok (.aload_n 0, 1) := by decide +kernel
theorem dX0_negate_4 : decode cX0_negate 4 = .ok (.getfield 24, 3) := by decide +kernel
theorem dX0_negate_7 : decode cX0_negate 7 = .ok (.if_icmp .gt 26, 3) := by decide +kernel
theorem dX0_negate_10 : decode cX0_negate 10 = .ok (.aload_n 0, 1) := by decide +kernel
theorem dX0_negate_11 : decode cX0_negate 11 = .ok (.getfield 13, 3) := by decide +kernel
theorem dX0_negate_14 : decode cX0_negate 14 = .ok (.iload_n 1, 1) := by decide +kernel
theorem dX0_negate_15 : decode cX0_negate 15 = .ok (.aaload, 1) := by decide +kernel
theorem dX0_negate_16 : decode cX0_negate 16 = .ok (.iload_n 2, 1) := by decide +kernel
theorem dX0_negate_17 : decode cX0_negate 17 = .ok (.aload_n 0, 1) := by decide +kernel
theorem dX0_negate_18 : decode cX0_negate 18 = .ok (.getfield 13, 3) := by decide +kernel
theorem dX0_negate_21 : decode cX0_negate 21 = .ok (.iload_n 1, 1) := by decide +kernel
theorem dX0_negate_22 : decode cX0_negate 22 = .ok (.aaload, 1) := by decide +kernel
theorem dX0_negate_23 : decode cX0_negate 23 = .ok (.iload_n 2, 1) := by decide +kernel
theorem dX0_negate_24 : decode cX0_negate 24 = .ok (.laload, 1) := by decide +kernel
theorem dX0_negate_25 : decode cX0_negate 25 = .ok (.lneg, 1) := by decide +kernel
theorem dX0_negate_26 : decode cX0_negate 26 = .ok (.lastore, 1) := by decide +kernel
theorem dX0_negate_27 : decode cX0_negate 27 = .ok (.iinc 2 1, 3) := by decide +kernel
theorem dX0_negate_30 : decode cX0_negate 30 = .ok (.goto (-28), 3) := by decide +kernel
theorem dX0_negate_33 : decode cX0_negate 33 = .ok (.return_, 1) := by decide +kernel
set_option maxRecDepth 20000 in
theorem ggX0_takeUnit_J13_bitCount_95d88 : GoodIn wsX0_takeUnit wsJ13_bitCount_95d88 := goodIn_r _ [8, 9, 10, 11] (by decide +kernel) (by decide +kernel)
set_option maxRecDepth 20000 in
theorem gX0_takeUnit_J13_bitCount_95d88 : GoodIn wsX0_takeUnit (va_wsS RX0 101 yJ13_bitCount_95d88 wsJ13_bitCount_95d88) := goodIn_app (goodIn_of _ (by decide +kernel)) ggX0_takeUnit_J13_bitCount_95d88
theorem dX0_takeUnit_0 : decode cX0_takeUnit 0 = .ok (.aload_n 0, 1) := by decide +kernel
theorem dX0_takeUnit_1 : decode cX0_takeUnit 1 = .ok (.lload_n 1, 1) := by decide +kernel
theorem dX0_takeUnit_2 : decode cX0_takeUnit 2 = .ok (.putfield 27, 3) := by decide +kernel
theorem dX0_takeUnit_5 : decode cX0_takeUnit 5 = .ok (.aload_n 0, 1) := by decide +kernel
theorem dX0_takeUnit_6 : decode cX0_takeUnit 6 = .ok (.lload_n 1, 1) := by decide +kernel
theorem dX0_takeUnit_7 : decode cX0_takeUnit 7 = .ok (.lload_n 1, 1) := by decide +kernel
theorem dX0_takeUnit_8 : decode cX0_takeUnit 8 = .ok (.lneg, 1) := by decide +kernel
theorem dX0_takeUnit_9 : decode cX0_takeUnit 9 = .ok (.land, 1) := by decide +kernel
theorem dX0_takeUnit_10 : decode cX0_takeUnit 10 = .ok (.lconst 1, 1) := by decide +kernel
theorem dX0_takeUnit_11 : decode cX0_takeUnit 11 = .ok (.lsub, 1) := by decide +kernel
theorem dX0_takeUnit_12 : decode cX0_takeUnit 12 = .ok (.invokestatic 101, 3) := by decide +kernel
theorem dX0_takeUnit_15 : decode cX0_takeUnit 15 = .ok (.putfield 31, 3) := by decide +kernel
theorem dX0_takeUnit_18 : decode cX0_takeUnit 18 = .ok (.lload_n 1, 1) := by decide +kernel
theorem dX0_takeUnit_19 : decode cX0_takeUnit 19 = .ok (.aload_n 0, 1) := by decide +kernel
theorem dX0_takeUnit_20 : decode cX0_takeUnit 20 = .ok (.getfield 31, 3) := by decide +kernel
theorem dX0_takeUnit_23 : decode cX0_takeUnit 23 = .ok (.lshr, 1) := by decide +kernel
theorem dX0_takeUnit_24 : decode cX0_takeUnit 24 = .ok (.lstore_n 3, 1) := by decide +kernel
theorem dX0_takeUnit_25 : decode cX0_takeUnit 25 = .ok (.lload_n 3, 1) := by decide +kernel
theorem dX0_takeUnit_26 : decode cX0_takeUnit 26 = .ok (.lstore 5, 2) := by decide +kernel
theorem dX0_takeUnit_28 : decode cX0_takeUnit 28 = .ok (.iconst 0, 1) := by decide +kernel
theorem dX0_takeUnit_29 : decode cX0_takeUnit 29 = .ok (.istore 7, 2) := by decide +kernel
theorem dX0_takeUnit_31 : decode cX0_takeUnit 31 = .ok (.iload 7, 2) := by decide +kernel
theorem dX0_takeUnit_33 : decode cX0_takeUnit 33 = .ok (.iconst 5, 1) := by decide +kernel
theorem dX0_takeUnit_34 : decode cX0_takeUnit 34 = .ok (.if_icmp .ge 22, 3) := by decide +kernel
theorem dX0_takeUnit_37 : decode cX0_takeUnit 37 = .ok (.lload 5, 2) := by decide +kernel
theorem dX0_takeUnit_39 : decode cX0_takeUnit 39 = .ok (.ldc2_w 107, 3) := by decide +kernel
theorem dX0_takeUnit_42 : decode cX0_takeUnit 42 = .ok (.lload_n 3, 1) := by decide +kernel
theorem dX0_takeUnit_43 : decode cX0_takeUnit 43 = .ok (.lload 5, 2) := by decide +kernel
theorem dX0_takeUnit_45 : decode cX0_takeUnit 45 = .ok (.lmul, 1) := by decide +kernel
theorem dX0_takeUnit_46 : decode cX0_takeUnit 46 = .ok (.lsub, 1) := by decide +kernel
theorem dX0_takeUnit_47 : decode cX0_takeUnit 47 = .ok (.lmul, 1) := by decide +kernel
theorem dX0_takeUnit_48 : decode cX0_takeUnit 48 = .ok (.lstore 5, 2) := by decide +kernel
theorem dX0_takeUnit_50 : decode cX0_takeUnit 50 = .ok (.iinc 7 1, 3) := by decide +kernel
theorem dX0_takeUnit_53 : decode cX0_takeUnit 53 = .ok (.goto (-22), 3) := by decide +kernel
theorem dX0_takeUnit_56 : decode cX0_takeUnit 56 = .ok (.aload_n 0, 1) := by decide +kernel
theorem dX0_takeUnit_57 : decode cX0_takeUnit 57 = .ok (.lload 5, 2) := by decide +kernel
theorem dX0_takeUnit_59 : decode cX0_takeUnit 59 = .ok (.putfield 34, 3) := by decide +kernel
theorem dX0_takeUnit_62 : decode cX0_takeUnit 62 = .ok (.return_, 1) := by decide +kernel
set_option maxRecDepth 20000 in
theorem ggX0_differenceByUnit_X0_highProduct : GoodIn wsX0_differenceByUnit wsX0_highProduct := goodIn_r _ [7, 8] (by decide +kernel) (by decide +kernel)
set_option maxRecDepth 20000 in
theorem gX0_differenceByUnit_X0_highProduct : GoodIn wsX0_differenceByUnit (va_wsS RX0 109 yX0_highProduct wsX0_highProduct) := goodIn_app (goodIn_of _ (by decide +kernel)) ggX0_differenceByUnit_X0_highProduct
theorem dX0_differenceByUnit_0 : decode cX0_differenceByUnit 0 = .ok (.lload_n 1, 1) := by decide +kernel
theorem dX0_differenceByUnit_1 : decode cX0_differenceByUnit 1 = .ok (.lload_n 3, 1) := by decide +kernel
theorem dX0_differenceByUnit_2 : decode cX0_differenceByUnit 2 = .ok (.lmul, 1) := by decide +kernel
theorem dX0_differenceByUnit_3 : decode cX0_differenceByUnit 3 = .ok (.lstore 9, 2) := by decide +kernel
theorem dX0_differenceByUnit_5 : decode cX0_differenceByUnit 5 = .ok (.lload 5, 2) := by decide +kernel
theorem dX0_differenceByUnit_7 : decode cX0_differenceByUnit 7 = .ok (.lload 7, 2) := by decide +kernel
theorem dX0_differenceByUnit_9 : decode cX0_differenceByUnit 9 = .ok (.lmul, 1) := by decide +kernel
theorem dX0_differenceByUnit_10 : decode cX0_differenceByUnit 10 = .ok (.lstore 11, 2) := by decide +kernel
theorem dX0_differenceByUnit_12 : decode cX0_differenceByUnit 12 = .ok (.lload 9, 2) := by decide +kernel
theorem dX0_differenceByUnit_14 : decode cX0_differenceByUnit 14 = .ok (.lload 11, 2) := by decide +kernel
theorem dX0_differenceByUnit_16 : decode cX0_differenceByUnit 16 = .ok (.lsub, 1) := by decide +kernel
theorem dX0_differenceByUnit_17 : decode cX0_differenceByUnit 17 = .ok (.lstore 13, 2) := by decide +kernel
theorem dX0_differenceByUnit_19 : decode cX0_differenceByUnit 19 = .ok (.lload_n 1, 1) := by decide +kernel
theorem dX0_differenceByUnit_20 : decode cX0_differenceByUnit 20 = .ok (.lload_n 3, 1) := by decide +kernel
theorem dX0_differenceByUnit_21 : decode cX0_differenceByUnit 21 = .ok (.invokestatic 109, 3) := by decide +kernel
theorem dX0_differenceByUnit_24 : decode cX0_differenceByUnit 24 = .ok (.lload 5, 2) := by decide +kernel
theorem dX0_differenceByUnit_26 : decode cX0_differenceByUnit 26 = .ok (.lload 7, 2) := by decide +kernel
theorem dX0_differenceByUnit_28 : decode cX0_differenceByUnit 28 = .ok (.invokestatic 109, 3) := by decide +kernel
theorem dX0_differenceByUnit_31 : decode cX0_differenceByUnit 31 = .ok (.lsub, 1) := by decide +kernel
theorem dX0_differenceByUnit_32 : decode cX0_differenceByUnit 32 = .ok (.lstore 15, 2) := by decide +kernel
theorem dX0_differenceByUnit_34 : decode cX0_differenceByUnit 34 = .ok (.lload 9, 2) := by decide +kernel
theorem dX0_differenceByUnit_36 : decode cX0_differenceByUnit 36 = .ok (.ldc2_w 113, 3) := by decide +kernel
theorem dX0_differenceByUnit_39 : decode cX0_differenceByUnit 39 = .ok (.ladd, 1) := by decide +kernel
theorem dX0_differenceByUnit_40 : decode cX0_differenceByUnit 40 = .ok (.lload 11, 2) := by decide +kernel
theorem dX0_differenceByUnit_42 : decode cX0_differenceByUnit 42 = .ok (.ldc2_w 113, 3) := by decide +kernel
theorem dX0_differenceByUnit_45 : decode cX0_differenceByUnit 45 = .ok (.ladd, 1) := by decide +kernel
theorem dX0_differenceByUnit_46 : decode cX0_differenceByUnit 46 = .ok (.lcmp, 1) := by decide +kernel
theorem dX0_differenceByUnit_47 : decode cX0_differenceByUnit 47 = .ok (.ifCond .ge 9, 3) := by decide +kernel
theorem dX0_differenceByUnit_50 : decode cX0_differenceByUnit 50 = .ok (.lload 15, 2) := by decide +kernel
theorem dX0_differenceByUnit_52 : decode cX0_differenceByUnit 52 = .ok (.lconst 1, 1) := by decide +kernel
theorem dX0_differenceByUnit_53 : decode cX0_differenceByUnit 53 = .ok (.lsub, 1) := by decide +kernel
theorem dX0_differenceByUnit_54 : decode cX0_differenceByUnit 54 = .ok (.lstore 15, 2) := by decide +kernel
theorem dX0_differenceByUnit_56 : decode cX0_differenceByUnit 56 = .ok (.lload 13, 2) := by decide +kernel
theorem dX0_differenceByUnit_58 : decode cX0_differenceByUnit 58 = .ok (.aload_n 0, 1) := by decide +kernel
theorem dX0_differenceByUnit_59 : decode cX0_differenceByUnit 59 = .ok (.getfield 31, 3) := by decide +kernel
theorem dX0_differenceByUnit_62 : decode cX0_differenceByUnit 62 = .ok (.lushr, 1) := by decide +kernel
theorem dX0_differenceByUnit_63 : decode cX0_differenceByUnit 63 = .ok (.lload 15, 2) := by decide +kernel
theorem dX0_differenceByUnit_65 : decode cX0_differenceByUnit 65 = .ok (.iconst 1, 1) := by decide +kernel
theorem dX0_differenceByUnit_66 : decode cX0_differenceByUnit 66 = .ok (.lshl, 1) := by decide +kernel
theorem dX0_differenceByUnit_67 : decode cX0_differenceByUnit 67 = .ok (.bipush 63, 2) := by decide +kernel
theorem dX0_differenceByUnit_69 : decode cX0_differenceByUnit 69 = .ok (.aload_n 0, 1) := by decide +kernel
theorem dX0_differenceByUnit_70 : decode cX0_differenceByUnit 70 = .ok (.getfield 31, 3) := by decide +kernel
theorem dX0_differenceByUnit_73 : decode cX0_differenceByUnit 73 = .ok (.isub, 1) := by decide +kernel
theorem dX0_differenceByUnit_74 : decode cX0_differenceByUnit 74 = .ok (.lshl, 1) := by decide +kernel
theorem dX0_differenceByUnit_75 : decode cX0_differenceByUnit 75 = .ok (.lor, 1) := by decide +kernel
theorem dX0_differenceByUnit_76 : decode cX0_differenceByUnit 76 = .ok (.lstore 17, 2) := by decide +kernel
theorem dX0_differenceByUnit_78 : decode cX0_differenceByUnit 78 = .ok (.lload 17, 2) := by decide +kernel
theorem dX0_differenceByUnit_80 : decode cX0_differenceByUnit 80 = .ok (.aload_n 0, 1) := by decide +kernel
theorem dX0_differenceByUnit_81 : decode cX0_differenceByUnit 81 = .ok (.getfield 34, 3) := by decide +kernel
theorem dX0_differenceByUnit_84 : decode cX0_differenceByUnit 84 = .ok (.lmul, 1) := by decide +kernel
theorem dX0_differenceByUnit_85 : decode cX0_differenceByUnit 85 = .ok (.lreturn, 1) := by decide +kernel
theorem dX0_highProduct_0 : decode cX0_highProduct 0 = .ok (.lload_n 0, 1) := by decide +kernel
theorem dX0_highProduct_1 : decode cX0_highProduct 1 = .ok (.bipush 32, 2) := by decide +kernel
theorem dX0_highProduct_3 : decode cX0_highProduct 3 = .ok (.lshr, 1) := by decide +kernel
theorem dX0_highProduct_4 : decode cX0_highProduct 4 = .ok (.lstore 4, 2) := by decide +kernel
theorem dX0_highProduct_6 : decode cX0_highProduct 6 = .ok (.lload_n 0, 1) := by decide +kernel
theorem dX0_highProduct_7 : decode cX0_highProduct 7 = .ok (.ldc2_w 115, 3) := by decide +kernel
theorem dX0_highProduct_10 : decode cX0_highProduct 10 = .ok (.land, 1) := by decide +kernel
theorem dX0_highProduct_11 : decode cX0_highProduct 11 = .ok (.lstore 6, 2) := by decide +kernel
theorem dX0_highProduct_13 : decode cX0_highProduct 13 = .ok (.lload_n 2, 1) := by decide +kernel
theorem dX0_highProduct_14 : decode cX0_highProduct 14 = .ok (.bipush 32, 2) := by decide +kernel
theorem dX0_highProduct_16 : decode cX0_highProduct 16 = .ok (.lshr, 1) := by decide +kernel
theorem dX0_highProduct_17 : decode cX0_highProduct 17 = .ok (.lstore 8, 2) := by decide +kernel
theorem dX0_highProduct_19 : decode cX0_highProduct 19 = .ok (.lload_n 2, 1) := by decide +kernel
theorem dX0_highProduct_20 : decode cX0_highProduct 20 = .ok (.ldc2_w 115, 3) := by decide +kernel
theorem dX0_highProduct_23 : decode cX0_highProduct 23 = .ok (.land, 1) := by decide +kernel
theorem dX0_highProduct_24 : decode cX0_highProduct 24 = .ok (.lstore 10, 2) := by decide +kernel
theorem dX0_highProduct_26 : decode cX0_highProduct 26 = .ok (.lload 4, 2) := by decide +kernel
theorem dX0_highProduct_28 : decode cX0_highProduct 28 = .ok (.lload 10, 2) := by decide +kernel
theorem dX0_highProduct_30 : decode cX0_highProduct 30 = .ok (.lmul, 1) := by decide +kernel
theorem dX0_highProduct_31 : decode cX0_highProduct 31 = .ok (.lload 6, 2) := by decide +kernel
theorem dX0_highProduct_33 : decode cX0_highProduct 33 = .ok (.lload 10, 2) := by decide +kernel
theorem dX0_highProduct_35 : decode cX0_highProduct 35 = .ok (.lmul, 1) := by decide +kernel
theorem dX0_highProduct_36 : decode cX0_highProduct 36 = .ok (.bipush 32, 2) := by decide +kernel
theorem dX0_highProduct_38 : decode cX0_highProduct 38 = .ok (.lushr, 1) := by decide +kernel
theorem dX0_highProduct_39 : decode cX0_highProduct 39 = .ok (.ladd, 1) := by decide +kernel
theorem dX0_highProduct_40 : decode cX0_highProduct 40 = .ok (.lstore 12, 2) := by decide +kernel
theorem dX0_highProduct_42 : decode cX0_highProduct 42 = .ok (.lload 6, 2) := by decide +kernel
theorem dX0_highProduct_44 : decode cX0_highProduct 44 = .ok (.lload 8, 2) := by decide +kernel
theorem dX0_highProduct_46 : decode cX0_highProduct 46 = .ok (.lmul, 1) := by decide +kernel
theorem dX0_highProduct_47 : decode cX0_highProduct 47 = .ok (.lload 12, 2) := by decide +kernel
theorem dX0_highProduct_49 : decode cX0_highProduct 49 = .ok (.ldc2_w 115, 3) := by decide +kernel
theorem dX0_highProduct_52 : decode cX0_highProduct 52 = .ok (.land, 1) := by decide +kernel
theorem dX0_highProduct_53 : decode cX0_highProduct 53 = .ok (.ladd, 1) := by decide +kernel
theorem dX0_highProduct_54 : decode cX0_highProduct 54 = .ok (.lstore 14, 2) := by decide +kernel
theorem dX0_highProduct_56 : decode cX0_highProduct 56 = .ok (.lload 4, 2) := by decide +kernel
theorem dX0_highProduct_58 : decode cX0_highProduct 58 = .ok (.lload 8, 2) := by decide +kernel
theorem dX0_highProduct_60 : decode cX0_highProduct 60 = .ok (.lmul, 1) := by decide +kernel
theorem dX0_highProduct_61 : decode cX0_highProduct 61 = .ok (.lload 12, 2) := by decide +kernel
theorem dX0_highProduct_63 : decode cX0_highProduct 63 = .ok (.bipush 32, 2) := by decide +kernel
theorem dX0_highProduct_65 : decode cX0_highProduct 65 = .ok (.lshr, 1) := by decide +kernel
theorem dX0_highProduct_66 : decode cX0_highProduct 66 = .ok (.ladd, 1) := by decide +kernel
theorem dX0_highProduct_67 : decode cX0_highProduct 67 = .ok (.lload 14, 2) := by decide +kernel
theorem dX0_highProduct_69 : decode cX0_highProduct 69 = .ok (.bipush 32, 2) := by decide +kernel
theorem dX0_highProduct_71 : decode cX0_highProduct 71 = .ok (.lshr, 1) := by decide +kernel
theorem dX0_highProduct_72 : decode cX0_highProduct 72 = .ok (.ladd, 1) := by decide +kernel
theorem dX0_highProduct_73 : decode cX0_highProduct 73 = .ok (.lreturn, 1) := by decide +kernel
set_option maxRecDepth 20000 in
theorem ggX1_init_X0_init : GoodIn wsX1_init wsX0_init := goodIn_r _ [18, 19, 2, 3, 20, 21, 22, 5, 23, 24, 25, 26, 27, 28, 36, 37, 38, 39, 40, 41, 42] (by decide +kernel) (by decide +kernel)
set_option maxRecDepth 20000 in
theorem gX1_init_X0_init : GoodIn wsX1_init (wsX0_init) := ggX1_init_X0_init
end
section
theorem dX1_init_0 : decode cX1_init 0 = .ok (.aload_n 0, 1) := by decide +kernel
theorem dX1_init_1 : decode cX1_init 1 = .ok (.invokespecial 1, 3) := by decide +kernel
theorem dX1_init_4 : decode cX1_init 4 = .ok (.aload_n 0, 1) := by decide +kernel
theorem dX1_init_5 : decode cX1_init 5 = .ok (.bipush 8, 2) := by decide +kernel
theorem dX1_init_7 : decode cX1_init 7 = .ok (.bipush 7, 2) := by decide +kernel
theorem dX1_init_9 : decode cX1_init 9 = .ok (.multianewarray 9 2, 4) := by decide +kernel
theorem dX1_init_13 : decode cX1_init 13 = .ok (.putfield 11, 3) := by decide +kernel
theorem dX1_init_16 : decode cX1_init 16 = .ok (.aload_n 0, 1) := by decide +kernel
theorem dX1_init_17 : decode cX1_init 17 = .ok (.bipush 6, 2) := by decide +kernel
theorem dX1_init_19 : decode cX1_init 19 = .ok (.newarray .int, 2) := by decide +kernel
theorem dX1_init_21 : decode cX1_init 21 = .ok (.putfield 14, 3) := by decide +kernel
theorem dX1_init_24 : decode cX1_init 24 = .ok (.aload_n 0, 1) := by decide +kernel
theorem dX1_init_25 : decode cX1_init 25 = .ok (.new 18, 3) := by decide +kernel
theorem dX1_init_28 : decode cX1_init 28 = .ok (.dup, 1) := by decide +kernel
theorem dX1_init_29 : decode cX1_init 29 = .ok (.invokespecial 20, 3) := by decide +kernel
theorem dX1_init_32 : decode cX1_init 32 = .ok (.putfield 21, 3) := by decide +kernel
theorem dX1_init_35 : decode cX1_init 35 = .ok (.aload_n 0, 1) := by decide +kernel
theorem dX1_init_36 : decode cX1_init 36 = .ok (.iconst 1, 1) := by decide +kernel
theorem dX1_init_37 : decode cX1_init 37 = .ok (.putfield 25, 3) := by decide +kernel
theorem dX1_init_40 : decode cX1_init 40 = .ok (.aload_n 0, 1) := by decide +kernel
theorem dX1_init_41 : decode cX1_init 41 = .ok (.iconst 0, 1) := by decide +kernel
theorem dX1_init_42 : decode cX1_init 42 = .ok (.putfield 29, 3) := by decide +kernel
theorem dX1_init_45 : decode cX1_init 45 = .ok (.aload_n 0, 1) := by decide +kernel
theorem dX1_init_46 : decode cX1_init 46 = .ok (.lconst 0, 1) := by decide +kernel
theorem dX1_init_47 : decode cX1_init 47 = .ok (.putfield 32, 3) := by decide +kernel
theorem dX1_init_50 : decode cX1_init 50 = .ok (.aload_n 0, 1) := by decide +kernel
theorem dX1_init_51 : decode cX1_init 51 = .ok (.lconst 0, 1) := by decide +kernel
theorem dX1_init_52 : decode cX1_init 52 = .ok (.putfield 36, 3) := by decide +kernel
theorem dX1_init_55 : decode cX1_init 55 = .ok (.return_, 1) := by decide +kernel
theorem dX1_begin_0 : decode cX1_begin 0 = .ok (.iload_n 1, 1) := by decide +kernel
theorem dX1_begin_1 : decode cX1_begin 1 = .ok (.iconst 1, 1) := by decide +kernel
theorem dX1_begin_2 : decode cX1_begin 2 = .ok (.if_icmp .lt 8, 3) := by decide +kernel
theorem dX1_begin_5 : decode cX1_begin 5 = .ok (.iload_n 1, 1) := by decide +kernel
theorem dX1_begin_6 : decode cX1_begin 6 = .ok (.iconst 3, 1) := by decide +kernel
theorem dX1_begin_7 : decode cX1_begin 7 = .ok (.if_icmp .le 5, 3) := by decide +kernel
theorem dX1_begin_10 : decode cX1_begin 10 = .ok (.iconst 0, 1) := by decide +kernel
theorem dX1_begin_11 : decode cX1_begin 11 = .ok (.ireturn, 1) := by decide +kernel
theorem dX1_begin_12 : decode cX1_begin 12 = .ok (.aload_n 0, 1) := by decide +kernel
theorem dX1_begin_13 : decode cX1_begin 13 = .ok (.iload_n 1, 1) := by decide +kernel
theorem dX1_begin_14 : decode cX1_begin 14 = .ok (.putfield 25, 3) := by decide +kernel
theorem dX1_begin_17 : decode cX1_begin 17 = .ok (.aload_n 0, 1) := by decide +kernel
theorem dX1_begin_18 : decode cX1_begin 18 = .ok (.iconst 0, 1) := by decide +kernel
theorem dX1_begin_19 : decode cX1_begin 19 = .ok (.putfield 29, 3) := by decide +kernel
theorem dX1_begin_22 : decode cX1_begin 22 = .ok (.iconst 1, 1) := by decide +kernel
theorem dX1_begin_23 : decode cX1_begin 23 = .ok (.ireturn, 1) := by decide +kernel
set_option maxRecDepth 20000 in
theorem ggX1_rule_X1_areWithin : GoodIn wsX1_rule wsX1_areWithin := goodIn_r _ [6, 7, 8, 5, 9] (by decide +kernel) (by decide +kernel)
set_option maxRecDepth 20000 in
theorem gX1_rule_X1_areWithin : GoodIn wsX1_rule (va_wsS RX1 39 yX1_areWithin wsX1_areWithin) := goodIn_app (goodIn_of _ (by decide +kernel)) ggX1_rule_X1_areWithin
set_option maxRecDepth 20000 in
theorem ggX1_rule_X1_isWithin : GoodIn wsX1_rule wsX1_isWithin := goodIn_r _ [9] (by decide +kernel) (by decide +kernel)
set_option maxRecDepth 20000 in
theorem gX1_rule_X1_isWithin : GoodIn wsX1_rule (va_wsS RX1 43 yX1_isWithin wsX1_isWithin) := goodIn_app (goodIn_of _ (by decide +kernel)) ggX1_rule_X1_isWithin
set_option maxRecDepth 20000 in
theorem ggX1_rule_X1_fill : GoodIn wsX1_rule wsX1_fill := goodIn_r _ [12] (by decide +kernel) (by decide +kernel)
set_option maxRecDepth 20000 in
theorem gX1_rule_X1_fill : GoodIn wsX1_rule (va_wsS RX1 47 yX1_fill wsX1_fill) := goodIn_app (goodIn_of _ (by decide +kernel)) ggX1_rule_X1_fill
theorem dX1_rule_0 : decode cX1_rule 0 = .ok (.aload_n 0, 1) := by decide +kernel
theorem dX1_rule_1 : decode cX1_rule 1 = .ok (.getfield 29, 3) := by decide +kernel
theorem dX1_rule_4 : decode cX1_rule 4 = .ok (.bipush 8, 2) := by decide +kernel
theorem dX1_rule_6 : decode cX1_rule 6 = .ok (.if_icmp .ge 38, 3) := by decide +kernel
theorem dX1_rule_9 : decode cX1_rule 9 = .ok (.iload_n 1, 1) := by decide +kernel
theorem dX1_rule_10 : decode cX1_rule 10 = .ok (.iload_n 2, 1) := by decide +kernel
theorem dX1_rule_11 : decode cX1_rule 11 = .ok (.iload_n 3, 1) := by decide +kernel
theorem dX1_rule_12 : decode cX1_rule 12 = .ok (.bipush 9, 2) := by decide +kernel
theorem dX1_rule_14 : decode cX1_rule 14 = .ok (.invokestatic 39, 3) := by decide +kernel
theorem dX1_rule_17 : decode cX1_rule 17 = .ok (.ifCond .eq 27, 3) := by decide +kernel
theorem dX1_rule_20 : decode cX1_rule 20 = .ok (.iload 4, 2) := by decide +kernel
theorem dX1_rule_22 : decode cX1_rule 22 = .ok (.iload 5, 2) := by decide +kernel
theorem dX1_rule_24 : decode cX1_rule 24 = .ok (.iload 6, 2) := by decide +kernel
theorem dX1_rule_26 : decode cX1_rule 26 = .ok (.bipush 9, 2) := by decide +kernel
theorem dX1_rule_28 : decode cX1_rule 28 = .ok (.invokestatic 39, 3) := by decide +kernel
theorem dX1_rule_31 : decode cX1_rule 31 = .ok (.ifCond .eq 13, 3) := by decide +kernel
theorem dX1_rule_34 : decode cX1_rule 34 = .ok (.iload 7, 2) := by decide +kernel
theorem dX1_rule_36 : decode cX1_rule 36 = .ok (.bipush 99, 2) := by decide +kernel
theorem dX1_rule_38 : decode cX1_rule 38 = .ok (.invokestatic 43, 3) := by decide +kernel
theorem dX1_rule_41 : decode cX1_rule 41 = .ok (.ifCond .ne 5, 3) := by decide +kernel
theorem dX1_rule_44 : decode cX1_rule 44 = .ok (.iconst (-1), 1) := by decide +kernel
theorem dX1_rule_45 : decode cX1_rule 45 = .ok (.ireturn, 1) := by decide +kernel
theorem dX1_rule_46 : decode cX1_rule 46 = .ok (.aload_n 0, 1) := by decide +kernel
theorem dX1_rule_47 : decode cX1_rule 47 = .ok (.getfield 11, 3) := by decide +kernel
theorem dX1_rule_50 : decode cX1_rule 50 = .ok (.aload_n 0, 1) := by decide +kernel
theorem dX1_rule_51 : decode cX1_rule 51 = .ok (.getfield 29, 3) := by decide +kernel
theorem dX1_rule_54 : decode cX1_rule 54 = .ok (.aaload, 1) := by decide +kernel
theorem dX1_rule_55 : decode cX1_rule 55 = .ok (.astore 8, 2) := by decide +kernel
theorem dX1_rule_57 : decode cX1_rule 57 = .ok (.aload 8, 2) := by decide +kernel
theorem dX1_rule_59 : decode cX1_rule 59 = .ok (.iconst 0, 1) := by decide +kernel
theorem dX1_rule_60 : decode cX1_rule 60 = .ok (.iload_n 1, 1) := by decide +kernel
theorem dX1_rule_61 : decode cX1_rule 61 = .ok (.iload_n 2, 1) := by decide +kernel
theorem dX1_rule_62 : decode cX1_rule 62 = .ok (.iload_n 3, 1) := by decide +kernel
theorem dX1_rule_63 : decode cX1_rule 63 = .ok (.invokestatic 47, 3) := by decide +kernel
theorem dX1_rule_66 : decode cX1_rule 66 = .ok (.aload 8, 2) := by decide +kernel
theorem dX1_rule_68 : decode cX1_rule 68 = .ok (.iconst 3, 1) := by decide +kernel
theorem dX1_rule_69 : decode cX1_rule 69 = .ok (.iload 4, 2) := by decide +kernel
theorem dX1_rule_71 : decode cX1_rule 71 = .ok (.iload 5, 2) := by decide +kernel
theorem dX1_rule_73 : decode cX1_rule 73 = .ok (.iload 6, 2) := by decide +kernel
theorem dX1_rule_75 : decode cX1_rule 75 = .ok (.invokestatic 47, 3) := by decide +kernel
theorem dX1_rule_78 : decode cX1_rule 78 = .ok (.aload 8, 2) := by decide +kernel
theorem dX1_rule_80 : decode cX1_rule 80 = .ok (.bipush 6, 2) := by decide +kernel
theorem dX1_rule_82 : decode cX1_rule 82 = .ok (.iload 7, 2) := by decide +kernel
theorem dX1_rule_84 : decode cX1_rule 84 = .ok (.iastore, 1) := by decide +kernel
theorem dX1_rule_85 : decode cX1_rule 85 = .ok (.aload_n 0, 1) := by decide +kernel
theorem dX1_rule_86 : decode cX1_rule 86 = .ok (.dup, 1) := by decide +kernel
theorem dX1_rule_87 : decode cX1_rule 87 = .ok (.getfield 29, 3) := by decide +kernel
theorem dX1_rule_90 : decode cX1_rule 90 = .ok (.iconst 1, 1) := by decide +kernel
theorem dX1_rule_91 : decode cX1_rule 91 = .ok (.iadd, 1) := by decide +kernel
theorem dX1_rule_92 : decode cX1_rule 92 = .ok (.putfield 29, 3) := by decide +kernel
theorem dX1_rule_95 : decode cX1_rule 95 = .ok (.aload_n 0, 1) := by decide +kernel
theorem dX1_rule_96 : decode cX1_rule 96 = .ok (.getfield 29, 3) := by decide +kernel
theorem dX1_rule_99 : decode cX1_rule 99 = .ok (.iconst 1, 1) := by decide +kernel
theorem dX1_rule_100 : decode cX1_rule 100 = .ok (.isub, 1) := by decide +kernel
theorem dX1_rule_101 : decode cX1_rule 101 = .ok (.ireturn, 1) := by decide +kernel
set_option maxRecDepth 20000 in
theorem ggX1_drop_X1_isRule : GoodIn wsX1_drop wsX1_isRule := goodIn_r _ [11, 1, 12, 13, 14, 15, 16, 17, 18] (by decide +kernel) (by decide +kernel)
set_option maxRecDepth 20000 in
theorem gX1_drop_X1_isRule : GoodIn wsX1_drop (wsV RX1 51 RX1 yX1_isRule wsX1_isRule) := goodIn_app (goodIn_of _ (by decide +kernel)) ggX1_drop_X1_isRule
theorem dX1_drop_0 : decode cX1_drop 0 = .ok (.aload_n 0, 1) := by decide +kernel
theorem dX1_drop_1 : decode cX1_drop 1 = .ok (.iload_n 1, 1) := by decide +kernel
theorem dX1_drop_2 : decode cX1_drop 2 = .ok (.invokevirtual 51, 3) := by decide +kernel
theorem dX1_drop_5 : decode cX1_drop 5 = .ok (.ifCond .ne 5, 3) := by decide +kernel
theorem dX1_drop_8 : decode cX1_drop 8 = .ok (.iconst 0, 1) := by decide +kernel
theorem dX1_drop_9 : decode cX1_drop 9 = .ok (.ireturn, 1) := by decide +kernel
theorem dX1_drop_10 : decode cX1_drop 10 = .ok (.iload_n 1, 1) := by decide +kernel
theorem dX1_drop_11 : decode cX1_drop 11 = .ok (.iconst 1, 1) := by decide +kernel
theorem dX1_drop_12 : decode cX1_drop 12 = .ok (.iadd, 1) := by decide +kernel
theorem dX1_drop_13 : decode cX1_drop 13 = .ok (.istore_n 2, 1) := by decide +kernel
theorem dX1_drop_14 : decode cX1_drop 14 = .ok (.iload_n 2, 1) := by decide +kernel
theorem dX1_drop_15 : decode cX1_drop 15 = .ok (.aload_n 0, 1) := by decide +kernel
theorem dX1_drop_16 : decode cX1_drop 16 = .ok (.getfield 29, 3) := by decide +kernel
theorem dX1_drop_19 : decode cX1_drop 19 = .ok (.if_icmp .ge 30, 3) := by decide +kernel
theorem dX1_drop_22 : decode cX1_drop 22 = .ok (.aload_n 0, 1) := by decide +kernel
theorem dX1_drop_23 : decode cX1_drop 23 = .ok (.getfield 11, 3) := by decide +kernel
theorem dX1_drop_26 : decode cX1_drop 26 = .ok (.iload_n 2, 1) := by decide +kernel
theorem dX1_drop_27 : decode cX1_drop 27 = .ok (.aaload, 1) := by decide +kernel
theorem dX1_drop_28 : decode cX1_drop 28 = .ok (.iconst 0, 1) := by decide +kernel
theorem dX1_drop_29 : decode cX1_drop 29 = .ok (.aload_n 0, 1) := by decide +kernel
theorem dX1_drop_30 : decode cX1_drop 30 = .ok (.getfield 11, 3) := by decide +kernel
theorem dX1_drop_33 : decode cX1_drop 33 = .ok (.iload_n 2, 1) := by decide +kernel
theorem dX1_drop_34 : decode cX1_drop 34 = .ok (.iconst 1, 1) := by decide +kernel
theorem dX1_drop_35 : decode cX1_drop 35 = .ok (.isub, 1) := by decide +kernel
theorem dX1_drop_36 : decode cX1_drop 36 = .ok (.aaload, 1) := by decide +kernel
theorem dX1_drop_37 : decode cX1_drop 37 = .ok (.iconst 0, 1) := by decide +kernel
theorem dX1_drop_38 : decode cX1_drop 38 = .ok (.bipush 7, 2) := by decide +kernel
theorem dX1_drop_40 : decode cX1_drop 40 = .ok (.invokestatic 55, 3) := by decide +kernel
theorem dX1_drop_43 : decode cX1_drop 43 = .ok (.iinc 2 1, 3) := by decide +kernel
theorem dX1_drop_46 : decode cX1_drop 46 = .ok (.goto (-32), 3) := by decide +kernel
theorem dX1_drop_49 : decode cX1_drop 49 = .ok (.aload_n 0, 1) := by decide +kernel
theorem dX1_drop_50 : decode cX1_drop 50 = .ok (.dup, 1) := by decide +kernel
theorem dX1_drop_51 : decode cX1_drop 51 = .ok (.getfield 29, 3) := by decide +kernel
theorem dX1_drop_54 : decode cX1_drop 54 = .ok (.iconst 1, 1) := by decide +kernel
theorem dX1_drop_55 : decode cX1_drop 55 = .ok (.isub, 1) := by decide +kernel
theorem dX1_drop_56 : decode cX1_drop 56 = .ok (.putfield 29, 3) := by decide +kernel
theorem dX1_drop_59 : decode cX1_drop 59 = .ok (.iconst 1, 1) := by decide +kernel
theorem dX1_drop_60 : decode cX1_drop 60 = .ok (.ireturn, 1) := by decide +kernel
theorem dX1_rules_0 : decode cX1_rules 0 = .ok (.aload_n 0, 1) := by decide +kernel
theorem dX1_rules_1 : decode cX1_rules 1 = .ok (.getfield 29, 3) := by decide +kernel
theorem dX1_rules_4 : decode cX1_rules 4 = .ok (.ireturn, 1) := by decide +kernel
set_option maxRecDepth 20000 in
theorem ggX1_number_X1_isRule : GoodIn wsX1_number wsX1_isRule := goodIn_r _ [6, 7, 8, 9, 10, 11, 12, 13, 14] (by decide +kernel) (by decide +kernel)
set_option maxRecDepth 20000 in
theorem gX1_number_X1_isRule : GoodIn wsX1_number (wsV RX1 51 RX1 yX1_isRule wsX1_isRule) := goodIn_app (goodIn_of _ (by decide +kernel)) ggX1_number_X1_isRule
theorem dX1_number_0 : decode cX1_number 0 = .ok (.aload_n 0, 1) := by decide +kernel
theorem dX1_number_1 : decode cX1_number 1 = .ok (.iload_n 1, 1) := by decide +kernel
theorem dX1_number_2 : decode cX1_number 2 = .ok (.invokevirtual 51, 3) := by decide +kernel
theorem dX1_number_5 : decode cX1_number 5 = .ok (.ifCond .eq 13, 3) := by decide +kernel
theorem dX1_number_8 : decode cX1_number 8 = .ok (.iload_n 2, 1) := by decide +kernel
theorem dX1_number_9 : decode cX1_number 9 = .ok (.ifCond .lt 9, 3) := by decide +kernel
theorem dX1_number_12 : decode cX1_number 12 = .ok (.iload_n 2, 1) := by decide +kernel
theorem dX1_number_13 : decode cX1_number 13 = .ok (.bipush 7, 2) := by decide +kernel
theorem dX1_number_15 : decode cX1_number 15 = .ok (.if_icmp .lt 5, 3) := by decide +kernel
theorem dX1_number_18 : decode cX1_number 18 = .ok (.iconst 0, 1) := by decide +kernel
theorem dX1_number_19 : decode cX1_number 19 = .ok (.ireturn, 1) := by decide +kernel
theorem dX1_number_20 : decode cX1_number 20 = .ok (.aload_n 0, 1) := by decide +kernel
theorem dX1_number_21 : decode cX1_number 21 = .ok (.getfield 11, 3) := by decide +kernel
theorem dX1_number_24 : decode cX1_number 24 = .ok (.iload_n 1, 1) := by decide +kernel
theorem dX1_number_25 : decode cX1_number 25 = .ok (.aaload, 1) := by decide +kernel
theorem dX1_number_26 : decode cX1_number 26 = .ok (.iload_n 2, 1) := by decide +kernel
theorem dX1_number_27 : decode cX1_number 27 = .ok (.iaload, 1) := by decide +kernel
theorem dX1_number_28 : decode cX1_number 28 = .ok (.ireturn, 1) := by decide +kernel
set_option maxRecDepth 20000 in
theorem ggX1_keeps_X1_partOf : GoodIn wsX1_keeps wsX1_partOf := goodIn_r _ [7, 2, 8, 9, 10, 11, 12, 13, 14, 15] (by decide +kernel) (by decide +kernel)
set_option maxRecDepth 20000 in
theorem gX1_keeps_X1_partOf : GoodIn wsX1_keeps (wsV RX1 61 RX1 yX1_partOf wsX1_partOf) := goodIn_app (goodIn_of _ (by decide +kernel)) ggX1_keeps_X1_partOf
theorem dX1_keeps_0 : decode cX1_keeps 0 = .ok (.iconst 0, 1) := by decide +kernel
theorem dX1_keeps_1 : decode cX1_keeps 1 = .ok (.istore 7, 2) := by decide +kernel
theorem dX1_keeps_3 : decode cX1_keeps 3 = .ok (.iload 7, 2) := by decide +kernel
theorem dX1_keeps_5 : decode cX1_keeps 5 = .ok (.aload_n 0, 1) := by decide +kernel
theorem dX1_keeps_6 : decode cX1_keeps 6 = .ok (.getfield 29, 3) := by decide +kernel
theorem dX1_keeps_9 : decode cX1_keeps 9 = .ok (.if_icmp .ge 60, 3) := by decide +kernel
theorem dX1_keeps_12 : decode cX1_keeps 12 = .ok (.aload_n 0, 1) := by decide +kernel
theorem dX1_keeps_13 : decode cX1_keeps 13 = .ok (.iload 7, 2) := by decide +kernel
theorem dX1_keeps_15 : decode cX1_keeps 15 = .ok (.iconst 0, 1) := by decide +kernel
theorem dX1_keeps_16 : decode cX1_keeps 16 = .ok (.iload_n 1, 1) := by decide +kernel
theorem dX1_keeps_17 : decode cX1_keeps 17 = .ok (.i2l, 1) := by decide +kernel
theorem dX1_keeps_18 : decode cX1_keeps 18 = .ok (.iload_n 2, 1) := by decide +kernel
theorem dX1_keeps_19 : decode cX1_keeps 19 = .ok (.i2l, 1) := by decide +kernel
theorem dX1_keeps_20 : decode cX1_keeps 20 = .ok (.iload_n 3, 1) := by decide +kernel
theorem dX1_keeps_21 : decode cX1_keeps 21 = .ok (.i2l, 1) := by decide +kernel
theorem dX1_keeps_22 : decode cX1_keeps 22 = .ok (.invokevirtual 61, 3) := by decide +kernel
theorem dX1_keeps_25 : decode cX1_keeps 25 = .ok (.aload_n 0, 1) := by decide +kernel
theorem dX1_keeps_26 : decode cX1_keeps 26 = .ok (.iload 7, 2) := by decide +kernel
theorem dX1_keeps_28 : decode cX1_keeps 28 = .ok (.iconst 3, 1) := by decide +kernel
theorem dX1_keeps_29 : decode cX1_keeps 29 = .ok (.iload 4, 2) := by decide +kernel
theorem dX1_keeps_31 : decode cX1_keeps 31 = .ok (.i2l, 1) := by decide +kernel
theorem dX1_keeps_32 : decode cX1_keeps 32 = .ok (.iload 5, 2) := by decide +kernel
theorem dX1_keeps_34 : decode cX1_keeps 34 = .ok (.i2l, 1) := by decide +kernel
theorem dX1_keeps_35 : decode cX1_keeps 35 = .ok (.iload 6, 2) := by decide +kernel
theorem dX1_keeps_37 : decode cX1_keeps 37 = .ok (.i2l, 1) := by decide +kernel
theorem dX1_keeps_38 : decode cX1_keeps 38 = .ok (.invokevirtual 61, 3) := by decide +kernel
theorem dX1_keeps_41 : decode cX1_keeps 41 = .ok (.ladd, 1) := by decide +kernel
theorem dX1_keeps_42 : decode cX1_keeps 42 = .ok (.lstore 8, 2) := by decide +kernel
theorem dX1_keeps_44 : decode cX1_keeps 44 = .ok (.lload 8, 2) := by decide +kernel
theorem dX1_keeps_46 : decode cX1_keeps 46 = .ok (.aload_n 0, 1) := by decide +kernel
theorem dX1_keeps_47 : decode cX1_keeps 47 = .ok (.getfield 11, 3) := by decide +kernel
theorem dX1_keeps_50 : decode cX1_keeps 50 = .ok (.iload 7, 2) := by decide +kernel
theorem dX1_keeps_52 : decode cX1_keeps 52 = .ok (.aaload, 1) := by decide +kernel
theorem dX1_keeps_53 : decode cX1_keeps 53 = .ok (.bipush 6, 2) := by decide +kernel
theorem dX1_keeps_55 : decode cX1_keeps 55 = .ok (.iaload, 1) := by decide +kernel
theorem dX1_keeps_56 : decode cX1_keeps 56 = .ok (.i2l, 1) := by decide +kernel
theorem dX1_keeps_57 : decode cX1_keeps 57 = .ok (.lcmp, 1) := by decide +kernel
theorem dX1_keeps_58 : decode cX1_keeps 58 = .ok (.ifCond .le 5, 3) := by decide +kernel
theorem dX1_keeps_61 : decode cX1_keeps 61 = .ok (.iconst 0, 1) := by decide +kernel
theorem dX1_keeps_62 : decode cX1_keeps 62 = .ok (.ireturn, 1) := by decide +kernel
theorem dX1_keeps_63 : decode cX1_keeps 63 = .ok (.iinc 7 1, 3) := by decide +kernel
theorem dX1_keeps_66 : decode cX1_keeps 66 = .ok (.goto (-63), 3) := by decide +kernel
theorem dX1_keeps_69 : decode cX1_keeps 69 = .ok (.iconst 1, 1) := by decide +kernel
theorem dX1_keeps_70 : decode cX1_keeps 70 = .ok (.ireturn, 1) := by decide +kernel
set_option maxRecDepth 20000 in
theorem ggX1_hasTurn_J7_fill_53178 : GoodIn wsX1_hasTurn wsJ7_fill_53178 := goodIn_r _ [5] (by decide +kernel) (by decide +kernel)
set_option maxRecDepth 20000 in
theorem gX1_hasTurn_J7_fill_53178 : GoodIn wsX1_hasTurn (va_wsS RX1 65 yJ7_fill_53178 wsJ7_fill_53178) := goodIn_app (goodIn_of _ (by decide +kernel)) ggX1_hasTurn_J7_fill_53178
set_option maxRecDepth 20000 in
theorem ggX1_hasTurn_X1_seekLeast : GoodIn wsX1_hasTurn wsX1_seekLeast := goodIn_r _ [10, 11, 12, 13, 14, 9, 15, 16, 17, 18, 1, 19, 20, 21, 22, 23, 24, 25, 26, 27, 28, 29, 30, 31, 32, 33, 4, 34, 35, 3, 5, 36, 37, 38, 39, 40, 41, 42, 43, 44, 45, 46, 47, 48, 49, 50, 51, 52, 53, 54, 55, 56, 57, 58, 59, 60, 61, 62, 63, 64, 65, 66, 67, 68, 69, 70, 71, 72, 73, 74, 75, 76, 77, 78, 79, 80, 81, 82, 83, 84, 85, 86, 87, 88, 89, 90, 91, 92, 93, 94, 95, 96, 97, 98, 99, 100, 101, 102, 103, 104, 105, 106, 107, 108, 109, 110, 111, 112, 113, 114, 115, 116, 117, 118, 119, 120, 121, 122, 123, 124, 125, 126, 127, 128, 129, 130, 131, 132, 133, 134, 135, 136, 137, 138] (by decide +kernel) (by decide +kernel)
set_option maxRecDepth 20000 in
theorem gX1_hasTurn_X1_seekLeast : GoodIn wsX1_hasTurn (wsV RX1 70 RX1 yX1_seekLeast wsX1_seekLeast) := goodIn_app (goodIn_of _ (by decide +kernel)) ggX1_hasTurn_X1_seekLeast
theorem dX1_hasTurn_0 : decode cX1_hasTurn 0 = .ok (.aload_n 0, 1) := by decide +kernel
theorem dX1_hasTurn_1 : decode cX1_hasTurn 1 = .ok (.getfield 14, 3) := by decide +kernel
theorem dX1_hasTurn_4 : decode cX1_hasTurn 4 = .ok (.iconst 0, 1) := by decide +kernel
theorem dX1_hasTurn_5 : decode cX1_hasTurn 5 = .ok (.invokestatic 65, 3) := by decide +kernel
theorem dX1_hasTurn_8 : decode cX1_hasTurn 8 = .ok (.aload_n 0, 1) := by decide +kernel
theorem dX1_hasTurn_9 : decode cX1_hasTurn 9 = .ok (.invokevirtual 70, 3) := by decide +kernel
theorem dX1_hasTurn_12 : decode cX1_hasTurn 12 = .ok (.ifCond .eq 7, 3) := by decide +kernel
theorem dX1_hasTurn_15 : decode cX1_hasTurn 15 = .ok (.iconst 1, 1) := by decide +kernel
theorem dX1_hasTurn_16 : decode cX1_hasTurn 16 = .ok (.goto 4, 3) := by decide +kernel
theorem dX1_hasTurn_19 : decode cX1_hasTurn 19 = .ok (.iconst 0, 1) := by decide +kernel
theorem dX1_hasTurn_20 : decode cX1_hasTurn 20 = .ok (.ireturn, 1) := by decide +kernel
set_option maxRecDepth 20000 in
theorem ggX1_ranked_X1_weighRanking : GoodIn wsX1_ranked wsX1_weighRanking := goodIn_r _ [6, 1, 7, 8, 9, 10, 11, 12, 13, 14, 15, 16, 17, 18, 19, 20, 21, 22, 23, 24, 25, 26, 27, 28, 29, 30, 31, 32, 33, 34, 35, 36, 37, 38, 39, 40, 41, 42, 43, 44, 45, 46, 47, 48, 49, 50, 51, 52, 95, 96, 97, 98, 99, 100, 101, 102, 103, 104, 105, 106, 107, 108] (by decide +kernel) (by decide +kernel)
set_option maxRecDepth 20000 in
theorem gX1_ranked_X1_weighRanking : GoodIn wsX1_ranked (wsV RX1 74 RX1 yX1_weighRanking wsX1_weighRanking) := goodIn_app (goodIn_of _ (by decide +kernel)) ggX1_ranked_X1_weighRanking
set_option maxRecDepth 20000 in
theorem ggX1_ranked_X0_fallsForEver : GoodIn wsX1_ranked wsX0_fallsForEver := goodIn_r _ [56, 57, 58, 59, 60, 13, 61, 19, 62, 63, 64, 65, 20, 21, 66, 67, 68, 69, 22, 70, 71, 72, 73, 74, 75, 76, 77, 78, 35, 37, 79, 80, 81, 82, 30, 31, 32, 33, 34, 36, 38, 39, 40, 41, 42, 43, 44, 83, 84, 85, 86, 87, 88, 89, 90, 91, 92, 93, 94, 102, 103, 104, 105, 106, 107, 108] (by decide +kernel) (by decide +kernel)
set_option maxRecDepth 20000 in
theorem gX1_ranked_X0_fallsForEver : GoodIn wsX1_ranked (wsV RX1 77 RX0 yX0_fallsForEver wsX0_fallsForEver) := goodIn_app (goodIn_of _ (by decide +kernel)) ggX1_ranked_X0_fallsForEver
theorem dX1_ranked_0 : decode cX1_ranked 0 = .ok (.aload_n 0, 1) := by decide +kernel
theorem dX1_ranked_1 : decode cX1_ranked 1 = .ok (.invokevirtual 74, 3) := by decide +kernel
theorem dX1_ranked_4 : decode cX1_ranked 4 = .ok (.aload_n 0, 1) := by decide +kernel
theorem dX1_ranked_5 : decode cX1_ranked 5 = .ok (.getfield 21, 3) := by decide +kernel
theorem dX1_ranked_8 : decode cX1_ranked 8 = .ok (.invokevirtual 77, 3) := by decide +kernel
theorem dX1_ranked_11 : decode cX1_ranked 11 = .ok (.ireturn, 1) := by decide +kernel
set_option maxRecDepth 20000 in
theorem ggX1_ranks_X1_areWithin : GoodIn wsX1_ranks wsX1_areWithin := goodIn_r _ [6, 7, 8, 5, 9] (by decide +kernel) (by decide +kernel)
set_option maxRecDepth 20000 in
theorem gX1_ranks_X1_areWithin : GoodIn wsX1_ranks (va_wsS RX1 39 yX1_areWithin wsX1_areWithin) := goodIn_app (goodIn_of _ (by decide +kernel)) ggX1_ranks_X1_areWithin
set_option maxRecDepth 20000 in
theorem ggX1_ranks_X1_isWithin : GoodIn wsX1_ranks wsX1_isWithin := goodIn_r _ [9] (by decide +kernel) (by decide +kernel)
set_option maxRecDepth 20000 in
theorem gX1_ranks_X1_isWithin : GoodIn wsX1_ranks (va_wsS RX1 43 yX1_isWithin wsX1_isWithin) := goodIn_app (goodIn_of _ (by decide +kernel)) ggX1_ranks_X1_isWithin
set_option maxRecDepth 20000 in
theorem ggX1_ranks_X1_fill : GoodIn wsX1_ranks wsX1_fill := goodIn_r _ [12] (by decide +kernel) (by decide +kernel)
set_option maxRecDepth 20000 in
theorem gX1_ranks_X1_fill : GoodIn wsX1_ranks (va_wsS RX1 47 yX1_fill wsX1_fill) := goodIn_app (goodIn_of _ (by decide +kernel)) ggX1_ranks_X1_fill
set_option maxRecDepth 20000 in
theorem ggX1_ranks_X1_seekLeast : GoodIn wsX1_ranks wsX1_seekLeast := goodIn_r _ [16, 2, 17, 18, 19, 5, 20, 21, 22, 23, 1, 24, 25, 26, 27, 28, 29, 30, 31, 32, 33, 34, 35, 36, 37, 38, 39, 40, 41, 42, 43, 44, 45, 46, 47, 48, 49, 50, 51, 52, 53, 54, 55, 56, 57, 58, 59, 60, 61, 62, 63, 64, 65, 66, 67, 68, 69, 70, 71, 72, 73, 74, 75, 76, 77, 78, 79, 80, 81, 82, 83, 84, 85, 86, 87, 88, 89, 90, 91, 92, 93, 94, 95, 96, 97, 98, 99, 100, 101, 102, 103, 104, 105, 106, 107, 108, 109, 110, 111, 112, 113, 114, 115, 116, 117, 118, 119, 120, 121, 122, 123, 124, 125, 126, 127, 128, 129, 130, 131, 132, 141, 142, 143, 144, 145, 146, 147, 148, 149, 150, 151, 152, 153, 154] (by decide +kernel) (by decide +kernel)
set_option maxRecDepth 20000 in
theorem gX1_ranks_X1_seekLeast : GoodIn wsX1_ranks (wsV RX1 70 RX1 yX1_seekLeast wsX1_seekLeast) := goodIn_app (goodIn_of _ (by decide +kernel)) ggX1_ranks_X1_seekLeast
set_option maxRecDepth 20000 in
theorem ggX1_ranks_X0_leastTop : GoodIn wsX1_ranks wsX0_leastTop := goodIn_r _ [136, 35, 33, 34, 148, 149, 150, 151, 152, 153, 154] (by decide +kernel) (by decide +kernel)
set_option maxRecDepth 20000 in
theorem gX1_ranks_X0_leastTop : GoodIn wsX1_ranks (wsV RX1 81 RX0 yX0_leastTop wsX0_leastTop) := goodIn_app (goodIn_of _ (by decide +kernel)) ggX1_ranks_X0_leastTop
set_option maxRecDepth 20000 in
theorem ggX1_ranks_X0_leastBottom : GoodIn wsX1_ranks wsX0_leastBottom := goodIn_r _ [140, 48, 148, 149, 150, 151, 152, 153, 154] (by decide +kernel) (by decide +kernel)
set_option maxRecDepth 20000 in
theorem gX1_ranks_X0_leastBottom : GoodIn wsX1_ranks (wsV RX1 85 RX0 yX0_leastBottom wsX0_leastBottom) := goodIn_app (goodIn_of _ (by decide +kernel)) ggX1_ranks_X0_leastBottom
theorem dX1_ranks_0 : decode cX1_ranks 0 = .ok (.iload_n 1, 1) := by decide +kernel
theorem dX1_ranks_1 : decode cX1_ranks 1 = .ok (.iload_n 2, 1) := by decide +kernel
theorem dX1_ranks_2 : decode cX1_ranks 2 = .ok (.iload_n 3, 1) := by decide +kernel
theorem dX1_ranks_3 : decode cX1_ranks 3 = .ok (.sipush 999, 3) := by decide +kernel
theorem dX1_ranks_6 : decode cX1_ranks 6 = .ok (.invokestatic 39, 3) := by decide +kernel
theorem dX1_ranks_9 : decode cX1_ranks 9 = .ok (.ifCond .eq 14, 3) := by decide +kernel
theorem dX1_ranks_12 : decode cX1_ranks 12 = .ok (.iload 4, 2) := by decide +kernel
theorem dX1_ranks_14 : decode cX1_ranks 14 = .ok (.sipush 999, 3) := by decide +kernel
theorem dX1_ranks_17 : decode cX1_ranks 17 = .ok (.invokestatic 43, 3) := by decide +kernel
theorem dX1_ranks_20 : decode cX1_ranks 20 = .ok (.ifCond .ne 5, 3) := by decide +kernel
theorem dX1_ranks_23 : decode cX1_ranks 23 = .ok (.iconst 0, 1) := by decide +kernel
theorem dX1_ranks_24 : decode cX1_ranks 24 = .ok (.ireturn, 1) := by decide +kernel
theorem dX1_ranks_25 : decode cX1_ranks 25 = .ok (.aload_n 0, 1) := by decide +kernel
theorem dX1_ranks_26 : decode cX1_ranks 26 = .ok (.getfield 14, 3) := by decide +kernel
theorem dX1_ranks_29 : decode cX1_ranks 29 = .ok (.iconst 0, 1) := by decide +kernel
theorem dX1_ranks_30 : decode cX1_ranks 30 = .ok (.iload_n 1, 1) := by decide +kernel
theorem dX1_ranks_31 : decode cX1_ranks 31 = .ok (.iload_n 2, 1) := by decide +kernel
theorem dX1_ranks_32 : decode cX1_ranks 32 = .ok (.iload_n 3, 1) := by decide +kernel
theorem dX1_ranks_33 : decode cX1_ranks 33 = .ok (.invokestatic 47, 3) := by decide +kernel
theorem dX1_ranks_36 : decode cX1_ranks 36 = .ok (.aload_n 0, 1) := by decide +kernel
theorem dX1_ranks_37 : decode cX1_ranks 37 = .ok (.getfield 14, 3) := by decide +kernel
theorem dX1_ranks_40 : decode cX1_ranks 40 = .ok (.iconst 3, 1) := by decide +kernel
theorem dX1_ranks_41 : decode cX1_ranks 41 = .ok (.iconst 0, 1) := by decide +kernel
theorem dX1_ranks_42 : decode cX1_ranks 42 = .ok (.iconst 0, 1) := by decide +kernel
theorem dX1_ranks_43 : decode cX1_ranks 43 = .ok (.iconst 0, 1) := by decide +kernel
theorem dX1_ranks_44 : decode cX1_ranks 44 = .ok (.invokestatic 47, 3) := by decide +kernel
theorem dX1_ranks_47 : decode cX1_ranks 47 = .ok (.aload_n 0, 1) := by decide +kernel
theorem dX1_ranks_48 : decode cX1_ranks 48 = .ok (.invokevirtual 70, 3) := by decide +kernel
theorem dX1_ranks_51 : decode cX1_ranks 51 = .ok (.istore 5, 2) := by decide +kernel
theorem dX1_ranks_53 : decode cX1_ranks 53 = .ok (.iload 5, 2) := by decide +kernel
theorem dX1_ranks_55 : decode cX1_ranks 55 = .ok (.ifCond .ne 5, 3) := by decide +kernel
theorem dX1_ranks_58 : decode cX1_ranks 58 = .ok (.iconst 1, 1) := by decide +kernel
theorem dX1_ranks_59 : decode cX1_ranks 59 = .ok (.ireturn, 1) := by decide +kernel
theorem dX1_ranks_60 : decode cX1_ranks 60 = .ok (.iload 5, 2) := by decide +kernel
theorem dX1_ranks_62 : decode cX1_ranks 62 = .ok (.iconst 1, 1) := by decide +kernel
theorem dX1_ranks_63 : decode cX1_ranks 63 = .ok (.if_icmp .eq 27, 3) := by decide +kernel
theorem dX1_ranks_66 : decode cX1_ranks 66 = .ok (.aload_n 0, 1) := by decide +kernel
theorem dX1_ranks_67 : decode cX1_ranks 67 = .ok (.getfield 21, 3) := by decide +kernel
theorem dX1_ranks_70 : decode cX1_ranks 70 = .ok (.invokevirtual 81, 3) := by decide +kernel
theorem dX1_ranks_73 : decode cX1_ranks 73 = .ok (.iload 4, 2) := by decide +kernel
theorem dX1_ranks_75 : decode cX1_ranks 75 = .ok (.i2l, 1) := by decide +kernel
theorem dX1_ranks_76 : decode cX1_ranks 76 = .ok (.aload_n 0, 1) := by decide +kernel
theorem dX1_ranks_77 : decode cX1_ranks 77 = .ok (.getfield 21, 3) := by decide +kernel
theorem dX1_ranks_80 : decode cX1_ranks 80 = .ok (.invokevirtual 85, 3) := by decide +kernel
theorem dX1_ranks_83 : decode cX1_ranks 83 = .ok (.lmul, 1) := by decide +kernel
theorem dX1_ranks_84 : decode cX1_ranks 84 = .ok (.ladd, 1) := by decide +kernel
theorem dX1_ranks_85 : decode cX1_ranks 85 = .ok (.lconst 0, 1) := by decide +kernel
theorem dX1_ranks_86 : decode cX1_ranks 86 = .ok (.lcmp, 1) := by decide +kernel
theorem dX1_ranks_87 : decode cX1_ranks 87 = .ok (.ifCond .ge 5, 3) := by decide +kernel
theorem dX1_ranks_90 : decode cX1_ranks 90 = .ok (.iconst 0, 1) := by decide +kernel
theorem dX1_ranks_91 : decode cX1_ranks 91 = .ok (.ireturn, 1) := by decide +kernel
theorem dX1_ranks_92 : decode cX1_ranks 92 = .ok (.aload_n 0, 1) := by decide +kernel
theorem dX1_ranks_93 : decode cX1_ranks 93 = .ok (.getfield 14, 3) := by decide +kernel
theorem dX1_ranks_96 : decode cX1_ranks 96 = .ok (.iconst 3, 1) := by decide +kernel
theorem dX1_ranks_97 : decode cX1_ranks 97 = .ok (.iload_n 1, 1) := by decide +kernel
theorem dX1_ranks_98 : decode cX1_ranks 98 = .ok (.ineg, 1) := by decide +kernel
theorem dX1_ranks_99 : decode cX1_ranks 99 = .ok (.iload_n 2, 1) := by decide +kernel
theorem dX1_ranks_100 : decode cX1_ranks 100 = .ok (.ineg, 1) := by decide +kernel
theorem dX1_ranks_101 : decode cX1_ranks 101 = .ok (.iload_n 3, 1) := by decide +kernel
theorem dX1_ranks_102 : decode cX1_ranks 102 = .ok (.ineg, 1) := by decide +kernel
theorem dX1_ranks_103 : decode cX1_ranks 103 = .ok (.invokestatic 47, 3) := by decide +kernel
theorem dX1_ranks_106 : decode cX1_ranks 106 = .ok (.aload_n 0, 1) := by decide +kernel
theorem dX1_ranks_107 : decode cX1_ranks 107 = .ok (.invokevirtual 70, 3) := by decide +kernel
theorem dX1_ranks_110 : decode cX1_ranks 110 = .ok (.iconst 2, 1) := by decide +kernel
theorem dX1_ranks_111 : decode cX1_ranks 111 = .ok (.if_icmp .ne 25, 3) := by decide +kernel
theorem dX1_ranks_114 : decode cX1_ranks 114 = .ok (.aload_n 0, 1) := by decide +kernel
theorem dX1_ranks_115 : decode cX1_ranks 115 = .ok (.getfield 21, 3) := by decide +kernel
theorem dX1_ranks_118 : decode cX1_ranks 118 = .ok (.invokevirtual 81, 3) := by decide +kernel
theorem dX1_ranks_121 : decode cX1_ranks 121 = .ok (.aload_n 0, 1) := by decide +kernel
theorem dX1_ranks_122 : decode cX1_ranks 122 = .ok (.getfield 21, 3) := by decide +kernel
theorem dX1_ranks_125 : decode cX1_ranks 125 = .ok (.invokevirtual 85, 3) := by decide +kernel
theorem dX1_ranks_128 : decode cX1_ranks 128 = .ok (.lcmp, 1) := by decide +kernel
theorem dX1_ranks_129 : decode cX1_ranks 129 = .ok (.ifCond .lt 7, 3) := by decide +kernel
theorem dX1_ranks_132 : decode cX1_ranks 132 = .ok (.iconst 1, 1) := by decide +kernel
theorem dX1_ranks_133 : decode cX1_ranks 133 = .ok (.goto 4, 3) := by decide +kernel
theorem dX1_ranks_136 : decode cX1_ranks 136 = .ok (.iconst 0, 1) := by decide +kernel
theorem dX1_ranks_137 : decode cX1_ranks 137 = .ok (.ireturn, 1) := by decide +kernel
set_option maxRecDepth 20000 in
theorem ggX1_least_X1_areWithin : GoodIn wsX1_least wsX1_areWithin := goodIn_r _ [8, 9, 10, 7, 11] (by decide +kernel) (by decide +kernel)
set_option maxRecDepth 20000 in
theorem gX1_least_X1_areWithin : GoodIn wsX1_least (va_wsS RX1 39 yX1_areWithin wsX1_areWithin) := goodIn_app (goodIn_of _ (by decide +kernel)) ggX1_least_X1_areWithin
set_option maxRecDepth 20000 in
theorem ggX1_least_X1_fill : GoodIn wsX1_least wsX1_fill := goodIn_r _ [14] (by decide +kernel) (by decide +kernel)
set_option maxRecDepth 20000 in
theorem gX1_least_X1_fill : GoodIn wsX1_least (va_wsS RX1 47 yX1_fill wsX1_fill) := goodIn_app (goodIn_of _ (by decide +kernel)) ggX1_least_X1_fill
set_option maxRecDepth 20000 in
theorem ggX1_least_X1_seekLeast : GoodIn wsX1_least wsX1_seekLeast := goodIn_r _ [18, 4, 19, 20, 21, 7, 22, 23, 24, 25, 1, 26, 27, 28, 29, 30, 31, 32, 33, 34, 35, 36, 37, 38, 39, 40, 41, 42, 43, 44, 45, 46, 47, 48, 49, 50, 51, 52, 53, 54, 55, 56, 57, 58, 59, 60, 61, 62, 63, 64, 65, 66, 67, 68, 69, 70, 71, 72, 73, 74, 75, 76, 77, 78, 79, 80, 81, 82, 83, 84, 85, 86, 87, 88, 89, 90, 91, 92, 93, 94, 95, 96, 97, 98, 99, 100, 101, 102, 103, 104, 105, 106, 107, 108, 109, 110, 111, 112, 113, 114, 115, 116, 117, 118, 119, 120, 121, 122, 123, 124, 125, 126, 127, 128, 129, 130, 131, 132, 133, 134, 152, 153, 154, 155, 156, 157, 158, 159, 160, 161, 162, 163, 164, 165] (by decide +kernel) (by decide +kernel)
set_option maxRecDepth 20000 in
theorem gX1_least_X1_seekLeast : GoodIn wsX1_least (wsV RX1 70 RX1 yX1_seekLeast wsX1_seekLeast) := goodIn_app (goodIn_of _ (by decide +kernel)) ggX1_least_X1_seekLeast
set_option maxRecDepth 20000 in
theorem ggX1_least_X0_leastTop : GoodIn wsX1_least wsX0_leastTop := goodIn_r _ [138, 37, 35, 36, 159, 160, 161, 162, 163, 164, 165] (by decide +kernel) (by decide +kernel)
set_option maxRecDepth 20000 in
theorem gX1_least_X0_leastTop : GoodIn wsX1_least (wsV RX1 81 RX0 yX0_leastTop wsX0_leastTop) := goodIn_app (goodIn_of _ (by decide +kernel)) ggX1_least_X0_leastTop
set_option maxRecDepth 20000 in
theorem ggX1_least_X0_leastBottom : GoodIn wsX1_least wsX0_leastBottom := goodIn_r _ [142, 50, 159, 160, 161, 162, 163, 164, 165] (by decide +kernel) (by decide +kernel)
set_option maxRecDepth 20000 in
theorem gX1_least_X0_leastBottom : GoodIn wsX1_least (wsV RX1 85 RX0 yX0_leastBottom wsX0_leastBottom) := goodIn_app (goodIn_of _ (by decide +kernel)) ggX1_least_X0_leastBottom
set_option maxRecDepth 20000 in
theorem ggX1_least_X1_commonFactor : GoodIn wsX1_least wsX1_commonFactor := goodIn_r _ [145, 146, 147, 33, 148, 149, 150, 151] (by decide +kernel) (by decide +kernel)
set_option maxRecDepth 20000 in
theorem gX1_least_X1_commonFactor : GoodIn wsX1_least (va_wsS RX1 88 yX1_commonFactor wsX1_commonFactor) := goodIn_app (goodIn_of _ (by decide +kernel)) ggX1_least_X1_commonFactor
theorem dX1_least_0 : decode cX1_least 0 = .ok (.iload_n 1, 1) := by decide +kernel
theorem dX1_least_1 : decode cX1_least 1 = .ok (.iload_n 2, 1) := by decide +kernel
theorem dX1_least_2 : decode cX1_least 2 = .ok (.iload_n 3, 1) := by decide +kernel
theorem dX1_least_3 : decode cX1_least 3 = .ok (.bipush 99, 2) := by decide +kernel
theorem dX1_least_5 : decode cX1_least 5 = .ok (.invokestatic 39, 3) := by decide +kernel
theorem dX1_least_8 : decode cX1_least 8 = .ok (.ifCond .eq 17, 3) := by decide +kernel
theorem dX1_least_11 : decode cX1_least 11 = .ok (.iload 4, 2) := by decide +kernel
theorem dX1_least_13 : decode cX1_least 13 = .ok (.iload 5, 2) := by decide +kernel
theorem dX1_least_15 : decode cX1_least 15 = .ok (.iload 6, 2) := by decide +kernel
theorem dX1_least_17 : decode cX1_least 17 = .ok (.bipush 99, 2) := by decide +kernel
theorem dX1_least_19 : decode cX1_least 19 = .ok (.invokestatic 39, 3) := by decide +kernel
theorem dX1_least_22 : decode cX1_least 22 = .ok (.ifCond .ne 5, 3) := by decide +kernel
theorem dX1_least_25 : decode cX1_least 25 = .ok (.iconst (-1), 1) := by decide +kernel
theorem dX1_least_26 : decode cX1_least 26 = .ok (.ireturn, 1) := by decide +kernel
theorem dX1_least_27 : decode cX1_least 27 = .ok (.aload_n 0, 1) := by decide +kernel
theorem dX1_least_28 : decode cX1_least 28 = .ok (.getfield 14, 3) := by decide +kernel
theorem dX1_least_31 : decode cX1_least 31 = .ok (.iconst 0, 1) := by decide +kernel
theorem dX1_least_32 : decode cX1_least 32 = .ok (.iload_n 1, 1) := by decide +kernel
theorem dX1_least_33 : decode cX1_least 33 = .ok (.iload_n 2, 1) := by decide +kernel
theorem dX1_least_34 : decode cX1_least 34 = .ok (.iload_n 3, 1) := by decide +kernel
theorem dX1_least_35 : decode cX1_least 35 = .ok (.invokestatic 47, 3) := by decide +kernel
theorem dX1_least_38 : decode cX1_least 38 = .ok (.aload_n 0, 1) := by decide +kernel
theorem dX1_least_39 : decode cX1_least 39 = .ok (.getfield 14, 3) := by decide +kernel
theorem dX1_least_42 : decode cX1_least 42 = .ok (.iconst 3, 1) := by decide +kernel
theorem dX1_least_43 : decode cX1_least 43 = .ok (.iload 4, 2) := by decide +kernel
theorem dX1_least_45 : decode cX1_least 45 = .ok (.iload 5, 2) := by decide +kernel
theorem dX1_least_47 : decode cX1_least 47 = .ok (.iload 6, 2) := by decide +kernel
theorem dX1_least_49 : decode cX1_least 49 = .ok (.invokestatic 47, 3) := by decide +kernel
theorem dX1_least_52 : decode cX1_least 52 = .ok (.aload_n 0, 1) := by decide +kernel
theorem dX1_least_53 : decode cX1_least 53 = .ok (.invokevirtual 70, 3) := by decide +kernel
theorem dX1_least_56 : decode cX1_least 56 = .ok (.istore 7, 2) := by decide +kernel
theorem dX1_least_58 : decode cX1_least 58 = .ok (.aload_n 0, 1) := by decide +kernel
theorem dX1_least_59 : decode cX1_least 59 = .ok (.lconst 0, 1) := by decide +kernel
theorem dX1_least_60 : decode cX1_least 60 = .ok (.putfield 32, 3) := by decide +kernel
theorem dX1_least_63 : decode cX1_least 63 = .ok (.aload_n 0, 1) := by decide +kernel
theorem dX1_least_64 : decode cX1_least 64 = .ok (.lconst 0, 1) := by decide +kernel
theorem dX1_least_65 : decode cX1_least 65 = .ok (.putfield 36, 3) := by decide +kernel
theorem dX1_least_68 : decode cX1_least 68 = .ok (.iload 7, 2) := by decide +kernel
theorem dX1_least_70 : decode cX1_least 70 = .ok (.iconst 2, 1) := by decide +kernel
theorem dX1_least_71 : decode cX1_least 71 = .ok (.if_icmp .ne 50, 3) := by decide +kernel
theorem dX1_least_74 : decode cX1_least 74 = .ok (.aload_n 0, 1) := by decide +kernel
theorem dX1_least_75 : decode cX1_least 75 = .ok (.getfield 21, 3) := by decide +kernel
theorem dX1_least_78 : decode cX1_least 78 = .ok (.invokevirtual 81, 3) := by decide +kernel
theorem dX1_least_81 : decode cX1_least 81 = .ok (.aload_n 0, 1) := by decide +kernel
theorem dX1_least_82 : decode cX1_least 82 = .ok (.getfield 21, 3) := by decide +kernel
theorem dX1_least_85 : decode cX1_least 85 = .ok (.invokevirtual 85, 3) := by decide +kernel
theorem dX1_least_88 : decode cX1_least 88 = .ok (.invokestatic 88, 3) := by decide +kernel
theorem dX1_least_91 : decode cX1_least 91 = .ok (.lstore 8, 2) := by decide +kernel
theorem dX1_least_93 : decode cX1_least 93 = .ok (.aload_n 0, 1) := by decide +kernel
theorem dX1_least_94 : decode cX1_least 94 = .ok (.aload_n 0, 1) := by decide +kernel
theorem dX1_least_95 : decode cX1_least 95 = .ok (.getfield 21, 3) := by decide +kernel
theorem dX1_least_98 : decode cX1_least 98 = .ok (.invokevirtual 81, 3) := by decide +kernel
theorem dX1_least_101 : decode cX1_least 101 = .ok (.lload 8, 2) := by decide +kernel
theorem dX1_least_103 : decode cX1_least 103 = .ok (.ldiv, 1) := by decide +kernel
theorem dX1_least_104 : decode cX1_least 104 = .ok (.putfield 32, 3) := by decide +kernel
theorem dX1_least_107 : decode cX1_least 107 = .ok (.aload_n 0, 1) := by decide +kernel
theorem dX1_least_108 : decode cX1_least 108 = .ok (.aload_n 0, 1) := by decide +kernel
theorem dX1_least_109 : decode cX1_least 109 = .ok (.getfield 21, 3) := by decide +kernel
theorem dX1_least_112 : decode cX1_least 112 = .ok (.invokevirtual 85, 3) := by decide +kernel
theorem dX1_least_115 : decode cX1_least 115 = .ok (.lload 8, 2) := by decide +kernel
theorem dX1_least_117 : decode cX1_least 117 = .ok (.ldiv, 1) := by decide +kernel
theorem dX1_least_118 : decode cX1_least 118 = .ok (.putfield 36, 3) := by decide +kernel
theorem dX1_least_121 : decode cX1_least 121 = .ok (.iload 7, 2) := by decide +kernel
theorem dX1_least_123 : decode cX1_least 123 = .ok (.ireturn, 1) := by decide +kernel
theorem dX1_top_0 : decode cX1_top 0 = .ok (.aload_n 0, 1) := by decide +kernel
theorem dX1_top_1 : decode cX1_top 1 = .ok (.getfield 32, 3) := by decide +kernel
theorem dX1_top_4 : decode cX1_top 4 = .ok (.lreturn, 1) := by decide +kernel
theorem dX1_bottom_0 : decode cX1_bottom 0 = .ok (.aload_n 0, 1) := by decide +kernel
theorem dX1_bottom_1 : decode cX1_bottom 1 = .ok (.getfield 36, 3) := by decide +kernel
theorem dX1_bottom_4 : decode cX1_bottom 4 = .ok (.lreturn, 1) := by decide +kernel
theorem dX1_isRule_0 : decode cX1_isRule 0 = .ok (.iload_n 1, 1) := by decide +kernel
theorem dX1_isRule_1 : decode cX1_isRule 1 = .ok (.ifCond .lt 15, 3) := by decide +kernel
theorem dX1_isRule_4 : decode cX1_isRule 4 = .ok (.iload_n 1, 1) := by decide +kernel
theorem dX1_isRule_5 : decode cX1_isRule 5 = .ok (.aload_n 0, 1) := by decide +kernel
theorem dX1_isRule_6 : decode cX1_isRule 6 = .ok (.getfield 29, 3) := by decide +kernel
theorem dX1_isRule_9 : decode cX1_isRule 9 = .ok (.if_icmp .ge 7, 3) := by decide +kernel
theorem dX1_isRule_12 : decode cX1_isRule 12 = .ok (.iconst 1, 1) := by decide +kernel
theorem dX1_isRule_13 : decode cX1_isRule 13 = .ok (.goto 4, 3) := by decide +kernel
theorem dX1_isRule_16 : decode cX1_isRule 16 = .ok (.iconst 0, 1) := by decide +kernel
theorem dX1_isRule_17 : decode cX1_isRule 17 = .ok (.ireturn, 1) := by decide +kernel
theorem dX1_isWithin_0 : decode cX1_isWithin 0 = .ok (.iload_n 0, 1) := by decide +kernel
theorem dX1_isWithin_1 : decode cX1_isWithin 1 = .ok (.iload_n 1, 1) := by decide +kernel
theorem dX1_isWithin_2 : decode cX1_isWithin 2 = .ok (.ineg, 1) := by decide +kernel
theorem dX1_isWithin_3 : decode cX1_isWithin 3 = .ok (.if_icmp .lt 12, 3) := by decide +kernel
theorem dX1_isWithin_6 : decode cX1_isWithin 6 = .ok (.iload_n 0, 1) := by decide +kernel
theorem dX1_isWithin_7 : decode cX1_isWithin 7 = .ok (.iload_n 1, 1) := by decide +kernel
theorem dX1_isWithin_8 : decode cX1_isWithin 8 = .ok (.if_icmp .gt 7, 3) := by decide +kernel
theorem dX1_isWithin_11 : decode cX1_isWithin 11 = .ok (.iconst 1, 1) := by decide +kernel
theorem dX1_isWithin_12 : decode cX1_isWithin 12 = .ok (.goto 4, 3) := by decide +kernel
theorem dX1_isWithin_15 : decode cX1_isWithin 15 = .ok (.iconst 0, 1) := by decide +kernel
theorem dX1_isWithin_16 : decode cX1_isWithin 16 = .ok (.ireturn, 1) := by decide +kernel
set_option maxRecDepth 20000 in
theorem ggX1_areWithin_X1_isWithin : GoodIn wsX1_areWithin wsX1_isWithin := goodIn_r _ [4] (by decide +kernel) (by decide +kernel)
set_option maxRecDepth 20000 in
theorem gX1_areWithin_X1_isWithin : GoodIn wsX1_areWithin (va_wsS RX1 43 yX1_isWithin wsX1_isWithin) := goodIn_app (goodIn_of _ (by decide +kernel)) ggX1_areWithin_X1_isWithin
theorem dX1_areWithin_0 : decode cX1_areWithin 0 = .ok (.iload_n 0, 1) := by decide +kernel
theorem dX1_areWithin_1 : decode cX1_areWithin 1 = .ok (.iload_n 3, 1) := by decide +kernel
theorem dX1_areWithin_2 : decode cX1_areWithin 2 = .ok (.invokestatic 43, 3) := by decide +kernel
theorem dX1_areWithin_5 : decode cX1_areWithin 5 = .ok (.ifCond .eq 23, 3) := by decide +kernel
theorem dX1_areWithin_8 : decode cX1_areWithin 8 = .ok (.iload_n 1, 1) := by decide +kernel
theorem dX1_areWithin_9 : decode cX1_areWithin 9 = .ok (.iload_n 3, 1) := by decide +kernel
theorem dX1_areWithin_10 : decode cX1_areWithin 10 = .ok (.invokestatic 43, 3) := by decide +kernel
theorem dX1_areWithin_13 : decode cX1_areWithin 13 = .ok (.ifCond .eq 15, 3) := by decide +kernel
theorem dX1_areWithin_16 : decode cX1_areWithin 16 = .ok (.iload_n 2, 1) := by decide +kernel
theorem dX1_areWithin_17 : decode cX1_areWithin 17 = .ok (.iload_n 3, 1) := by decide +kernel
theorem dX1_areWithin_18 : decode cX1_areWithin 18 = .ok (.invokestatic 43, 3) := by decide +kernel
theorem dX1_areWithin_21 : decode cX1_areWithin 21 = .ok (.ifCond .eq 7, 3) := by decide +kernel
theorem dX1_areWithin_24 : decode cX1_areWithin 24 = .ok (.iconst 1, 1) := by decide +kernel
theorem dX1_areWithin_25 : decode cX1_areWithin 25 = .ok (.goto 4, 3) := by decide +kernel
theorem dX1_areWithin_28 : decode cX1_areWithin 28 = .ok (.iconst 0, 1) := by decide +kernel
theorem dX1_areWithin_29 : decode cX1_areWithin 29 = .ok (.ireturn, 1) := by decide +kernel
theorem dX1_fill_0 : decode cX1_fill 0 = .ok (.aload_n 0, 1) := by decide +kernel
theorem dX1_fill_1 : decode cX1_fill 1 = .ok (.iload_n 1, 1) := by decide +kernel
theorem dX1_fill_2 : decode cX1_fill 2 = .ok (.iload_n 2, 1) := by decide +kernel
theorem dX1_fill_3 : decode cX1_fill 3 = .ok (.iastore, 1) := by decide +kernel
theorem dX1_fill_4 : decode cX1_fill 4 = .ok (.aload_n 0, 1) := by decide +kernel
theorem dX1_fill_5 : decode cX1_fill 5 = .ok (.iload_n 1, 1) := by decide +kernel
theorem dX1_fill_6 : decode cX1_fill 6 = .ok (.iconst 1, 1) := by decide +kernel
theorem dX1_fill_7 : decode cX1_fill 7 = .ok (.iadd, 1) := by decide +kernel
theorem dX1_fill_8 : decode cX1_fill 8 = .ok (.iload_n 3, 1) := by decide +kernel
theorem dX1_fill_9 : decode cX1_fill 9 = .ok (.iastore, 1) := by decide +kernel
theorem dX1_fill_10 : decode cX1_fill 10 = .ok (.aload_n 0, 1) := by decide +kernel
theorem dX1_fill_11 : decode cX1_fill 11 = .ok (.iload_n 1, 1) := by decide +kernel
theorem dX1_fill_12 : decode cX1_fill 12 = .ok (.iconst 2, 1) := by decide +kernel
theorem dX1_fill_13 : decode cX1_fill 13 = .ok (.iadd, 1) := by decide +kernel
theorem dX1_fill_14 : decode cX1_fill 14 = .ok (.iload 4, 2) := by decide +kernel
theorem dX1_fill_16 : decode cX1_fill 16 = .ok (.iastore, 1) := by decide +kernel
theorem dX1_fill_17 : decode cX1_fill 17 = .ok (.return_, 1) := by decide +kernel
theorem dX1_partOf_0 : decode cX1_partOf 0 = .ok (.aload_n 0, 1) := by decide +kernel
theorem dX1_partOf_1 : decode cX1_partOf 1 = .ok (.getfield 11, 3) := by decide +kernel
theorem dX1_partOf_4 : decode cX1_partOf 4 = .ok (.iload_n 1, 1) := by decide +kernel
theorem dX1_partOf_5 : decode cX1_partOf 5 = .ok (.aaload, 1) := by decide +kernel
theorem dX1_partOf_6 : decode cX1_partOf 6 = .ok (.astore 9, 2) := by decide +kernel
theorem dX1_partOf_8 : decode cX1_partOf 8 = .ok (.aload 9, 2) := by decide +kernel
theorem dX1_partOf_10 : decode cX1_partOf 10 = .ok (.iload_n 2, 1) := by decide +kernel
theorem dX1_partOf_11 : decode cX1_partOf 11 = .ok (.iaload, 1) := by decide +kernel
theorem dX1_partOf_12 : decode cX1_partOf 12 = .ok (.i2l, 1) := by decide +kernel
theorem dX1_partOf_13 : decode cX1_partOf 13 = .ok (.lload_n 3, 1) := by decide +kernel
theorem dX1_partOf_14 : decode cX1_partOf 14 = .ok (.lmul, 1) := by decide +kernel
theorem dX1_partOf_15 : decode cX1_partOf 15 = .ok (.lstore 10, 2) := by decide +kernel
theorem dX1_partOf_17 : decode cX1_partOf 17 = .ok (.aload_n 0, 1) := by decide +kernel
theorem dX1_partOf_18 : decode cX1_partOf 18 = .ok (.getfield 25, 3) := by decide +kernel
theorem dX1_partOf_21 : decode cX1_partOf 21 = .ok (.iconst 1, 1) := by decide +kernel
theorem dX1_partOf_22 : decode cX1_partOf 22 = .ok (.if_icmp .le 18, 3) := by decide +kernel
theorem dX1_partOf_25 : decode cX1_partOf 25 = .ok (.lload 10, 2) := by decide +kernel
theorem dX1_partOf_27 : decode cX1_partOf 27 = .ok (.aload 9, 2) := by decide +kernel
theorem dX1_partOf_29 : decode cX1_partOf 29 = .ok (.iload_n 2, 1) := by decide +kernel
theorem dX1_partOf_30 : decode cX1_partOf 30 = .ok (.iconst 1, 1) := by decide +kernel
theorem dX1_partOf_31 : decode cX1_partOf 31 = .ok (.iadd, 1) := by decide +kernel
theorem dX1_partOf_32 : decode cX1_partOf 32 = .ok (.iaload, 1) := by decide +kernel
theorem dX1_partOf_33 : decode cX1_partOf 33 = .ok (.i2l, 1) := by decide +kernel
theorem dX1_partOf_34 : decode cX1_partOf 34 = .ok (.lload 5, 2) := by decide +kernel
theorem dX1_partOf_36 : decode cX1_partOf 36 = .ok (.lmul, 1) := by decide +kernel
theorem dX1_partOf_37 : decode cX1_partOf 37 = .ok (.ladd, 1) := by decide +kernel
theorem dX1_partOf_38 : decode cX1_partOf 38 = .ok (.lstore 10, 2) := by decide +kernel
theorem dX1_partOf_40 : decode cX1_partOf 40 = .ok (.aload_n 0, 1) := by decide +kernel
theorem dX1_partOf_41 : decode cX1_partOf 41 = .ok (.getfield 25, 3) := by decide +kernel
theorem dX1_partOf_44 : decode cX1_partOf 44 = .ok (.iconst 2, 1) := by decide +kernel
theorem dX1_partOf_45 : decode cX1_partOf 45 = .ok (.if_icmp .le 18, 3) := by decide +kernel
theorem dX1_partOf_48 : decode cX1_partOf 48 = .ok (.lload 10, 2) := by decide +kernel
theorem dX1_partOf_50 : decode cX1_partOf 50 = .ok (.aload 9, 2) := by decide +kernel
theorem dX1_partOf_52 : decode cX1_partOf 52 = .ok (.iload_n 2, 1) := by decide +kernel
theorem dX1_partOf_53 : decode cX1_partOf 53 = .ok (.iconst 2, 1) := by decide +kernel
theorem dX1_partOf_54 : decode cX1_partOf 54 = .ok (.iadd, 1) := by decide +kernel
theorem dX1_partOf_55 : decode cX1_partOf 55 = .ok (.iaload, 1) := by decide +kernel
theorem dX1_partOf_56 : decode cX1_partOf 56 = .ok (.i2l, 1) := by decide +kernel
theorem dX1_partOf_57 : decode cX1_partOf 57 = .ok (.lload 7, 2) := by decide +kernel
theorem dX1_partOf_59 : decode cX1_partOf 59 = .ok (.lmul, 1) := by decide +kernel
theorem dX1_partOf_60 : decode cX1_partOf 60 = .ok (.ladd, 1) := by decide +kernel
theorem dX1_partOf_61 : decode cX1_partOf 61 = .ok (.lstore 10, 2) := by decide +kernel
theorem dX1_partOf_63 : decode cX1_partOf 63 = .ok (.lload 10, 2) := by decide +kernel
theorem dX1_partOf_65 : decode cX1_partOf 65 = .ok (.lreturn, 1) := by decide +kernel
set_option maxRecDepth 20000 in
theorem ggX1_seekLeast_X1_weighGoal : GoodIn wsX1_seekLeast wsX1_weighGoal := goodIn_r _ [6, 1, 7, 8, 9, 10, 11, 12, 13, 14, 15, 16, 17, 18, 19, 20, 21, 22, 23, 24, 25, 26, 27, 28, 29, 30, 31, 32, 33, 34, 35, 36, 37, 38, 39, 40, 41, 42, 43, 44, 45, 46, 47, 48, 49, 50, 51, 52, 53, 54, 55, 56, 57, 120, 121, 122, 123, 124, 125, 126, 127, 128, 129, 130, 131, 132, 133] (by decide +kernel) (by decide +kernel)
set_option maxRecDepth 20000 in
theorem gX1_seekLeast_X1_weighGoal : GoodIn wsX1_seekLeast (wsV RX1 92 RX1 yX1_weighGoal wsX1_weighGoal) := goodIn_app (goodIn_of _ (by decide +kernel)) ggX1_seekLeast_X1_weighGoal
set_option maxRecDepth 20000 in
theorem ggX1_seekLeast_X0_fallsForEver : GoodIn wsX1_seekLeast wsX0_fallsForEver := goodIn_r _ [61, 62, 63, 64, 65, 14, 66, 20, 67, 68, 69, 70, 21, 22, 71, 72, 73, 74, 23, 75, 76, 77, 78, 79, 80, 81, 82, 83, 36, 38, 84, 85, 86, 87, 31, 32, 33, 34, 35, 37, 39, 40, 41, 42, 43, 44, 45, 88, 89, 90, 91, 92, 93, 94, 95, 96, 97, 98, 99, 127, 128, 129, 130, 131, 132, 133] (by decide +kernel) (by decide +kernel)
set_option maxRecDepth 20000 in
theorem gX1_seekLeast_X0_fallsForEver : GoodIn wsX1_seekLeast (wsV RX1 77 RX0 yX0_fallsForEver wsX0_fallsForEver) := goodIn_app (goodIn_of _ (by decide +kernel)) ggX1_seekLeast_X0_fallsForEver
set_option maxRecDepth 20000 in
theorem ggX1_seekLeast_X0_reachesRightSides : GoodIn wsX1_seekLeast wsX0_reachesRightSides := goodIn_r _ [103, 62, 104, 105, 106, 14, 107, 20, 23, 22, 21, 108, 109, 110, 111, 96, 97, 98, 99, 112, 113, 114, 115, 116, 117, 118, 119, 71, 72, 73, 74, 75, 76, 77, 78, 79, 80, 81, 82, 83, 36, 38, 84, 85, 86, 87, 31, 32, 33, 34, 35, 37, 39, 40, 41, 42, 43, 44, 45, 127, 128, 129, 130, 131, 132, 133] (by decide +kernel) (by decide +kernel)
set_option maxRecDepth 20000 in
theorem gX1_seekLeast_X0_reachesRightSides : GoodIn wsX1_seekLeast (wsV RX1 95 RX0 yX0_reachesRightSides wsX0_reachesRightSides) := goodIn_app (goodIn_of _ (by decide +kernel)) ggX1_seekLeast_X0_reachesRightSides
theorem dX1_seekLeast_0 : decode cX1_seekLeast 0 = .ok (.aload_n 0, 1) := by decide +kernel
theorem dX1_seekLeast_1 : decode cX1_seekLeast 1 = .ok (.invokevirtual 92, 3) := by decide +kernel
theorem dX1_seekLeast_4 : decode cX1_seekLeast 4 = .ok (.aload_n 0, 1) := by decide +kernel
theorem dX1_seekLeast_5 : decode cX1_seekLeast 5 = .ok (.getfield 21, 3) := by decide +kernel
theorem dX1_seekLeast_8 : decode cX1_seekLeast 8 = .ok (.invokevirtual 77, 3) := by decide +kernel
theorem dX1_seekLeast_11 : decode cX1_seekLeast 11 = .ok (.ifCond .eq 5, 3) := by decide +kernel
theorem dX1_seekLeast_14 : decode cX1_seekLeast 14 = .ok (.iconst 0, 1) := by decide +kernel
theorem dX1_seekLeast_15 : decode cX1_seekLeast 15 = .ok (.ireturn, 1) := by decide +kernel
theorem dX1_seekLeast_16 : decode cX1_seekLeast 16 = .ok (.aload_n 0, 1) := by decide +kernel
theorem dX1_seekLeast_17 : decode cX1_seekLeast 17 = .ok (.getfield 21, 3) := by decide +kernel
theorem dX1_seekLeast_20 : decode cX1_seekLeast 20 = .ok (.invokevirtual 95, 3) := by decide +kernel
theorem dX1_seekLeast_23 : decode cX1_seekLeast 23 = .ok (.ifCond .eq 7, 3) := by decide +kernel
theorem dX1_seekLeast_26 : decode cX1_seekLeast 26 = .ok (.iconst 2, 1) := by decide +kernel
theorem dX1_seekLeast_27 : decode cX1_seekLeast 27 = .ok (.goto 4, 3) := by decide +kernel
theorem dX1_seekLeast_30 : decode cX1_seekLeast 30 = .ok (.iconst 1, 1) := by decide +kernel
theorem dX1_seekLeast_31 : decode cX1_seekLeast 31 = .ok (.ireturn, 1) := by decide +kernel
set_option maxRecDepth 20000 in
theorem ggX1_weighGoal_X0_clear : GoodIn wsX1_weighGoal wsX0_clear := goodIn_r _ [10, 11, 12, 13, 14, 15, 16, 17, 18, 19, 20, 21, 22, 23, 24, 25, 26, 27, 28, 9, 29, 30, 31, 32, 33, 34, 35, 36, 37, 38, 39, 40, 60, 61, 62, 63, 64, 65, 66] (by decide +kernel) (by decide +kernel)
set_option maxRecDepth 20000 in
theorem gX1_weighGoal_X0_clear : GoodIn wsX1_weighGoal (wsV RX1 98 RX0 yX0_clear wsX0_clear) := goodIn_app (goodIn_of _ (by decide +kernel)) ggX1_weighGoal_X0_clear
set_option maxRecDepth 20000 in
theorem ggX1_weighGoal_X0_put : GoodIn wsX1_weighGoal wsX0_put := goodIn_r _ [44, 17, 60, 61, 62, 63, 64, 65, 66] (by decide +kernel) (by decide +kernel)
set_option maxRecDepth 20000 in
theorem gX1_weighGoal_X0_put : GoodIn wsX1_weighGoal (wsV RX1 102 RX0 yX0_put wsX0_put) := goodIn_app (goodIn_of _ (by decide +kernel)) ggX1_weighGoal_X0_put
set_option maxRecDepth 20000 in
theorem ggX1_weighGoal_X0_putRightSide : GoodIn wsX1_weighGoal wsX0_putRightSide := goodIn_r _ [48, 17, 16, 60, 61, 62, 63, 64, 65, 66] (by decide +kernel) (by decide +kernel)
set_option maxRecDepth 20000 in
theorem gX1_weighGoal_X0_putRightSide : GoodIn wsX1_weighGoal (wsV RX1 106 RX0 yX0_putRightSide wsX0_putRightSide) := goodIn_app (goodIn_of _ (by decide +kernel)) ggX1_weighGoal_X0_putRightSide
set_option maxRecDepth 20000 in
theorem ggX1_weighGoal_X0_putCost : GoodIn wsX1_weighGoal wsX0_putCost := goodIn_r _ [52, 17, 15, 60, 61, 62, 63, 64, 65, 66] (by decide +kernel) (by decide +kernel)
set_option maxRecDepth 20000 in
theorem gX1_weighGoal_X0_putCost : GoodIn wsX1_weighGoal (wsV RX1 109 RX0 yX0_putCost wsX0_putCost) := goodIn_app (goodIn_of _ (by decide +kernel)) ggX1_weighGoal_X0_putCost
theorem dX1_weighGoal_0 : decode cX1_weighGoal 0 = .ok (.aload_n 0, 1) := by decide +kernel
theorem dX1_weighGoal_1 : decode cX1_weighGoal 1 = .ok (.getfield 21, 3) := by decide +kernel
theorem dX1_weighGoal_4 : decode cX1_weighGoal 4 = .ok (.iconst 2, 1) := by decide +kernel
theorem dX1_weighGoal_5 : decode cX1_weighGoal 5 = .ok (.aload_n 0, 1) := by decide +kernel
theorem dX1_weighGoal_6 : decode cX1_weighGoal 6 = .ok (.getfield 25, 3) := by decide +kernel
theorem dX1_weighGoal_9 : decode cX1_weighGoal 9 = .ok (.imul, 1) := by decide +kernel
theorem dX1_weighGoal_10 : decode cX1_weighGoal 10 = .ok (.aload_n 0, 1) := by decide +kernel
theorem dX1_weighGoal_11 : decode cX1_weighGoal 11 = .ok (.getfield 29, 3) := by decide +kernel
theorem dX1_weighGoal_14 : decode cX1_weighGoal 14 = .ok (.invokevirtual 98, 3) := by decide +kernel
theorem dX1_weighGoal_17 : decode cX1_weighGoal 17 = .ok (.iconst 0, 1) := by decide +kernel
theorem dX1_weighGoal_18 : decode cX1_weighGoal 18 = .ok (.istore_n 1, 1) := by decide +kernel
theorem dX1_weighGoal_19 : decode cX1_weighGoal 19 = .ok (.iload_n 1, 1) := by decide +kernel
theorem dX1_weighGoal_20 : decode cX1_weighGoal 20 = .ok (.aload_n 0, 1) := by decide +kernel
theorem dX1_weighGoal_21 : decode cX1_weighGoal 21 = .ok (.getfield 25, 3) := by decide +kernel
theorem dX1_weighGoal_24 : decode cX1_weighGoal 24 = .ok (.if_icmp .ge 100, 3) := by decide +kernel
theorem dX1_weighGoal_27 : decode cX1_weighGoal 27 = .ok (.aload_n 0, 1) := by decide +kernel
theorem dX1_weighGoal_28 : decode cX1_weighGoal 28 = .ok (.getfield 25, 3) := by decide +kernel
theorem dX1_weighGoal_31 : decode cX1_weighGoal 31 = .ok (.iload_n 1, 1) := by decide +kernel
theorem dX1_weighGoal_32 : decode cX1_weighGoal 32 = .ok (.iadd, 1) := by decide +kernel
theorem dX1_weighGoal_33 : decode cX1_weighGoal 33 = .ok (.istore_n 2, 1) := by decide +kernel
theorem dX1_weighGoal_34 : decode cX1_weighGoal 34 = .ok (.iconst 0, 1) := by decide +kernel
theorem dX1_weighGoal_35 : decode cX1_weighGoal 35 = .ok (.istore_n 3, 1) := by decide +kernel
theorem dX1_weighGoal_36 : decode cX1_weighGoal 36 = .ok (.iload_n 3, 1) := by decide +kernel
theorem dX1_weighGoal_37 : decode cX1_weighGoal 37 = .ok (.aload_n 0, 1) := by decide +kernel
theorem dX1_weighGoal_38 : decode cX1_weighGoal 38 = .ok (.getfield 29, 3) := by decide +kernel
theorem dX1_weighGoal_41 : decode cX1_weighGoal 41 = .ok (.if_icmp .ge 45, 3) := by decide +kernel
theorem dX1_weighGoal_44 : decode cX1_weighGoal 44 = .ok (.aload_n 0, 1) := by decide +kernel
theorem dX1_weighGoal_45 : decode cX1_weighGoal 45 = .ok (.getfield 21, 3) := by decide +kernel
theorem dX1_weighGoal_48 : decode cX1_weighGoal 48 = .ok (.iload_n 1, 1) := by decide +kernel
theorem dX1_weighGoal_49 : decode cX1_weighGoal 49 = .ok (.iload_n 3, 1) := by decide +kernel
theorem dX1_weighGoal_50 : decode cX1_weighGoal 50 = .ok (.aload_n 0, 1) := by decide +kernel
theorem dX1_weighGoal_51 : decode cX1_weighGoal 51 = .ok (.getfield 11, 3) := by decide +kernel
theorem dX1_weighGoal_54 : decode cX1_weighGoal 54 = .ok (.iload_n 3, 1) := by decide +kernel
theorem dX1_weighGoal_55 : decode cX1_weighGoal 55 = .ok (.aaload, 1) := by decide +kernel
theorem dX1_weighGoal_56 : decode cX1_weighGoal 56 = .ok (.iload_n 1, 1) := by decide +kernel
theorem dX1_weighGoal_57 : decode cX1_weighGoal 57 = .ok (.iaload, 1) := by decide +kernel
theorem dX1_weighGoal_58 : decode cX1_weighGoal 58 = .ok (.invokevirtual 102, 3) := by decide +kernel
theorem dX1_weighGoal_61 : decode cX1_weighGoal 61 = .ok (.aload_n 0, 1) := by decide +kernel
theorem dX1_weighGoal_62 : decode cX1_weighGoal 62 = .ok (.getfield 21, 3) := by decide +kernel
theorem dX1_weighGoal_65 : decode cX1_weighGoal 65 = .ok (.iload_n 2, 1) := by decide +kernel
theorem dX1_weighGoal_66 : decode cX1_weighGoal 66 = .ok (.iload_n 3, 1) := by decide +kernel
theorem dX1_weighGoal_67 : decode cX1_weighGoal 67 = .ok (.aload_n 0, 1) := by decide +kernel
theorem dX1_weighGoal_68 : decode cX1_weighGoal 68 = .ok (.getfield 11, 3) := by decide +kernel
theorem dX1_weighGoal_71 : decode cX1_weighGoal 71 = .ok (.iload_n 3, 1) := by decide +kernel
theorem dX1_weighGoal_72 : decode cX1_weighGoal 72 = .ok (.aaload, 1) := by decide +kernel
theorem dX1_weighGoal_73 : decode cX1_weighGoal 73 = .ok (.iconst 3, 1) := by decide +kernel
theorem dX1_weighGoal_74 : decode cX1_weighGoal 74 = .ok (.iload_n 1, 1) := by decide +kernel
theorem dX1_weighGoal_75 : decode cX1_weighGoal 75 = .ok (.iadd, 1) := by decide +kernel
theorem dX1_weighGoal_76 : decode cX1_weighGoal 76 = .ok (.iaload, 1) := by decide +kernel
theorem dX1_weighGoal_77 : decode cX1_weighGoal 77 = .ok (.invokevirtual 102, 3) := by decide +kernel
theorem dX1_weighGoal_80 : decode cX1_weighGoal 80 = .ok (.iinc 3 1, 3) := by decide +kernel
theorem dX1_weighGoal_83 : decode cX1_weighGoal 83 = .ok (.goto (-47), 3) := by decide +kernel
theorem dX1_weighGoal_86 : decode cX1_weighGoal 86 = .ok (.aload_n 0, 1) := by decide +kernel
theorem dX1_weighGoal_87 : decode cX1_weighGoal 87 = .ok (.getfield 21, 3) := by decide +kernel
theorem dX1_weighGoal_90 : decode cX1_weighGoal 90 = .ok (.iload_n 1, 1) := by decide +kernel
theorem dX1_weighGoal_91 : decode cX1_weighGoal 91 = .ok (.aload_n 0, 1) := by decide +kernel
theorem dX1_weighGoal_92 : decode cX1_weighGoal 92 = .ok (.getfield 14, 3) := by decide +kernel
theorem dX1_weighGoal_95 : decode cX1_weighGoal 95 = .ok (.iload_n 1, 1) := by decide +kernel
theorem dX1_weighGoal_96 : decode cX1_weighGoal 96 = .ok (.iaload, 1) := by decide +kernel
theorem dX1_weighGoal_97 : decode cX1_weighGoal 97 = .ok (.ineg, 1) := by decide +kernel
theorem dX1_weighGoal_98 : decode cX1_weighGoal 98 = .ok (.invokevirtual 106, 3) := by decide +kernel
theorem dX1_weighGoal_101 : decode cX1_weighGoal 101 = .ok (.aload_n 0, 1) := by decide +kernel
theorem dX1_weighGoal_102 : decode cX1_weighGoal 102 = .ok (.getfield 21, 3) := by decide +kernel
theorem dX1_weighGoal_105 : decode cX1_weighGoal 105 = .ok (.iload_n 2, 1) := by decide +kernel
theorem dX1_weighGoal_106 : decode cX1_weighGoal 106 = .ok (.aload_n 0, 1) := by decide +kernel
theorem dX1_weighGoal_107 : decode cX1_weighGoal 107 = .ok (.getfield 14, 3) := by decide +kernel
theorem dX1_weighGoal_110 : decode cX1_weighGoal 110 = .ok (.iconst 3, 1) := by decide +kernel
theorem dX1_weighGoal_111 : decode cX1_weighGoal 111 = .ok (.iload_n 1, 1) := by decide +kernel
theorem dX1_weighGoal_112 : decode cX1_weighGoal 112 = .ok (.iadd, 1) := by decide +kernel
theorem dX1_weighGoal_113 : decode cX1_weighGoal 113 = .ok (.iaload, 1) := by decide +kernel
theorem dX1_weighGoal_114 : decode cX1_weighGoal 114 = .ok (.ineg, 1) := by decide +kernel
theorem dX1_weighGoal_115 : decode cX1_weighGoal 115 = .ok (.invokevirtual 106, 3) := by decide +kernel
theorem dX1_weighGoal_118 : decode cX1_weighGoal 118 = .ok (.iinc 1 1, 3) := by decide +kernel
theorem dX1_weighGoal_121 : decode cX1_weighGoal 121 = .ok (.goto (-102), 3) := by decide +kernel
theorem dX1_weighGoal_124 : decode cX1_weighGoal 124 = .ok (.iconst 0, 1) := by decide +kernel
theorem dX1_weighGoal_125 : decode cX1_weighGoal 125 = .ok (.istore_n 1, 1) := by decide +kernel
theorem dX1_weighGoal_126 : decode cX1_weighGoal 126 = .ok (.iload_n 1, 1) := by decide +kernel
theorem dX1_weighGoal_127 : decode cX1_weighGoal 127 = .ok (.aload_n 0, 1) := by decide +kernel
theorem dX1_weighGoal_128 : decode cX1_weighGoal 128 = .ok (.getfield 29, 3) := by decide +kernel
theorem dX1_weighGoal_131 : decode cX1_weighGoal 131 = .ok (.if_icmp .ge 26, 3) := by decide +kernel
theorem dX1_weighGoal_134 : decode cX1_weighGoal 134 = .ok (.aload_n 0, 1) := by decide +kernel
theorem dX1_weighGoal_135 : decode cX1_weighGoal 135 = .ok (.getfield 21, 3) := by decide +kernel
theorem dX1_weighGoal_138 : decode cX1_weighGoal 138 = .ok (.iload_n 1, 1) := by decide +kernel
theorem dX1_weighGoal_139 : decode cX1_weighGoal 139 = .ok (.aload_n 0, 1) := by decide +kernel
theorem dX1_weighGoal_140 : decode cX1_weighGoal 140 = .ok (.getfield 11, 3) := by decide +kernel
theorem dX1_weighGoal_143 : decode cX1_weighGoal 143 = .ok (.iload_n 1, 1) := by decide +kernel
theorem dX1_weighGoal_144 : decode cX1_weighGoal 144 = .ok (.aaload, 1) := by decide +kernel
theorem dX1_weighGoal_145 : decode cX1_weighGoal 145 = .ok (.bipush 6, 2) := by decide +kernel
theorem dX1_weighGoal_147 : decode cX1_weighGoal 147 = .ok (.iaload, 1) := by decide +kernel
theorem dX1_weighGoal_148 : decode cX1_weighGoal 148 = .ok (.invokevirtual 109, 3) := by decide +kernel
theorem dX1_weighGoal_151 : decode cX1_weighGoal 151 = .ok (.iinc 1 1, 3) := by decide +kernel
theorem dX1_weighGoal_154 : decode cX1_weighGoal 154 = .ok (.goto (-28), 3) := by decide +kernel
theorem dX1_weighGoal_157 : decode cX1_weighGoal 157 = .ok (.return_, 1) := by decide +kernel
set_option maxRecDepth 20000 in
theorem ggX1_weighRanking_X0_clear : GoodIn wsX1_weighRanking wsX0_clear := goodIn_r _ [9, 10, 11, 12, 13, 14, 15, 16, 17, 18, 19, 20, 21, 22, 23, 24, 25, 26, 27, 8, 28, 29, 30, 31, 32, 33, 34, 35, 36, 37, 38, 39, 55, 56, 57, 58, 59, 60, 61] (by decide +kernel) (by decide +kernel)
set_option maxRecDepth 20000 in
theorem gX1_weighRanking_X0_clear : GoodIn wsX1_weighRanking (wsV RX1 98 RX0 yX0_clear wsX0_clear) := goodIn_app (goodIn_of _ (by decide +kernel)) ggX1_weighRanking_X0_clear
set_option maxRecDepth 20000 in
theorem ggX1_weighRanking_X0_put : GoodIn wsX1_weighRanking wsX0_put := goodIn_r _ [43, 16, 55, 56, 57, 58, 59, 60, 61] (by decide +kernel) (by decide +kernel)
set_option maxRecDepth 20000 in
theorem gX1_weighRanking_X0_put : GoodIn wsX1_weighRanking (wsV RX1 102 RX0 yX0_put wsX0_put) := goodIn_app (goodIn_of _ (by decide +kernel)) ggX1_weighRanking_X0_put
set_option maxRecDepth 20000 in
theorem ggX1_weighRanking_X0_putCost : GoodIn wsX1_weighRanking wsX0_putCost := goodIn_r _ [47, 16, 14, 55, 56, 57, 58, 59, 60, 61] (by decide +kernel) (by decide +kernel)
set_option maxRecDepth 20000 in
theorem gX1_weighRanking_X0_putCost : GoodIn wsX1_weighRanking (wsV RX1 109 RX0 yX0_putCost wsX0_putCost) := goodIn_app (goodIn_of _ (by decide +kernel)) ggX1_weighRanking_X0_putCost
theorem dX1_weighRanking_0 : decode cX1_weighRanking 0 = .ok (.aload_n 0, 1) := by decide +kernel
theorem dX1_weighRanking_1 : decode cX1_weighRanking 1 = .ok (.getfield 21, 3) := by decide +kernel
theorem dX1_weighRanking_4 : decode cX1_weighRanking 4 = .ok (.iconst 3, 1) := by decide +kernel
theorem dX1_weighRanking_5 : decode cX1_weighRanking 5 = .ok (.aload_n 0, 1) := by decide +kernel
theorem dX1_weighRanking_6 : decode cX1_weighRanking 6 = .ok (.getfield 25, 3) := by decide +kernel
theorem dX1_weighRanking_9 : decode cX1_weighRanking 9 = .ok (.imul, 1) := by decide +kernel
theorem dX1_weighRanking_10 : decode cX1_weighRanking 10 = .ok (.iconst 2, 1) := by decide +kernel
theorem dX1_weighRanking_11 : decode cX1_weighRanking 11 = .ok (.aload_n 0, 1) := by decide +kernel
theorem dX1_weighRanking_12 : decode cX1_weighRanking 12 = .ok (.getfield 29, 3) := by decide +kernel
theorem dX1_weighRanking_15 : decode cX1_weighRanking 15 = .ok (.imul, 1) := by decide +kernel
theorem dX1_weighRanking_16 : decode cX1_weighRanking 16 = .ok (.invokevirtual 98, 3) := by decide +kernel
theorem dX1_weighRanking_19 : decode cX1_weighRanking 19 = .ok (.iconst 0, 1) := by decide +kernel
theorem dX1_weighRanking_20 : decode cX1_weighRanking 20 = .ok (.istore_n 1, 1) := by decide +kernel
theorem dX1_weighRanking_21 : decode cX1_weighRanking 21 = .ok (.iload_n 1, 1) := by decide +kernel
theorem dX1_weighRanking_22 : decode cX1_weighRanking 22 = .ok (.aload_n 0, 1) := by decide +kernel
theorem dX1_weighRanking_23 : decode cX1_weighRanking 23 = .ok (.getfield 25, 3) := by decide +kernel
theorem dX1_weighRanking_26 : decode cX1_weighRanking 26 = .ok (.if_icmp .ge 129, 3) := by decide +kernel
theorem dX1_weighRanking_29 : decode cX1_weighRanking 29 = .ok (.aload_n 0, 1) := by decide +kernel
theorem dX1_weighRanking_30 : decode cX1_weighRanking 30 = .ok (.getfield 25, 3) := by decide +kernel
theorem dX1_weighRanking_33 : decode cX1_weighRanking 33 = .ok (.iload_n 1, 1) := by decide +kernel
theorem dX1_weighRanking_34 : decode cX1_weighRanking 34 = .ok (.iadd, 1) := by decide +kernel
theorem dX1_weighRanking_35 : decode cX1_weighRanking 35 = .ok (.istore_n 2, 1) := by decide +kernel
theorem dX1_weighRanking_36 : decode cX1_weighRanking 36 = .ok (.iconst 2, 1) := by decide +kernel
theorem dX1_weighRanking_37 : decode cX1_weighRanking 37 = .ok (.aload_n 0, 1) := by decide +kernel
theorem dX1_weighRanking_38 : decode cX1_weighRanking 38 = .ok (.getfield 25, 3) := by decide +kernel
theorem dX1_weighRanking_41 : decode cX1_weighRanking 41 = .ok (.imul, 1) := by decide +kernel
theorem dX1_weighRanking_42 : decode cX1_weighRanking 42 = .ok (.iload_n 1, 1) := by decide +kernel
theorem dX1_weighRanking_43 : decode cX1_weighRanking 43 = .ok (.iadd, 1) := by decide +kernel
theorem dX1_weighRanking_44 : decode cX1_weighRanking 44 = .ok (.istore_n 3, 1) := by decide +kernel
theorem dX1_weighRanking_45 : decode cX1_weighRanking 45 = .ok (.iconst 0, 1) := by decide +kernel
theorem dX1_weighRanking_46 : decode cX1_weighRanking 46 = .ok (.istore 4, 2) := by decide +kernel
theorem dX1_weighRanking_48 : decode cX1_weighRanking 48 = .ok (.iload 4, 2) := by decide +kernel
theorem dX1_weighRanking_50 : decode cX1_weighRanking 50 = .ok (.aload_n 0, 1) := by decide +kernel
theorem dX1_weighRanking_51 : decode cX1_weighRanking 51 = .ok (.getfield 29, 3) := by decide +kernel
theorem dX1_weighRanking_54 : decode cX1_weighRanking 54 = .ok (.if_icmp .ge 95, 3) := by decide +kernel
theorem dX1_weighRanking_57 : decode cX1_weighRanking 57 = .ok (.aload_n 0, 1) := by decide +kernel
theorem dX1_weighRanking_58 : decode cX1_weighRanking 58 = .ok (.getfield 11, 3) := by decide +kernel
theorem dX1_weighRanking_61 : decode cX1_weighRanking 61 = .ok (.iload 4, 2) := by decide +kernel
theorem dX1_weighRanking_63 : decode cX1_weighRanking 63 = .ok (.aaload, 1) := by decide +kernel
theorem dX1_weighRanking_64 : decode cX1_weighRanking 64 = .ok (.iload_n 1, 1) := by decide +kernel
theorem dX1_weighRanking_65 : decode cX1_weighRanking 65 = .ok (.iaload, 1) := by decide +kernel
theorem dX1_weighRanking_66 : decode cX1_weighRanking 66 = .ok (.istore 5, 2) := by decide +kernel
theorem dX1_weighRanking_68 : decode cX1_weighRanking 68 = .ok (.aload_n 0, 1) := by decide +kernel
theorem dX1_weighRanking_69 : decode cX1_weighRanking 69 = .ok (.getfield 11, 3) := by decide +kernel
theorem dX1_weighRanking_72 : decode cX1_weighRanking 72 = .ok (.iload 4, 2) := by decide +kernel
theorem dX1_weighRanking_74 : decode cX1_weighRanking 74 = .ok (.aaload, 1) := by decide +kernel
theorem dX1_weighRanking_75 : decode cX1_weighRanking 75 = .ok (.iconst 3, 1) := by decide +kernel
theorem dX1_weighRanking_76 : decode cX1_weighRanking 76 = .ok (.iload_n 1, 1) := by decide +kernel
theorem dX1_weighRanking_77 : decode cX1_weighRanking 77 = .ok (.iadd, 1) := by decide +kernel
theorem dX1_weighRanking_78 : decode cX1_weighRanking 78 = .ok (.iaload, 1) := by decide +kernel
theorem dX1_weighRanking_79 : decode cX1_weighRanking 79 = .ok (.istore 6, 2) := by decide +kernel
theorem dX1_weighRanking_81 : decode cX1_weighRanking 81 = .ok (.aload_n 0, 1) := by decide +kernel
theorem dX1_weighRanking_82 : decode cX1_weighRanking 82 = .ok (.getfield 21, 3) := by decide +kernel
theorem dX1_weighRanking_85 : decode cX1_weighRanking 85 = .ok (.iload_n 1, 1) := by decide +kernel
theorem dX1_weighRanking_86 : decode cX1_weighRanking 86 = .ok (.iload 4, 2) := by decide +kernel
theorem dX1_weighRanking_88 : decode cX1_weighRanking 88 = .ok (.iload 6, 2) := by decide +kernel
theorem dX1_weighRanking_90 : decode cX1_weighRanking 90 = .ok (.invokevirtual 102, 3) := by decide +kernel
theorem dX1_weighRanking_93 : decode cX1_weighRanking 93 = .ok (.aload_n 0, 1) := by decide +kernel
theorem dX1_weighRanking_94 : decode cX1_weighRanking 94 = .ok (.getfield 21, 3) := by decide +kernel
theorem dX1_weighRanking_97 : decode cX1_weighRanking 97 = .ok (.iload_n 2, 1) := by decide +kernel
theorem dX1_weighRanking_98 : decode cX1_weighRanking 98 = .ok (.iload 4, 2) := by decide +kernel
theorem dX1_weighRanking_100 : decode cX1_weighRanking 100 = .ok (.iload 5, 2) := by decide +kernel
theorem dX1_weighRanking_102 : decode cX1_weighRanking 102 = .ok (.ineg, 1) := by decide +kernel
theorem dX1_weighRanking_103 : decode cX1_weighRanking 103 = .ok (.invokevirtual 102, 3) := by decide +kernel
theorem dX1_weighRanking_106 : decode cX1_weighRanking 106 = .ok (.aload_n 0, 1) := by decide +kernel
theorem dX1_weighRanking_107 : decode cX1_weighRanking 107 = .ok (.getfield 21, 3) := by decide +kernel
theorem dX1_weighRanking_110 : decode cX1_weighRanking 110 = .ok (.iload_n 2, 1) := by decide +kernel
theorem dX1_weighRanking_111 : decode cX1_weighRanking 111 = .ok (.aload_n 0, 1) := by decide +kernel
theorem dX1_weighRanking_112 : decode cX1_weighRanking 112 = .ok (.getfield 29, 3) := by decide +kernel
theorem dX1_weighRanking_115 : decode cX1_weighRanking 115 = .ok (.iload 4, 2) := by decide +kernel
theorem dX1_weighRanking_117 : decode cX1_weighRanking 117 = .ok (.iadd, 1) := by decide +kernel
theorem dX1_weighRanking_118 : decode cX1_weighRanking 118 = .ok (.iload 5, 2) := by decide +kernel
theorem dX1_weighRanking_120 : decode cX1_weighRanking 120 = .ok (.invokevirtual 102, 3) := by decide +kernel
theorem dX1_weighRanking_123 : decode cX1_weighRanking 123 = .ok (.aload_n 0, 1) := by decide +kernel
theorem dX1_weighRanking_124 : decode cX1_weighRanking 124 = .ok (.getfield 21, 3) := by decide +kernel
theorem dX1_weighRanking_127 : decode cX1_weighRanking 127 = .ok (.iload_n 3, 1) := by decide +kernel
theorem dX1_weighRanking_128 : decode cX1_weighRanking 128 = .ok (.aload_n 0, 1) := by decide +kernel
theorem dX1_weighRanking_129 : decode cX1_weighRanking 129 = .ok (.getfield 29, 3) := by decide +kernel
theorem dX1_weighRanking_132 : decode cX1_weighRanking 132 = .ok (.iload 4, 2) := by decide +kernel
theorem dX1_weighRanking_134 : decode cX1_weighRanking 134 = .ok (.iadd, 1) := by decide +kernel
theorem dX1_weighRanking_135 : decode cX1_weighRanking 135 = .ok (.iload 5, 2) := by decide +kernel
theorem dX1_weighRanking_137 : decode cX1_weighRanking 137 = .ok (.iload 6, 2) := by decide +kernel
theorem dX1_weighRanking_139 : decode cX1_weighRanking 139 = .ok (.iadd, 1) := by decide +kernel
theorem dX1_weighRanking_140 : decode cX1_weighRanking 140 = .ok (.invokevirtual 102, 3) := by decide +kernel
theorem dX1_weighRanking_143 : decode cX1_weighRanking 143 = .ok (.iinc 4 1, 3) := by decide +kernel
theorem dX1_weighRanking_146 : decode cX1_weighRanking 146 = .ok (.goto (-98), 3) := by decide +kernel
theorem dX1_weighRanking_149 : decode cX1_weighRanking 149 = .ok (.iinc 1 1, 3) := by decide +kernel
theorem dX1_weighRanking_152 : decode cX1_weighRanking 152 = .ok (.goto (-131), 3) := by decide +kernel
theorem dX1_weighRanking_155 : decode cX1_weighRanking 155 = .ok (.iconst 0, 1) := by decide +kernel
theorem dX1_weighRanking_156 : decode cX1_weighRanking 156 = .ok (.istore_n 1, 1) := by decide +kernel
theorem dX1_weighRanking_157 : decode cX1_weighRanking 157 = .ok (.iload_n 1, 1) := by decide +kernel
theorem dX1_weighRanking_158 : decode cX1_weighRanking 158 = .ok (.aload_n 0, 1) := by decide +kernel
theorem dX1_weighRanking_159 : decode cX1_weighRanking 159 = .ok (.getfield 29, 3) := by decide +kernel
theorem dX1_weighRanking_162 : decode cX1_weighRanking 162 = .ok (.if_icmp .ge 31, 3) := by decide +kernel
theorem dX1_weighRanking_165 : decode cX1_weighRanking 165 = .ok (.aload_n 0, 1) := by decide +kernel
theorem dX1_weighRanking_166 : decode cX1_weighRanking 166 = .ok (.getfield 21, 3) := by decide +kernel
theorem dX1_weighRanking_169 : decode cX1_weighRanking 169 = .ok (.aload_n 0, 1) := by decide +kernel
theorem dX1_weighRanking_170 : decode cX1_weighRanking 170 = .ok (.getfield 29, 3) := by decide +kernel
theorem dX1_weighRanking_173 : decode cX1_weighRanking 173 = .ok (.iload_n 1, 1) := by decide +kernel
theorem dX1_weighRanking_174 : decode cX1_weighRanking 174 = .ok (.iadd, 1) := by decide +kernel
theorem dX1_weighRanking_175 : decode cX1_weighRanking 175 = .ok (.aload_n 0, 1) := by decide +kernel
theorem dX1_weighRanking_176 : decode cX1_weighRanking 176 = .ok (.getfield 11, 3) := by decide +kernel
theorem dX1_weighRanking_179 : decode cX1_weighRanking 179 = .ok (.iload_n 1, 1) := by decide +kernel
theorem dX1_weighRanking_180 : decode cX1_weighRanking 180 = .ok (.aaload, 1) := by decide +kernel
theorem dX1_weighRanking_181 : decode cX1_weighRanking 181 = .ok (.bipush 6, 2) := by decide +kernel
theorem dX1_weighRanking_183 : decode cX1_weighRanking 183 = .ok (.iaload, 1) := by decide +kernel
theorem dX1_weighRanking_184 : decode cX1_weighRanking 184 = .ok (.invokevirtual 109, 3) := by decide +kernel
theorem dX1_weighRanking_187 : decode cX1_weighRanking 187 = .ok (.iinc 1 1, 3) := by decide +kernel
theorem dX1_weighRanking_190 : decode cX1_weighRanking 190 = .ok (.goto (-33), 3) := by decide +kernel
theorem dX1_weighRanking_193 : decode cX1_weighRanking 193 = .ok (.return_, 1) := by decide +kernel
theorem dX1_commonFactor_0 : decode cX1_commonFactor 0 = .ok (.lload_n 0, 1) := by decide +kernel
theorem dX1_commonFactor_1 : decode cX1_commonFactor 1 = .ok (.invokestatic 112, 3) := by decide +kernel
theorem dX1_commonFactor_4 : decode cX1_commonFactor 4 = .ok (.lstore 4, 2) := by decide +kernel
theorem dX1_commonFactor_6 : decode cX1_commonFactor 6 = .ok (.lload_n 2, 1) := by decide +kernel
theorem dX1_commonFactor_7 : decode cX1_commonFactor 7 = .ok (.invokestatic 112, 3) := by decide +kernel
theorem dX1_commonFactor_10 : decode cX1_commonFactor 10 = .ok (.lstore 6, 2) := by decide +kernel
theorem dX1_commonFactor_12 : decode cX1_commonFactor 12 = .ok (.iconst 0, 1) := by decide +kernel
theorem dX1_commonFactor_13 : decode cX1_commonFactor 13 = .ok (.istore 8, 2) := by decide +kernel
theorem dX1_commonFactor_15 : decode cX1_commonFactor 15 = .ok (.iload 8, 2) := by decide +kernel
theorem dX1_commonFactor_17 : decode cX1_commonFactor 17 = .ok (.sipush 1000, 3) := by decide +kernel
theorem dX1_commonFactor_20 : decode cX1_commonFactor 20 = .ok (.if_icmp .ge 31, 3) := by decide +kernel
theorem dX1_commonFactor_23 : decode cX1_commonFactor 23 = .ok (.lload 6, 2) := by decide +kernel
theorem dX1_commonFactor_25 : decode cX1_commonFactor 25 = .ok (.lconst 0, 1) := by decide +kernel
theorem dX1_commonFactor_26 : decode cX1_commonFactor 26 = .ok (.lcmp, 1) := by decide +kernel
theorem dX1_commonFactor_27 : decode cX1_commonFactor 27 = .ok (.ifCond .eq 24, 3) := by decide +kernel
theorem dX1_commonFactor_30 : decode cX1_commonFactor 30 = .ok (.lload 4, 2) := by decide +kernel
theorem dX1_commonFactor_32 : decode cX1_commonFactor 32 = .ok (.lload 6, 2) := by decide +kernel
theorem dX1_commonFactor_34 : decode cX1_commonFactor 34 = .ok (.lrem, 1) := by decide +kernel
theorem dX1_commonFactor_35 : decode cX1_commonFactor 35 = .ok (.lstore 9, 2) := by decide +kernel
theorem dX1_commonFactor_37 : decode cX1_commonFactor 37 = .ok (.lload 6, 2) := by decide +kernel
theorem dX1_commonFactor_39 : decode cX1_commonFactor 39 = .ok (.lstore 4, 2) := by decide +kernel
theorem dX1_commonFactor_41 : decode cX1_commonFactor 41 = .ok (.lload 9, 2) := by decide +kernel
theorem dX1_commonFactor_43 : decode cX1_commonFactor 43 = .ok (.lstore 6, 2) := by decide +kernel
theorem dX1_commonFactor_45 : decode cX1_commonFactor 45 = .ok (.iinc 8 1, 3) := by decide +kernel
theorem dX1_commonFactor_48 : decode cX1_commonFactor 48 = .ok (.goto (-33), 3) := by decide +kernel
theorem dX1_commonFactor_51 : decode cX1_commonFactor 51 = .ok (.lload 4, 2) := by decide +kernel
theorem dX1_commonFactor_53 : decode cX1_commonFactor 53 = .ok (.lconst 1, 1) := by decide +kernel
theorem dX1_commonFactor_54 : decode cX1_commonFactor 54 = .ok (.invokestatic 118, 3) := by decide +kernel
theorem dX1_commonFactor_57 : decode cX1_commonFactor 57 = .ok (.lreturn, 1) := by decide +kernel
end
section
theorem dX2_init_0 : decode cX2_init 0 = .ok (.aload_n 0, 1) := by decide +kernel
theorem dX2_init_1 : decode cX2_init 1 = .ok (.invokespecial 1, 3) := by decide +kernel
theorem dX2_init_4 : decode cX2_init 4 = .ok (.aload_n 0, 1) := by decide +kernel
theorem dX2_init_5 : decode cX2_init 5 = .ok (.iconst 1, 1) := by decide +kernel
theorem dX2_init_6 : decode cX2_init 6 = .ok (.putfield 7, 3) := by decide +kernel
theorem dX2_init_9 : decode cX2_init 9 = .ok (.aload_n 0, 1) := by decide +kernel
theorem dX2_init_10 : decode cX2_init 10 = .ok (.bipush 56, 2) := by decide +kernel
theorem dX2_init_12 : decode cX2_init 12 = .ok (.newarray .int, 2) := by decide +kernel
theorem dX2_init_14 : decode cX2_init 14 = .ok (.putfield 13, 3) := by decide +kernel
theorem dX2_init_17 : decode cX2_init 17 = .ok (.aload_n 0, 1) := by decide +kernel
theorem dX2_init_18 : decode cX2_init 18 = .ok (.sipush 13200, 3) := by decide +kernel
theorem dX2_init_21 : decode cX2_init 21 = .ok (.newarray .long, 2) := by decide +kernel
theorem dX2_init_23 : decode cX2_init 23 = .ok (.putfield 17, 3) := by decide +kernel
theorem dX2_init_26 : decode cX2_init 26 = .ok (.aload_n 0, 1) := by decide +kernel
theorem dX2_init_27 : decode cX2_init 27 = .ok (.sipush 13200, 3) := by decide +kernel
theorem dX2_init_30 : decode cX2_init 30 = .ok (.newarray .long, 2) := by decide +kernel
theorem dX2_init_32 : decode cX2_init 32 = .ok (.putfield 21, 3) := by decide +kernel
theorem dX2_init_35 : decode cX2_init 35 = .ok (.aload_n 0, 1) := by decide +kernel
theorem dX2_init_36 : decode cX2_init 36 = .ok (.sipush 1200, 3) := by decide +kernel
theorem dX2_init_39 : decode cX2_init 39 = .ok (.newarray .int, 2) := by decide +kernel
theorem dX2_init_41 : decode cX2_init 41 = .ok (.putfield 24, 3) := by decide +kernel
theorem dX2_init_44 : decode cX2_init 44 = .ok (.aload_n 0, 1) := by decide +kernel
theorem dX2_init_45 : decode cX2_init 45 = .ok (.sipush 1200, 3) := by decide +kernel
theorem dX2_init_48 : decode cX2_init 48 = .ok (.newarray .int, 2) := by decide +kernel
theorem dX2_init_50 : decode cX2_init 50 = .ok (.putfield 27, 3) := by decide +kernel
theorem dX2_init_53 : decode cX2_init 53 = .ok (.aload_n 0, 1) := by decide +kernel
theorem dX2_init_54 : decode cX2_init 54 = .ok (.bipush 11, 2) := by decide +kernel
theorem dX2_init_56 : decode cX2_init 56 = .ok (.newarray .long, 2) := by decide +kernel
theorem dX2_init_58 : decode cX2_init 58 = .ok (.putfield 30, 3) := by decide +kernel
theorem dX2_init_61 : decode cX2_init 61 = .ok (.aload_n 0, 1) := by decide +kernel
theorem dX2_init_62 : decode cX2_init 62 = .ok (.bipush 11, 2) := by decide +kernel
theorem dX2_init_64 : decode cX2_init 64 = .ok (.newarray .long, 2) := by decide +kernel
theorem dX2_init_66 : decode cX2_init 66 = .ok (.putfield 33, 3) := by decide +kernel
theorem dX2_init_69 : decode cX2_init 69 = .ok (.aload_n 0, 1) := by decide +kernel
theorem dX2_init_70 : decode cX2_init 70 = .ok (.bipush 6, 2) := by decide +kernel
theorem dX2_init_72 : decode cX2_init 72 = .ok (.newarray .int, 2) := by decide +kernel
theorem dX2_init_74 : decode cX2_init 74 = .ok (.putfield 36, 3) := by decide +kernel
theorem dX2_init_77 : decode cX2_init 77 = .ok (.return_, 1) := by decide +kernel
theorem dX2_begin_0 : decode cX2_begin 0 = .ok (.iload_n 1, 1) := by decide +kernel
theorem dX2_begin_1 : decode cX2_begin 1 = .ok (.iconst 1, 1) := by decide +kernel
theorem dX2_begin_2 : decode cX2_begin 2 = .ok (.if_icmp .lt 8, 3) := by decide +kernel
theorem dX2_begin_5 : decode cX2_begin 5 = .ok (.iload_n 1, 1) := by decide +kernel
theorem dX2_begin_6 : decode cX2_begin 6 = .ok (.iconst 3, 1) := by decide +kernel
theorem dX2_begin_7 : decode cX2_begin 7 = .ok (.if_icmp .le 5, 3) := by decide +kernel
theorem dX2_begin_10 : decode cX2_begin 10 = .ok (.iconst 0, 1) := by decide +kernel
theorem dX2_begin_11 : decode cX2_begin 11 = .ok (.ireturn, 1) := by decide +kernel
theorem dX2_begin_12 : decode cX2_begin 12 = .ok (.aload_n 0, 1) := by decide +kernel
theorem dX2_begin_13 : decode cX2_begin 13 = .ok (.iload_n 1, 1) := by decide +kernel
theorem dX2_begin_14 : decode cX2_begin 14 = .ok (.putfield 7, 3) := by decide +kernel
theorem dX2_begin_17 : decode cX2_begin 17 = .ok (.aload_n 0, 1) := by decide +kernel
theorem dX2_begin_18 : decode cX2_begin 18 = .ok (.iconst 0, 1) := by decide +kernel
theorem dX2_begin_19 : decode cX2_begin 19 = .ok (.putfield 39, 3) := by decide +kernel
theorem dX2_begin_22 : decode cX2_begin 22 = .ok (.iconst 1, 1) := by decide +kernel
theorem dX2_begin_23 : decode cX2_begin 23 = .ok (.ireturn, 1) := by decide +kernel
theorem dX2_isSmall_0 : decode cX2_isSmall 0 = .ok (.iload_n 0, 1) := by decide +kernel
theorem dX2_isSmall_1 : decode cX2_isSmall 1 = .ok (.iload_n 1, 1) := by decide +kernel
theorem dX2_isSmall_2 : decode cX2_isSmall 2 = .ok (.ineg, 1) := by decide +kernel
theorem dX2_isSmall_3 : decode cX2_isSmall 3 = .ok (.if_icmp .lt 12, 3) := by decide +kernel
theorem dX2_isSmall_6 : decode cX2_isSmall 6 = .ok (.iload_n 0, 1) := by decide +kernel
theorem dX2_isSmall_7 : decode cX2_isSmall 7 = .ok (.iload_n 1, 1) := by decide +kernel
theorem dX2_isSmall_8 : decode cX2_isSmall 8 = .ok (.if_icmp .gt 7, 3) := by decide +kernel
theorem dX2_isSmall_11 : decode cX2_isSmall 11 = .ok (.iconst 1, 1) := by decide +kernel
theorem dX2_isSmall_12 : decode cX2_isSmall 12 = .ok (.goto 4, 3) := by decide +kernel
theorem dX2_isSmall_15 : decode cX2_isSmall 15 = .ok (.iconst 0, 1) := by decide +kernel
theorem dX2_isSmall_16 : decode cX2_isSmall 16 = .ok (.ireturn, 1) := by decide +kernel
set_option maxRecDepth 20000 in
theorem ggX2_rule_X2_isSmall : GoodIn wsX2_rule wsX2_isSmall := goodIn_r _ [6] (by decide +kernel) (by decide +kernel)
set_option maxRecDepth 20000 in
theorem gX2_rule_X2_isSmall : GoodIn wsX2_rule (va_wsS RX2 42 yX2_isSmall wsX2_isSmall) := goodIn_app (goodIn_of _ (by decide +kernel)) ggX2_rule_X2_isSmall
theorem dX2_rule_0 : decode cX2_rule 0 = .ok (.iload_n 1, 1) := by decide +kernel
theorem dX2_rule_1 : decode cX2_rule 1 = .ok (.bipush 9, 2) := by decide +kernel
theorem dX2_rule_3 : decode cX2_rule 3 = .ok (.invokestatic 42, 3) := by decide +kernel
theorem dX2_rule_6 : decode cX2_rule 6 = .ok (.ifCond .eq 65, 3) := by decide +kernel
theorem dX2_rule_9 : decode cX2_rule 9 = .ok (.iload_n 2, 1) := by decide +kernel
theorem dX2_rule_10 : decode cX2_rule 10 = .ok (.bipush 9, 2) := by decide +kernel
theorem dX2_rule_12 : decode cX2_rule 12 = .ok (.invokestatic 42, 3) := by decide +kernel
theorem dX2_rule_15 : decode cX2_rule 15 = .ok (.ifCond .eq 56, 3) := by decide +kernel
theorem dX2_rule_18 : decode cX2_rule 18 = .ok (.iload_n 3, 1) := by decide +kernel
theorem dX2_rule_19 : decode cX2_rule 19 = .ok (.bipush 9, 2) := by decide +kernel
theorem dX2_rule_21 : decode cX2_rule 21 = .ok (.invokestatic 42, 3) := by decide +kernel
theorem dX2_rule_24 : decode cX2_rule 24 = .ok (.ifCond .eq 47, 3) := by decide +kernel
theorem dX2_rule_27 : decode cX2_rule 27 = .ok (.iload 4, 2) := by decide +kernel
theorem dX2_rule_29 : decode cX2_rule 29 = .ok (.bipush 9, 2) := by decide +kernel
theorem dX2_rule_31 : decode cX2_rule 31 = .ok (.invokestatic 42, 3) := by decide +kernel
theorem dX2_rule_34 : decode cX2_rule 34 = .ok (.ifCond .eq 37, 3) := by decide +kernel
theorem dX2_rule_37 : decode cX2_rule 37 = .ok (.iload 5, 2) := by decide +kernel
theorem dX2_rule_39 : decode cX2_rule 39 = .ok (.bipush 9, 2) := by decide +kernel
theorem dX2_rule_41 : decode cX2_rule 41 = .ok (.invokestatic 42, 3) := by decide +kernel
theorem dX2_rule_44 : decode cX2_rule 44 = .ok (.ifCond .eq 27, 3) := by decide +kernel
theorem dX2_rule_47 : decode cX2_rule 47 = .ok (.iload 6, 2) := by decide +kernel
theorem dX2_rule_49 : decode cX2_rule 49 = .ok (.bipush 9, 2) := by decide +kernel
theorem dX2_rule_51 : decode cX2_rule 51 = .ok (.invokestatic 42, 3) := by decide +kernel
theorem dX2_rule_54 : decode cX2_rule 54 = .ok (.ifCond .eq 17, 3) := by decide +kernel
theorem dX2_rule_57 : decode cX2_rule 57 = .ok (.iload 7, 2) := by decide +kernel
theorem dX2_rule_59 : decode cX2_rule 59 = .ok (.bipush 99, 2) := by decide +kernel
theorem dX2_rule_61 : decode cX2_rule 61 = .ok (.invokestatic 42, 3) := by decide +kernel
theorem dX2_rule_64 : decode cX2_rule 64 = .ok (.ifCond .eq 7, 3) := by decide +kernel
theorem dX2_rule_67 : decode cX2_rule 67 = .ok (.iconst 1, 1) := by decide +kernel
theorem dX2_rule_68 : decode cX2_rule 68 = .ok (.goto 4, 3) := by decide +kernel
theorem dX2_rule_71 : decode cX2_rule 71 = .ok (.iconst 0, 1) := by decide +kernel
theorem dX2_rule_72 : decode cX2_rule 72 = .ok (.istore 8, 2) := by decide +kernel
theorem dX2_rule_74 : decode cX2_rule 74 = .ok (.aload_n 0, 1) := by decide +kernel
theorem dX2_rule_75 : decode cX2_rule 75 = .ok (.getfield 39, 3) := by decide +kernel
theorem dX2_rule_78 : decode cX2_rule 78 = .ok (.bipush 8, 2) := by decide +kernel
theorem dX2_rule_80 : decode cX2_rule 80 = .ok (.if_icmp .eq 8, 3) := by decide +kernel
theorem dX2_rule_83 : decode cX2_rule 83 = .ok (.iload 8, 2) := by decide +kernel
theorem dX2_rule_85 : decode cX2_rule 85 = .ok (.ifCond .ne 5, 3) := by decide +kernel
theorem dX2_rule_88 : decode cX2_rule 88 = .ok (.iconst (-1), 1) := by decide +kernel
theorem dX2_rule_89 : decode cX2_rule 89 = .ok (.ireturn, 1) := by decide +kernel
theorem dX2_rule_90 : decode cX2_rule 90 = .ok (.bipush 7, 2) := by decide +kernel
theorem dX2_rule_92 : decode cX2_rule 92 = .ok (.aload_n 0, 1) := by decide +kernel
theorem dX2_rule_93 : decode cX2_rule 93 = .ok (.getfield 39, 3) := by decide +kernel
theorem dX2_rule_96 : decode cX2_rule 96 = .ok (.imul, 1) := by decide +kernel
theorem dX2_rule_97 : decode cX2_rule 97 = .ok (.istore 9, 2) := by decide +kernel
theorem dX2_rule_99 : decode cX2_rule 99 = .ok (.aload_n 0, 1) := by decide +kernel
theorem dX2_rule_100 : decode cX2_rule 100 = .ok (.getfield 13, 3) := by decide +kernel
theorem dX2_rule_103 : decode cX2_rule 103 = .ok (.iload 9, 2) := by decide +kernel
theorem dX2_rule_105 : decode cX2_rule 105 = .ok (.iload_n 1, 1) := by decide +kernel
theorem dX2_rule_106 : decode cX2_rule 106 = .ok (.iastore, 1) := by decide +kernel
theorem dX2_rule_107 : decode cX2_rule 107 = .ok (.aload_n 0, 1) := by decide +kernel
theorem dX2_rule_108 : decode cX2_rule 108 = .ok (.getfield 13, 3) := by decide +kernel
theorem dX2_rule_111 : decode cX2_rule 111 = .ok (.iload 9, 2) := by decide +kernel
theorem dX2_rule_113 : decode cX2_rule 113 = .ok (.iconst 1, 1) := by decide +kernel
theorem dX2_rule_114 : decode cX2_rule 114 = .ok (.iadd, 1) := by decide +kernel
theorem dX2_rule_115 : decode cX2_rule 115 = .ok (.iload_n 2, 1) := by decide +kernel
theorem dX2_rule_116 : decode cX2_rule 116 = .ok (.iastore, 1) := by decide +kernel
theorem dX2_rule_117 : decode cX2_rule 117 = .ok (.aload_n 0, 1) := by decide +kernel
theorem dX2_rule_118 : decode cX2_rule 118 = .ok (.getfield 13, 3) := by decide +kernel
theorem dX2_rule_121 : decode cX2_rule 121 = .ok (.iload 9, 2) := by decide +kernel
theorem dX2_rule_123 : decode cX2_rule 123 = .ok (.iconst 2, 1) := by decide +kernel
theorem dX2_rule_124 : decode cX2_rule 124 = .ok (.iadd, 1) := by decide +kernel
theorem dX2_rule_125 : decode cX2_rule 125 = .ok (.iload_n 3, 1) := by decide +kernel
theorem dX2_rule_126 : decode cX2_rule 126 = .ok (.iastore, 1) := by decide +kernel
theorem dX2_rule_127 : decode cX2_rule 127 = .ok (.aload_n 0, 1) := by decide +kernel
theorem dX2_rule_128 : decode cX2_rule 128 = .ok (.getfield 13, 3) := by decide +kernel
theorem dX2_rule_131 : decode cX2_rule 131 = .ok (.iload 9, 2) := by decide +kernel
theorem dX2_rule_133 : decode cX2_rule 133 = .ok (.iconst 3, 1) := by decide +kernel
theorem dX2_rule_134 : decode cX2_rule 134 = .ok (.iadd, 1) := by decide +kernel
theorem dX2_rule_135 : decode cX2_rule 135 = .ok (.iload 4, 2) := by decide +kernel
theorem dX2_rule_137 : decode cX2_rule 137 = .ok (.iastore, 1) := by decide +kernel
theorem dX2_rule_138 : decode cX2_rule 138 = .ok (.aload_n 0, 1) := by decide +kernel
theorem dX2_rule_139 : decode cX2_rule 139 = .ok (.getfield 13, 3) := by decide +kernel
theorem dX2_rule_142 : decode cX2_rule 142 = .ok (.iload 9, 2) := by decide +kernel
theorem dX2_rule_144 : decode cX2_rule 144 = .ok (.iconst 4, 1) := by decide +kernel
theorem dX2_rule_145 : decode cX2_rule 145 = .ok (.iadd, 1) := by decide +kernel
theorem dX2_rule_146 : decode cX2_rule 146 = .ok (.iload 5, 2) := by decide +kernel
theorem dX2_rule_148 : decode cX2_rule 148 = .ok (.iastore, 1) := by decide +kernel
theorem dX2_rule_149 : decode cX2_rule 149 = .ok (.aload_n 0, 1) := by decide +kernel
theorem dX2_rule_150 : decode cX2_rule 150 = .ok (.getfield 13, 3) := by decide +kernel
theorem dX2_rule_153 : decode cX2_rule 153 = .ok (.iload 9, 2) := by decide +kernel
theorem dX2_rule_155 : decode cX2_rule 155 = .ok (.iconst 5, 1) := by decide +kernel
theorem dX2_rule_156 : decode cX2_rule 156 = .ok (.iadd, 1) := by decide +kernel
theorem dX2_rule_157 : decode cX2_rule 157 = .ok (.iload 6, 2) := by decide +kernel
theorem dX2_rule_159 : decode cX2_rule 159 = .ok (.iastore, 1) := by decide +kernel
theorem dX2_rule_160 : decode cX2_rule 160 = .ok (.aload_n 0, 1) := by decide +kernel
theorem dX2_rule_161 : decode cX2_rule 161 = .ok (.getfield 13, 3) := by decide +kernel
theorem dX2_rule_164 : decode cX2_rule 164 = .ok (.iload 9, 2) := by decide +kernel
theorem dX2_rule_166 : decode cX2_rule 166 = .ok (.bipush 6, 2) := by decide +kernel
theorem dX2_rule_168 : decode cX2_rule 168 = .ok (.iadd, 1) := by decide +kernel
theorem dX2_rule_169 : decode cX2_rule 169 = .ok (.iload 7, 2) := by decide +kernel
theorem dX2_rule_171 : decode cX2_rule 171 = .ok (.iastore, 1) := by decide +kernel
theorem dX2_rule_172 : decode cX2_rule 172 = .ok (.aload_n 0, 1) := by decide +kernel
theorem dX2_rule_173 : decode cX2_rule 173 = .ok (.dup, 1) := by decide +kernel
theorem dX2_rule_174 : decode cX2_rule 174 = .ok (.getfield 39, 3) := by decide +kernel
theorem dX2_rule_177 : decode cX2_rule 177 = .ok (.iconst 1, 1) := by decide +kernel
theorem dX2_rule_178 : decode cX2_rule 178 = .ok (.iadd, 1) := by decide +kernel
theorem dX2_rule_179 : decode cX2_rule 179 = .ok (.putfield 39, 3) := by decide +kernel
theorem dX2_rule_182 : decode cX2_rule 182 = .ok (.aload_n 0, 1) := by decide +kernel
theorem dX2_rule_183 : decode cX2_rule 183 = .ok (.getfield 39, 3) := by decide +kernel
theorem dX2_rule_186 : decode cX2_rule 186 = .ok (.iconst 1, 1) := by decide +kernel
theorem dX2_rule_187 : decode cX2_rule 187 = .ok (.isub, 1) := by decide +kernel
theorem dX2_rule_188 : decode cX2_rule 188 = .ok (.ireturn, 1) := by decide +kernel
theorem dX2_drop_0 : decode cX2_drop 0 = .ok (.iload_n 1, 1) := by decide +kernel
theorem dX2_drop_1 : decode cX2_drop 1 = .ok (.ifCond .lt 11, 3) := by decide +kernel
theorem dX2_drop_4 : decode cX2_drop 4 = .ok (.iload_n 1, 1) := by decide +kernel
theorem dX2_drop_5 : decode cX2_drop 5 = .ok (.aload_n 0, 1) := by decide +kernel
theorem dX2_drop_6 : decode cX2_drop 6 = .ok (.getfield 39, 3) := by decide +kernel
theorem dX2_drop_9 : decode cX2_drop 9 = .ok (.if_icmp .lt 5, 3) := by decide +kernel
theorem dX2_drop_12 : decode cX2_drop 12 = .ok (.iconst 0, 1) := by decide +kernel
theorem dX2_drop_13 : decode cX2_drop 13 = .ok (.ireturn, 1) := by decide +kernel
theorem dX2_drop_14 : decode cX2_drop 14 = .ok (.aload_n 0, 1) := by decide +kernel
theorem dX2_drop_15 : decode cX2_drop 15 = .ok (.dup, 1) := by decide +kernel
theorem dX2_drop_16 : decode cX2_drop 16 = .ok (.getfield 39, 3) := by decide +kernel
theorem dX2_drop_19 : decode cX2_drop 19 = .ok (.iconst 1, 1) := by decide +kernel
theorem dX2_drop_20 : decode cX2_drop 20 = .ok (.isub, 1) := by decide +kernel
theorem dX2_drop_21 : decode cX2_drop 21 = .ok (.putfield 39, 3) := by decide +kernel
theorem dX2_drop_24 : decode cX2_drop 24 = .ok (.bipush 7, 2) := by decide +kernel
theorem dX2_drop_26 : decode cX2_drop 26 = .ok (.iload_n 1, 1) := by decide +kernel
theorem dX2_drop_27 : decode cX2_drop 27 = .ok (.imul, 1) := by decide +kernel
theorem dX2_drop_28 : decode cX2_drop 28 = .ok (.istore_n 2, 1) := by decide +kernel
theorem dX2_drop_29 : decode cX2_drop 29 = .ok (.iload_n 2, 1) := by decide +kernel
theorem dX2_drop_30 : decode cX2_drop 30 = .ok (.bipush 7, 2) := by decide +kernel
theorem dX2_drop_32 : decode cX2_drop 32 = .ok (.aload_n 0, 1) := by decide +kernel
theorem dX2_drop_33 : decode cX2_drop 33 = .ok (.getfield 39, 3) := by decide +kernel
theorem dX2_drop_36 : decode cX2_drop 36 = .ok (.imul, 1) := by decide +kernel
theorem dX2_drop_37 : decode cX2_drop 37 = .ok (.if_icmp .ge 24, 3) := by decide +kernel
theorem dX2_drop_40 : decode cX2_drop 40 = .ok (.aload_n 0, 1) := by decide +kernel
theorem dX2_drop_41 : decode cX2_drop 41 = .ok (.getfield 13, 3) := by decide +kernel
theorem dX2_drop_44 : decode cX2_drop 44 = .ok (.iload_n 2, 1) := by decide +kernel
theorem dX2_drop_45 : decode cX2_drop 45 = .ok (.aload_n 0, 1) := by decide +kernel
theorem dX2_drop_46 : decode cX2_drop 46 = .ok (.getfield 13, 3) := by decide +kernel
theorem dX2_drop_49 : decode cX2_drop 49 = .ok (.iload_n 2, 1) := by decide +kernel
theorem dX2_drop_50 : decode cX2_drop 50 = .ok (.bipush 7, 2) := by decide +kernel
theorem dX2_drop_52 : decode cX2_drop 52 = .ok (.iadd, 1) := by decide +kernel
theorem dX2_drop_53 : decode cX2_drop 53 = .ok (.iaload, 1) := by decide +kernel
theorem dX2_drop_54 : decode cX2_drop 54 = .ok (.iastore, 1) := by decide +kernel
theorem dX2_drop_55 : decode cX2_drop 55 = .ok (.iinc 2 1, 3) := by decide +kernel
theorem dX2_drop_58 : decode cX2_drop 58 = .ok (.goto (-29), 3) := by decide +kernel
theorem dX2_drop_61 : decode cX2_drop 61 = .ok (.iconst 1, 1) := by decide +kernel
theorem dX2_drop_62 : decode cX2_drop 62 = .ok (.ireturn, 1) := by decide +kernel
theorem dX2_rules_0 : decode cX2_rules 0 = .ok (.aload_n 0, 1) := by decide +kernel
theorem dX2_rules_1 : decode cX2_rules 1 = .ok (.getfield 39, 3) := by decide +kernel
theorem dX2_rules_4 : decode cX2_rules 4 = .ok (.ireturn, 1) := by decide +kernel
theorem dX2_number_0 : decode cX2_number 0 = .ok (.iload_n 1, 1) := by decide +kernel
theorem dX2_number_1 : decode cX2_number 1 = .ok (.ifCond .lt 35, 3) := by decide +kernel
theorem dX2_number_4 : decode cX2_number 4 = .ok (.iload_n 1, 1) := by decide +kernel
theorem dX2_number_5 : decode cX2_number 5 = .ok (.aload_n 0, 1) := by decide +kernel
theorem dX2_number_6 : decode cX2_number 6 = .ok (.getfield 39, 3) := by decide +kernel
theorem dX2_number_9 : decode cX2_number 9 = .ok (.if_icmp .ge 27, 3) := by decide +kernel
theorem dX2_number_12 : decode cX2_number 12 = .ok (.iload_n 2, 1) := by decide +kernel
theorem dX2_number_13 : decode cX2_number 13 = .ok (.ifCond .lt 23, 3) := by decide +kernel
theorem dX2_number_16 : decode cX2_number 16 = .ok (.iload_n 2, 1) := by decide +kernel
theorem dX2_number_17 : decode cX2_number 17 = .ok (.bipush 7, 2) := by decide +kernel
theorem dX2_number_19 : decode cX2_number 19 = .ok (.if_icmp .ge 17, 3) := by decide +kernel
theorem dX2_number_22 : decode cX2_number 22 = .ok (.aload_n 0, 1) := by decide +kernel
theorem dX2_number_23 : decode cX2_number 23 = .ok (.getfield 13, 3) := by decide +kernel
theorem dX2_number_26 : decode cX2_number 26 = .ok (.bipush 7, 2) := by decide +kernel
theorem dX2_number_28 : decode cX2_number 28 = .ok (.iload_n 1, 1) := by decide +kernel
theorem dX2_number_29 : decode cX2_number 29 = .ok (.imul, 1) := by decide +kernel
theorem dX2_number_30 : decode cX2_number 30 = .ok (.iload_n 2, 1) := by decide +kernel
theorem dX2_number_31 : decode cX2_number 31 = .ok (.iadd, 1) := by decide +kernel
theorem dX2_number_32 : decode cX2_number 32 = .ok (.iaload, 1) := by decide +kernel
theorem dX2_number_33 : decode cX2_number 33 = .ok (.goto 4, 3) := by decide +kernel
theorem dX2_number_36 : decode cX2_number 36 = .ok (.iconst 0, 1) := by decide +kernel
theorem dX2_number_37 : decode cX2_number 37 = .ok (.ireturn, 1) := by decide +kernel
theorem dX2_keeps_0 : decode cX2_keeps 0 = .ok (.iconst 1, 1) := by decide +kernel
theorem dX2_keeps_1 : decode cX2_keeps 1 = .ok (.istore 7, 2) := by decide +kernel
theorem dX2_keeps_3 : decode cX2_keeps 3 = .ok (.iconst 0, 1) := by decide +kernel
theorem dX2_keeps_4 : decode cX2_keeps 4 = .ok (.istore 8, 2) := by decide +kernel
theorem dX2_keeps_6 : decode cX2_keeps 6 = .ok (.iload 8, 2) := by decide +kernel
theorem dX2_keeps_8 : decode cX2_keeps 8 = .ok (.aload_n 0, 1) := by decide +kernel
theorem dX2_keeps_9 : decode cX2_keeps 9 = .ok (.getfield 39, 3) := by decide +kernel
theorem dX2_keeps_12 : decode cX2_keeps 12 = .ok (.if_icmp .ge 157, 3) := by decide +kernel
theorem dX2_keeps_15 : decode cX2_keeps 15 = .ok (.lconst 0, 1) := by decide +kernel
theorem dX2_keeps_16 : decode cX2_keeps 16 = .ok (.lstore 9, 2) := by decide +kernel
theorem dX2_keeps_18 : decode cX2_keeps 18 = .ok (.iconst 0, 1) := by decide +kernel
theorem dX2_keeps_19 : decode cX2_keeps 19 = .ok (.istore 11, 2) := by decide +kernel
theorem dX2_keeps_21 : decode cX2_keeps 21 = .ok (.iload 11, 2) := by decide +kernel
theorem dX2_keeps_23 : decode cX2_keeps 23 = .ok (.aload_n 0, 1) := by decide +kernel
theorem dX2_keeps_24 : decode cX2_keeps 24 = .ok (.getfield 7, 3) := by decide +kernel
theorem dX2_keeps_27 : decode cX2_keeps 27 = .ok (.if_icmp .ge 104, 3) := by decide +kernel
theorem dX2_keeps_30 : decode cX2_keeps 30 = .ok (.iload 11, 2) := by decide +kernel
theorem dX2_keeps_32 : decode cX2_keeps 32 = .ok (.ifCond .ne 8, 3) := by decide +kernel
theorem dX2_keeps_35 : decode cX2_keeps 35 = .ok (.iload_n 1, 1) := by decide +kernel
theorem dX2_keeps_36 : decode cX2_keeps 36 = .ok (.i2l, 1) := by decide +kernel
theorem dX2_keeps_37 : decode cX2_keeps 37 = .ok (.goto 16, 3) := by decide +kernel
theorem dX2_keeps_40 : decode cX2_keeps 40 = .ok (.iload 11, 2) := by decide +kernel
theorem dX2_keeps_42 : decode cX2_keeps 42 = .ok (.iconst 1, 1) := by decide +kernel
theorem dX2_keeps_43 : decode cX2_keeps 43 = .ok (.if_icmp .ne 8, 3) := by decide +kernel
theorem dX2_keeps_46 : decode cX2_keeps 46 = .ok (.iload_n 2, 1) := by decide +kernel
theorem dX2_keeps_47 : decode cX2_keeps 47 = .ok (.i2l, 1) := by decide +kernel
theorem dX2_keeps_48 : decode cX2_keeps 48 = .ok (.goto 5, 3) := by decide +kernel
theorem dX2_keeps_51 : decode cX2_keeps 51 = .ok (.iload_n 3, 1) := by decide +kernel
theorem dX2_keeps_52 : decode cX2_keeps 52 = .ok (.i2l, 1) := by decide +kernel
theorem dX2_keeps_53 : decode cX2_keeps 53 = .ok (.lstore 12, 2) := by decide +kernel
theorem dX2_keeps_55 : decode cX2_keeps 55 = .ok (.iload 11, 2) := by decide +kernel
theorem dX2_keeps_57 : decode cX2_keeps 57 = .ok (.ifCond .ne 9, 3) := by decide +kernel
theorem dX2_keeps_60 : decode cX2_keeps 60 = .ok (.iload 4, 2) := by decide +kernel
theorem dX2_keeps_62 : decode cX2_keeps 62 = .ok (.i2l, 1) := by decide +kernel
theorem dX2_keeps_63 : decode cX2_keeps 63 = .ok (.goto 18, 3) := by decide +kernel
theorem dX2_keeps_66 : decode cX2_keeps 66 = .ok (.iload 11, 2) := by decide +kernel
theorem dX2_keeps_68 : decode cX2_keeps 68 = .ok (.iconst 1, 1) := by decide +kernel
theorem dX2_keeps_69 : decode cX2_keeps 69 = .ok (.if_icmp .ne 9, 3) := by decide +kernel
theorem dX2_keeps_72 : decode cX2_keeps 72 = .ok (.iload 5, 2) := by decide +kernel
theorem dX2_keeps_74 : decode cX2_keeps 74 = .ok (.i2l, 1) := by decide +kernel
theorem dX2_keeps_75 : decode cX2_keeps 75 = .ok (.goto 6, 3) := by decide +kernel
theorem dX2_keeps_78 : decode cX2_keeps 78 = .ok (.iload 6, 2) := by decide +kernel
theorem dX2_keeps_80 : decode cX2_keeps 80 = .ok (.i2l, 1) := by decide +kernel
theorem dX2_keeps_81 : decode cX2_keeps 81 = .ok (.lstore 14, 2) := by decide +kernel
theorem dX2_keeps_83 : decode cX2_keeps 83 = .ok (.lload 9, 2) := by decide +kernel
theorem dX2_keeps_85 : decode cX2_keeps 85 = .ok (.aload_n 0, 1) := by decide +kernel
theorem dX2_keeps_86 : decode cX2_keeps 86 = .ok (.getfield 13, 3) := by decide +kernel
theorem dX2_keeps_89 : decode cX2_keeps 89 = .ok (.bipush 7, 2) := by decide +kernel
theorem dX2_keeps_91 : decode cX2_keeps 91 = .ok (.iload 8, 2) := by decide +kernel
theorem dX2_keeps_93 : decode cX2_keeps 93 = .ok (.imul, 1) := by decide +kernel
theorem dX2_keeps_94 : decode cX2_keeps 94 = .ok (.iload 11, 2) := by decide +kernel
theorem dX2_keeps_96 : decode cX2_keeps 96 = .ok (.iadd, 1) := by decide +kernel
theorem dX2_keeps_97 : decode cX2_keeps 97 = .ok (.iaload, 1) := by decide +kernel
theorem dX2_keeps_98 : decode cX2_keeps 98 = .ok (.i2l, 1) := by decide +kernel
theorem dX2_keeps_99 : decode cX2_keeps 99 = .ok (.lload 12, 2) := by decide +kernel
theorem dX2_keeps_101 : decode cX2_keeps 101 = .ok (.lmul, 1) := by decide +kernel
theorem dX2_keeps_102 : decode cX2_keeps 102 = .ok (.aload_n 0, 1) := by decide +kernel
theorem dX2_keeps_103 : decode cX2_keeps 103 = .ok (.getfield 13, 3) := by decide +kernel
theorem dX2_keeps_106 : decode cX2_keeps 106 = .ok (.bipush 7, 2) := by decide +kernel
theorem dX2_keeps_108 : decode cX2_keeps 108 = .ok (.iload 8, 2) := by decide +kernel
theorem dX2_keeps_110 : decode cX2_keeps 110 = .ok (.imul, 1) := by decide +kernel
theorem dX2_keeps_111 : decode cX2_keeps 111 = .ok (.iconst 3, 1) := by decide +kernel
theorem dX2_keeps_112 : decode cX2_keeps 112 = .ok (.iadd, 1) := by decide +kernel
theorem dX2_keeps_113 : decode cX2_keeps 113 = .ok (.iload 11, 2) := by decide +kernel
theorem dX2_keeps_115 : decode cX2_keeps 115 = .ok (.iadd, 1) := by decide +kernel
theorem dX2_keeps_116 : decode cX2_keeps 116 = .ok (.iaload, 1) := by decide +kernel
theorem dX2_keeps_117 : decode cX2_keeps 117 = .ok (.i2l, 1) := by decide +kernel
theorem dX2_keeps_118 : decode cX2_keeps 118 = .ok (.lload 14, 2) := by decide +kernel
theorem dX2_keeps_120 : decode cX2_keeps 120 = .ok (.lmul, 1) := by decide +kernel
theorem dX2_keeps_121 : decode cX2_keeps 121 = .ok (.ladd, 1) := by decide +kernel
theorem dX2_keeps_122 : decode cX2_keeps 122 = .ok (.ladd, 1) := by decide +kernel
theorem dX2_keeps_123 : decode cX2_keeps 123 = .ok (.lstore 9, 2) := by decide +kernel
theorem dX2_keeps_125 : decode cX2_keeps 125 = .ok (.iinc 11 1, 3) := by decide +kernel
theorem dX2_keeps_128 : decode cX2_keeps 128 = .ok (.goto (-107), 3) := by decide +kernel
theorem dX2_keeps_131 : decode cX2_keeps 131 = .ok (.iload 7, 2) := by decide +kernel
theorem dX2_keeps_133 : decode cX2_keeps 133 = .ok (.ifCond .eq 27, 3) := by decide +kernel
theorem dX2_keeps_136 : decode cX2_keeps 136 = .ok (.lload 9, 2) := by decide +kernel
theorem dX2_keeps_138 : decode cX2_keeps 138 = .ok (.aload_n 0, 1) := by decide +kernel
theorem dX2_keeps_139 : decode cX2_keeps 139 = .ok (.getfield 13, 3) := by decide +kernel
theorem dX2_keeps_142 : decode cX2_keeps 142 = .ok (.bipush 7, 2) := by decide +kernel
theorem dX2_keeps_144 : decode cX2_keeps 144 = .ok (.iload 8, 2) := by decide +kernel
theorem dX2_keeps_146 : decode cX2_keeps 146 = .ok (.imul, 1) := by decide +kernel
theorem dX2_keeps_147 : decode cX2_keeps 147 = .ok (.bipush 6, 2) := by decide +kernel
theorem dX2_keeps_149 : decode cX2_keeps 149 = .ok (.iadd, 1) := by decide +kernel
theorem dX2_keeps_150 : decode cX2_keeps 150 = .ok (.iaload, 1) := by decide +kernel
theorem dX2_keeps_151 : decode cX2_keeps 151 = .ok (.i2l, 1) := by decide +kernel
theorem dX2_keeps_152 : decode cX2_keeps 152 = .ok (.lcmp, 1) := by decide +kernel
theorem dX2_keeps_153 : decode cX2_keeps 153 = .ok (.ifCond .gt 7, 3) := by decide +kernel
theorem dX2_keeps_156 : decode cX2_keeps 156 = .ok (.iconst 1, 1) := by decide +kernel
theorem dX2_keeps_157 : decode cX2_keeps 157 = .ok (.goto 4, 3) := by decide +kernel
theorem dX2_keeps_160 : decode cX2_keeps 160 = .ok (.iconst 0, 1) := by decide +kernel
theorem dX2_keeps_161 : decode cX2_keeps 161 = .ok (.istore 7, 2) := by decide +kernel
theorem dX2_keeps_163 : decode cX2_keeps 163 = .ok (.iinc 8 1, 3) := by decide +kernel
theorem dX2_keeps_166 : decode cX2_keeps 166 = .ok (.goto (-160), 3) := by decide +kernel
theorem dX2_keeps_169 : decode cX2_keeps 169 = .ok (.iload 7, 2) := by decide +kernel
theorem dX2_keeps_171 : decode cX2_keeps 171 = .ok (.ireturn, 1) := by decide +kernel
theorem dX2_empty_0 : decode cX2_empty 0 = .ok (.iconst 0, 1) := by decide +kernel
theorem dX2_empty_1 : decode cX2_empty 1 = .ok (.istore_n 1, 1) := by decide +kernel
theorem dX2_empty_2 : decode cX2_empty 2 = .ok (.iload_n 1, 1) := by decide +kernel
theorem dX2_empty_3 : decode cX2_empty 3 = .ok (.bipush 11, 2) := by decide +kernel
theorem dX2_empty_5 : decode cX2_empty 5 = .ok (.if_icmp .ge 24, 3) := by decide +kernel
theorem dX2_empty_8 : decode cX2_empty 8 = .ok (.aload_n 0, 1) := by decide +kernel
theorem dX2_empty_9 : decode cX2_empty 9 = .ok (.getfield 17, 3) := by decide +kernel
theorem dX2_empty_12 : decode cX2_empty 12 = .ok (.bipush 11, 2) := by decide +kernel
theorem dX2_empty_14 : decode cX2_empty 14 = .ok (.aload_n 0, 1) := by decide +kernel
theorem dX2_empty_15 : decode cX2_empty 15 = .ok (.getfield 46, 3) := by decide +kernel
theorem dX2_empty_18 : decode cX2_empty 18 = .ok (.imul, 1) := by decide +kernel
theorem dX2_empty_19 : decode cX2_empty 19 = .ok (.iload_n 1, 1) := by decide +kernel
theorem dX2_empty_20 : decode cX2_empty 20 = .ok (.iadd, 1) := by decide +kernel
theorem dX2_empty_21 : decode cX2_empty 21 = .ok (.lconst 0, 1) := by decide +kernel
theorem dX2_empty_22 : decode cX2_empty 22 = .ok (.lastore, 1) := by decide +kernel
theorem dX2_empty_23 : decode cX2_empty 23 = .ok (.iinc 1 1, 3) := by decide +kernel
theorem dX2_empty_26 : decode cX2_empty 26 = .ok (.goto (-24), 3) := by decide +kernel
theorem dX2_empty_29 : decode cX2_empty 29 = .ok (.aload_n 0, 1) := by decide +kernel
theorem dX2_empty_30 : decode cX2_empty 30 = .ok (.getfield 24, 3) := by decide +kernel
theorem dX2_empty_33 : decode cX2_empty 33 = .ok (.aload_n 0, 1) := by decide +kernel
theorem dX2_empty_34 : decode cX2_empty 34 = .ok (.getfield 46, 3) := by decide +kernel
theorem dX2_empty_37 : decode cX2_empty 37 = .ok (.iconst 1, 1) := by decide +kernel
theorem dX2_empty_38 : decode cX2_empty 38 = .ok (.aload_n 0, 1) := by decide +kernel
theorem dX2_empty_39 : decode cX2_empty 39 = .ok (.getfield 46, 3) := by decide +kernel
theorem dX2_empty_42 : decode cX2_empty 42 = .ok (.ishl, 1) := by decide +kernel
theorem dX2_empty_43 : decode cX2_empty 43 = .ok (.iastore, 1) := by decide +kernel
theorem dX2_empty_44 : decode cX2_empty 44 = .ok (.aload_n 0, 1) := by decide +kernel
theorem dX2_empty_45 : decode cX2_empty 45 = .ok (.dup, 1) := by decide +kernel
theorem dX2_empty_46 : decode cX2_empty 46 = .ok (.getfield 46, 3) := by decide +kernel
theorem dX2_empty_49 : decode cX2_empty 49 = .ok (.iconst 1, 1) := by decide +kernel
theorem dX2_empty_50 : decode cX2_empty 50 = .ok (.iadd, 1) := by decide +kernel
theorem dX2_empty_51 : decode cX2_empty 51 = .ok (.putfield 46, 3) := by decide +kernel
theorem dX2_empty_54 : decode cX2_empty 54 = .ok (.bipush 11, 2) := by decide +kernel
theorem dX2_empty_56 : decode cX2_empty 56 = .ok (.aload_n 0, 1) := by decide +kernel
theorem dX2_empty_57 : decode cX2_empty 57 = .ok (.getfield 46, 3) := by decide +kernel
theorem dX2_empty_60 : decode cX2_empty 60 = .ok (.iconst 1, 1) := by decide +kernel
theorem dX2_empty_61 : decode cX2_empty 61 = .ok (.isub, 1) := by decide +kernel
theorem dX2_empty_62 : decode cX2_empty 62 = .ok (.imul, 1) := by decide +kernel
theorem dX2_empty_63 : decode cX2_empty 63 = .ok (.ireturn, 1) := by decide +kernel
set_option maxRecDepth 20000 in
theorem ggX2_beginRows_X2_empty : GoodIn wsX2_beginRows wsX2_empty := goodIn_r _ [10, 4, 1, 11, 12, 13, 14, 15, 16, 17, 18, 19, 20, 21, 22, 23, 24, 25, 26, 27, 28, 29, 30] (by decide +kernel) (by decide +kernel)
set_option maxRecDepth 20000 in
theorem gX2_beginRows_X2_empty : GoodIn wsX2_beginRows (wsV RX2 49 RX2 yX2_empty wsX2_empty) := goodIn_app (goodIn_of _ (by decide +kernel)) ggX2_beginRows_X2_empty
theorem dX2_beginRows_0 : decode cX2_beginRows 0 = .ok (.aload_n 0, 1) := by decide +kernel
theorem dX2_beginRows_1 : decode cX2_beginRows 1 = .ok (.iconst 0, 1) := by decide +kernel
theorem dX2_beginRows_2 : decode cX2_beginRows 2 = .ok (.putfield 46, 3) := by decide +kernel
theorem dX2_beginRows_5 : decode cX2_beginRows 5 = .ok (.iconst 0, 1) := by decide +kernel
theorem dX2_beginRows_6 : decode cX2_beginRows 6 = .ok (.istore_n 1, 1) := by decide +kernel
theorem dX2_beginRows_7 : decode cX2_beginRows 7 = .ok (.iload_n 1, 1) := by decide +kernel
theorem dX2_beginRows_8 : decode cX2_beginRows 8 = .ok (.aload_n 0, 1) := by decide +kernel
theorem dX2_beginRows_9 : decode cX2_beginRows 9 = .ok (.getfield 39, 3) := by decide +kernel
theorem dX2_beginRows_12 : decode cX2_beginRows 12 = .ok (.if_icmp .ge 96, 3) := by decide +kernel
theorem dX2_beginRows_15 : decode cX2_beginRows 15 = .ok (.aload_n 0, 1) := by decide +kernel
theorem dX2_beginRows_16 : decode cX2_beginRows 16 = .ok (.invokevirtual 49, 3) := by decide +kernel
theorem dX2_beginRows_19 : decode cX2_beginRows 19 = .ok (.istore_n 2, 1) := by decide +kernel
theorem dX2_beginRows_20 : decode cX2_beginRows 20 = .ok (.iconst 0, 1) := by decide +kernel
theorem dX2_beginRows_21 : decode cX2_beginRows 21 = .ok (.istore_n 3, 1) := by decide +kernel
theorem dX2_beginRows_22 : decode cX2_beginRows 22 = .ok (.iload_n 3, 1) := by decide +kernel
theorem dX2_beginRows_23 : decode cX2_beginRows 23 = .ok (.aload_n 0, 1) := by decide +kernel
theorem dX2_beginRows_24 : decode cX2_beginRows 24 = .ok (.getfield 7, 3) := by decide +kernel
theorem dX2_beginRows_27 : decode cX2_beginRows 27 = .ok (.if_icmp .ge 53, 3) := by decide +kernel
theorem dX2_beginRows_30 : decode cX2_beginRows 30 = .ok (.aload_n 0, 1) := by decide +kernel
theorem dX2_beginRows_31 : decode cX2_beginRows 31 = .ok (.getfield 17, 3) := by decide +kernel
theorem dX2_beginRows_34 : decode cX2_beginRows 34 = .ok (.iload_n 2, 1) := by decide +kernel
theorem dX2_beginRows_35 : decode cX2_beginRows 35 = .ok (.iload_n 3, 1) := by decide +kernel
theorem dX2_beginRows_36 : decode cX2_beginRows 36 = .ok (.iadd, 1) := by decide +kernel
theorem dX2_beginRows_37 : decode cX2_beginRows 37 = .ok (.aload_n 0, 1) := by decide +kernel
theorem dX2_beginRows_38 : decode cX2_beginRows 38 = .ok (.getfield 13, 3) := by decide +kernel
theorem dX2_beginRows_41 : decode cX2_beginRows 41 = .ok (.bipush 7, 2) := by decide +kernel
theorem dX2_beginRows_43 : decode cX2_beginRows 43 = .ok (.iload_n 1, 1) := by decide +kernel
theorem dX2_beginRows_44 : decode cX2_beginRows 44 = .ok (.imul, 1) := by decide +kernel
theorem dX2_beginRows_45 : decode cX2_beginRows 45 = .ok (.iload_n 3, 1) := by decide +kernel
theorem dX2_beginRows_46 : decode cX2_beginRows 46 = .ok (.iadd, 1) := by decide +kernel
theorem dX2_beginRows_47 : decode cX2_beginRows 47 = .ok (.iaload, 1) := by decide +kernel
theorem dX2_beginRows_48 : decode cX2_beginRows 48 = .ok (.i2l, 1) := by decide +kernel
theorem dX2_beginRows_49 : decode cX2_beginRows 49 = .ok (.lastore, 1) := by decide +kernel
theorem dX2_beginRows_50 : decode cX2_beginRows 50 = .ok (.aload_n 0, 1) := by decide +kernel
theorem dX2_beginRows_51 : decode cX2_beginRows 51 = .ok (.getfield 17, 3) := by decide +kernel
theorem dX2_beginRows_54 : decode cX2_beginRows 54 = .ok (.iload_n 2, 1) := by decide +kernel
theorem dX2_beginRows_55 : decode cX2_beginRows 55 = .ok (.iconst 3, 1) := by decide +kernel
theorem dX2_beginRows_56 : decode cX2_beginRows 56 = .ok (.iadd, 1) := by decide +kernel
theorem dX2_beginRows_57 : decode cX2_beginRows 57 = .ok (.iload_n 3, 1) := by decide +kernel
theorem dX2_beginRows_58 : decode cX2_beginRows 58 = .ok (.iadd, 1) := by decide +kernel
theorem dX2_beginRows_59 : decode cX2_beginRows 59 = .ok (.aload_n 0, 1) := by decide +kernel
theorem dX2_beginRows_60 : decode cX2_beginRows 60 = .ok (.getfield 13, 3) := by decide +kernel
theorem dX2_beginRows_63 : decode cX2_beginRows 63 = .ok (.bipush 7, 2) := by decide +kernel
theorem dX2_beginRows_65 : decode cX2_beginRows 65 = .ok (.iload_n 1, 1) := by decide +kernel
theorem dX2_beginRows_66 : decode cX2_beginRows 66 = .ok (.imul, 1) := by decide +kernel
theorem dX2_beginRows_67 : decode cX2_beginRows 67 = .ok (.iconst 3, 1) := by decide +kernel
theorem dX2_beginRows_68 : decode cX2_beginRows 68 = .ok (.iadd, 1) := by decide +kernel
theorem dX2_beginRows_69 : decode cX2_beginRows 69 = .ok (.iload_n 3, 1) := by decide +kernel
theorem dX2_beginRows_70 : decode cX2_beginRows 70 = .ok (.iadd, 1) := by decide +kernel
theorem dX2_beginRows_71 : decode cX2_beginRows 71 = .ok (.iaload, 1) := by decide +kernel
theorem dX2_beginRows_72 : decode cX2_beginRows 72 = .ok (.i2l, 1) := by decide +kernel
theorem dX2_beginRows_73 : decode cX2_beginRows 73 = .ok (.lastore, 1) := by decide +kernel
theorem dX2_beginRows_74 : decode cX2_beginRows 74 = .ok (.iinc 3 1, 3) := by decide +kernel
theorem dX2_beginRows_77 : decode cX2_beginRows 77 = .ok (.goto (-55), 3) := by decide +kernel
theorem dX2_beginRows_80 : decode cX2_beginRows 80 = .ok (.aload_n 0, 1) := by decide +kernel
theorem dX2_beginRows_81 : decode cX2_beginRows 81 = .ok (.getfield 17, 3) := by decide +kernel
theorem dX2_beginRows_84 : decode cX2_beginRows 84 = .ok (.iload_n 2, 1) := by decide +kernel
theorem dX2_beginRows_85 : decode cX2_beginRows 85 = .ok (.bipush 10, 2) := by decide +kernel
theorem dX2_beginRows_87 : decode cX2_beginRows 87 = .ok (.iadd, 1) := by decide +kernel
theorem dX2_beginRows_88 : decode cX2_beginRows 88 = .ok (.aload_n 0, 1) := by decide +kernel
theorem dX2_beginRows_89 : decode cX2_beginRows 89 = .ok (.getfield 13, 3) := by decide +kernel
theorem dX2_beginRows_92 : decode cX2_beginRows 92 = .ok (.bipush 7, 2) := by decide +kernel
theorem dX2_beginRows_94 : decode cX2_beginRows 94 = .ok (.iload_n 1, 1) := by decide +kernel
theorem dX2_beginRows_95 : decode cX2_beginRows 95 = .ok (.imul, 1) := by decide +kernel
theorem dX2_beginRows_96 : decode cX2_beginRows 96 = .ok (.bipush 6, 2) := by decide +kernel
theorem dX2_beginRows_98 : decode cX2_beginRows 98 = .ok (.iadd, 1) := by decide +kernel
theorem dX2_beginRows_99 : decode cX2_beginRows 99 = .ok (.iaload, 1) := by decide +kernel
theorem dX2_beginRows_100 : decode cX2_beginRows 100 = .ok (.i2l, 1) := by decide +kernel
theorem dX2_beginRows_101 : decode cX2_beginRows 101 = .ok (.lastore, 1) := by decide +kernel
theorem dX2_beginRows_102 : decode cX2_beginRows 102 = .ok (.iinc 1 1, 3) := by decide +kernel
theorem dX2_beginRows_105 : decode cX2_beginRows 105 = .ok (.goto (-98), 3) := by decide +kernel
theorem dX2_beginRows_108 : decode cX2_beginRows 108 = .ok (.return_, 1) := by decide +kernel
theorem dX2_size_0 : decode cX2_size 0 = .ok (.iconst 0, 1) := by decide +kernel
theorem dX2_size_1 : decode cX2_size 1 = .ok (.istore_n 1, 1) := by decide +kernel
theorem dX2_size_2 : decode cX2_size 2 = .ok (.iconst 0, 1) := by decide +kernel
theorem dX2_size_3 : decode cX2_size 3 = .ok (.istore_n 2, 1) := by decide +kernel
theorem dX2_size_4 : decode cX2_size 4 = .ok (.iload_n 2, 1) := by decide +kernel
theorem dX2_size_5 : decode cX2_size 5 = .ok (.bipush 16, 2) := by decide +kernel
theorem dX2_size_7 : decode cX2_size 7 = .ok (.if_icmp .ge 17, 3) := by decide +kernel
theorem dX2_size_10 : decode cX2_size 10 = .ok (.iload_n 1, 1) := by decide +kernel
theorem dX2_size_11 : decode cX2_size 11 = .ok (.iload_n 0, 1) := by decide +kernel
theorem dX2_size_12 : decode cX2_size 12 = .ok (.iload_n 2, 1) := by decide +kernel
theorem dX2_size_13 : decode cX2_size 13 = .ok (.ishr, 1) := by decide +kernel
theorem dX2_size_14 : decode cX2_size 14 = .ok (.iconst 1, 1) := by decide +kernel
theorem dX2_size_15 : decode cX2_size 15 = .ok (.iand, 1) := by decide +kernel
theorem dX2_size_16 : decode cX2_size 16 = .ok (.iadd, 1) := by decide +kernel
theorem dX2_size_17 : decode cX2_size 17 = .ok (.istore_n 1, 1) := by decide +kernel
theorem dX2_size_18 : decode cX2_size 18 = .ok (.iinc 2 1, 3) := by decide +kernel
theorem dX2_size_21 : decode cX2_size 21 = .ok (.goto (-17), 3) := by decide +kernel
theorem dX2_size_24 : decode cX2_size 24 = .ok (.iload_n 1, 1) := by decide +kernel
theorem dX2_size_25 : decode cX2_size 25 = .ok (.ireturn, 1) := by decide +kernel
theorem dX2_areBeside_0 : decode cX2_areBeside 0 = .ok (.aload_n 0, 1) := by decide +kernel
theorem dX2_areBeside_1 : decode cX2_areBeside 1 = .ok (.getfield 24, 3) := by decide +kernel
theorem dX2_areBeside_4 : decode cX2_areBeside 4 = .ok (.iload_n 1, 1) := by decide +kernel
theorem dX2_areBeside_5 : decode cX2_areBeside 5 = .ok (.iaload, 1) := by decide +kernel
theorem dX2_areBeside_6 : decode cX2_areBeside 6 = .ok (.aload_n 0, 1) := by decide +kernel
theorem dX2_areBeside_7 : decode cX2_areBeside 7 = .ok (.getfield 24, 3) := by decide +kernel
theorem dX2_areBeside_10 : decode cX2_areBeside 10 = .ok (.iload_n 2, 1) := by decide +kernel
theorem dX2_areBeside_11 : decode cX2_areBeside 11 = .ok (.iaload, 1) := by decide +kernel
theorem dX2_areBeside_12 : decode cX2_areBeside 12 = .ok (.ior, 1) := by decide +kernel
theorem dX2_areBeside_13 : decode cX2_areBeside 13 = .ok (.istore_n 3, 1) := by decide +kernel
theorem dX2_areBeside_14 : decode cX2_areBeside 14 = .ok (.iconst 0, 1) := by decide +kernel
theorem dX2_areBeside_15 : decode cX2_areBeside 15 = .ok (.istore 4, 2) := by decide +kernel
theorem dX2_areBeside_17 : decode cX2_areBeside 17 = .ok (.iload 4, 2) := by decide +kernel
theorem dX2_areBeside_19 : decode cX2_areBeside 19 = .ok (.aload_n 0, 1) := by decide +kernel
theorem dX2_areBeside_20 : decode cX2_areBeside 20 = .ok (.getfield 46, 3) := by decide +kernel
theorem dX2_areBeside_23 : decode cX2_areBeside 23 = .ok (.if_icmp .ge 37, 3) := by decide +kernel
theorem dX2_areBeside_26 : decode cX2_areBeside 26 = .ok (.iload 4, 2) := by decide +kernel
theorem dX2_areBeside_28 : decode cX2_areBeside 28 = .ok (.iload_n 1, 1) := by decide +kernel
theorem dX2_areBeside_29 : decode cX2_areBeside 29 = .ok (.if_icmp .eq 25, 3) := by decide +kernel
theorem dX2_areBeside_32 : decode cX2_areBeside 32 = .ok (.iload 4, 2) := by decide +kernel
theorem dX2_areBeside_34 : decode cX2_areBeside 34 = .ok (.iload_n 2, 1) := by decide +kernel
theorem dX2_areBeside_35 : decode cX2_areBeside 35 = .ok (.if_icmp .eq 19, 3) := by decide +kernel
theorem dX2_areBeside_38 : decode cX2_areBeside 38 = .ok (.aload_n 0, 1) := by decide +kernel
theorem dX2_areBeside_39 : decode cX2_areBeside 39 = .ok (.getfield 24, 3) := by decide +kernel
theorem dX2_areBeside_42 : decode cX2_areBeside 42 = .ok (.iload 4, 2) := by decide +kernel
theorem dX2_areBeside_44 : decode cX2_areBeside 44 = .ok (.iaload, 1) := by decide +kernel
theorem dX2_areBeside_45 : decode cX2_areBeside 45 = .ok (.iload_n 3, 1) := by decide +kernel
theorem dX2_areBeside_46 : decode cX2_areBeside 46 = .ok (.iconst (-1), 1) := by decide +kernel
theorem dX2_areBeside_47 : decode cX2_areBeside 47 = .ok (.ixor, 1) := by decide +kernel
theorem dX2_areBeside_48 : decode cX2_areBeside 48 = .ok (.iand, 1) := by decide +kernel
theorem dX2_areBeside_49 : decode cX2_areBeside 49 = .ok (.ifCond .ne 5, 3) := by decide +kernel
theorem dX2_areBeside_52 : decode cX2_areBeside 52 = .ok (.iconst 0, 1) := by decide +kernel
theorem dX2_areBeside_53 : decode cX2_areBeside 53 = .ok (.ireturn, 1) := by decide +kernel
theorem dX2_areBeside_54 : decode cX2_areBeside 54 = .ok (.iinc 4 1, 3) := by decide +kernel
theorem dX2_areBeside_57 : decode cX2_areBeside 57 = .ok (.goto (-40), 3) := by decide +kernel
theorem dX2_areBeside_60 : decode cX2_areBeside 60 = .ok (.iconst 1, 1) := by decide +kernel
theorem dX2_areBeside_61 : decode cX2_areBeside 61 = .ok (.ireturn, 1) := by decide +kernel
theorem dX2_isBelow_0 : decode cX2_isBelow 0 = .ok (.lload_n 0, 1) := by decide +kernel
theorem dX2_isBelow_1 : decode cX2_isBelow 1 = .ok (.ldc2_w 53, 3) := by decide +kernel
theorem dX2_isBelow_4 : decode cX2_isBelow 4 = .ok (.ladd, 1) := by decide +kernel
theorem dX2_isBelow_5 : decode cX2_isBelow 5 = .ok (.lload_n 2, 1) := by decide +kernel
theorem dX2_isBelow_6 : decode cX2_isBelow 6 = .ok (.ldc2_w 53, 3) := by decide +kernel
theorem dX2_isBelow_9 : decode cX2_isBelow 9 = .ok (.ladd, 1) := by decide +kernel
theorem dX2_isBelow_10 : decode cX2_isBelow 10 = .ok (.lcmp, 1) := by decide +kernel
theorem dX2_isBelow_11 : decode cX2_isBelow 11 = .ok (.ifCond .ge 7, 3) := by decide +kernel
theorem dX2_isBelow_14 : decode cX2_isBelow 14 = .ok (.iconst 1, 1) := by decide +kernel
theorem dX2_isBelow_15 : decode cX2_isBelow 15 = .ok (.goto 4, 3) := by decide +kernel
theorem dX2_isBelow_18 : decode cX2_isBelow 18 = .ok (.iconst 0, 1) := by decide +kernel
theorem dX2_isBelow_19 : decode cX2_isBelow 19 = .ok (.ireturn, 1) := by decide +kernel
theorem dX2_high_0 : decode cX2_high 0 = .ok (.lload_n 0, 1) := by decide +kernel
theorem dX2_high_1 : decode cX2_high 1 = .ok (.ldc2_w 55, 3) := by decide +kernel
theorem dX2_high_4 : decode cX2_high 4 = .ok (.land, 1) := by decide +kernel
theorem dX2_high_5 : decode cX2_high 5 = .ok (.lstore 4, 2) := by decide +kernel
theorem dX2_high_7 : decode cX2_high 7 = .ok (.lload_n 2, 1) := by decide +kernel
theorem dX2_high_8 : decode cX2_high 8 = .ok (.ldc2_w 55, 3) := by decide +kernel
theorem dX2_high_11 : decode cX2_high 11 = .ok (.land, 1) := by decide +kernel
theorem dX2_high_12 : decode cX2_high 12 = .ok (.lstore 6, 2) := by decide +kernel
theorem dX2_high_14 : decode cX2_high 14 = .ok (.lload_n 0, 1) := by decide +kernel
theorem dX2_high_15 : decode cX2_high 15 = .ok (.bipush 32, 2) := by decide +kernel
theorem dX2_high_17 : decode cX2_high 17 = .ok (.lshr, 1) := by decide +kernel
theorem dX2_high_18 : decode cX2_high 18 = .ok (.lstore 8, 2) := by decide +kernel
theorem dX2_high_20 : decode cX2_high 20 = .ok (.lload_n 2, 1) := by decide +kernel
theorem dX2_high_21 : decode cX2_high 21 = .ok (.bipush 32, 2) := by decide +kernel
theorem dX2_high_23 : decode cX2_high 23 = .ok (.lshr, 1) := by decide +kernel
theorem dX2_high_24 : decode cX2_high 24 = .ok (.lstore 10, 2) := by decide +kernel
theorem dX2_high_26 : decode cX2_high 26 = .ok (.lload 8, 2) := by decide +kernel
theorem dX2_high_28 : decode cX2_high 28 = .ok (.lload 6, 2) := by decide +kernel
theorem dX2_high_30 : decode cX2_high 30 = .ok (.lmul, 1) := by decide +kernel
theorem dX2_high_31 : decode cX2_high 31 = .ok (.lload 4, 2) := by decide +kernel
theorem dX2_high_33 : decode cX2_high 33 = .ok (.lload 6, 2) := by decide +kernel
theorem dX2_high_35 : decode cX2_high 35 = .ok (.lmul, 1) := by decide +kernel
theorem dX2_high_36 : decode cX2_high 36 = .ok (.bipush 32, 2) := by decide +kernel
theorem dX2_high_38 : decode cX2_high 38 = .ok (.lushr, 1) := by decide +kernel
theorem dX2_high_39 : decode cX2_high 39 = .ok (.ladd, 1) := by decide +kernel
theorem dX2_high_40 : decode cX2_high 40 = .ok (.lstore 12, 2) := by decide +kernel
theorem dX2_high_42 : decode cX2_high 42 = .ok (.lload 4, 2) := by decide +kernel
theorem dX2_high_44 : decode cX2_high 44 = .ok (.lload 10, 2) := by decide +kernel
theorem dX2_high_46 : decode cX2_high 46 = .ok (.lmul, 1) := by decide +kernel
theorem dX2_high_47 : decode cX2_high 47 = .ok (.lload 12, 2) := by decide +kernel
theorem dX2_high_49 : decode cX2_high 49 = .ok (.ldc2_w 55, 3) := by decide +kernel
theorem dX2_high_52 : decode cX2_high 52 = .ok (.land, 1) := by decide +kernel
theorem dX2_high_53 : decode cX2_high 53 = .ok (.ladd, 1) := by decide +kernel
theorem dX2_high_54 : decode cX2_high 54 = .ok (.lstore 14, 2) := by decide +kernel
theorem dX2_high_56 : decode cX2_high 56 = .ok (.lload 8, 2) := by decide +kernel
theorem dX2_high_58 : decode cX2_high 58 = .ok (.lload 10, 2) := by decide +kernel
theorem dX2_high_60 : decode cX2_high 60 = .ok (.lmul, 1) := by decide +kernel
theorem dX2_high_61 : decode cX2_high 61 = .ok (.lload 12, 2) := by decide +kernel
theorem dX2_high_63 : decode cX2_high 63 = .ok (.bipush 32, 2) := by decide +kernel
theorem dX2_high_65 : decode cX2_high 65 = .ok (.lshr, 1) := by decide +kernel
theorem dX2_high_66 : decode cX2_high 66 = .ok (.ladd, 1) := by decide +kernel
theorem dX2_high_67 : decode cX2_high 67 = .ok (.lload 14, 2) := by decide +kernel
theorem dX2_high_69 : decode cX2_high 69 = .ok (.bipush 32, 2) := by decide +kernel
theorem dX2_high_71 : decode cX2_high 71 = .ok (.lshr, 1) := by decide +kernel
theorem dX2_high_72 : decode cX2_high 72 = .ok (.ladd, 1) := by decide +kernel
theorem dX2_high_73 : decode cX2_high 73 = .ok (.lreturn, 1) := by decide +kernel
set_option maxRecDepth 20000 in
theorem ggX2_make_X2_high : GoodIn wsX2_make wsX2_high := goodIn_r _ [6, 7] (by decide +kernel) (by decide +kernel)
set_option maxRecDepth 20000 in
theorem gX2_make_X2_high : GoodIn wsX2_make (va_wsS RX2 57 yX2_high wsX2_high) := goodIn_app (goodIn_of _ (by decide +kernel)) ggX2_make_X2_high
set_option maxRecDepth 20000 in
theorem ggX2_make_X2_isBelow : GoodIn wsX2_make wsX2_isBelow := goodIn_r _ [10, 11] (by decide +kernel) (by decide +kernel)
set_option maxRecDepth 20000 in
theorem gX2_make_X2_isBelow : GoodIn wsX2_make (va_wsS RX2 61 yX2_isBelow wsX2_isBelow) := goodIn_app (goodIn_of _ (by decide +kernel)) ggX2_make_X2_isBelow
theorem dX2_make_0 : decode cX2_make 0 = .ok (.lload_n 2, 1) := by decide +kernel
theorem dX2_make_1 : decode cX2_make 1 = .ok (.lload 4, 2) := by decide +kernel
theorem dX2_make_3 : decode cX2_make 3 = .ok (.lmul, 1) := by decide +kernel
theorem dX2_make_4 : decode cX2_make 4 = .ok (.lstore 10, 2) := by decide +kernel
theorem dX2_make_6 : decode cX2_make 6 = .ok (.lload 10, 2) := by decide +kernel
theorem dX2_make_8 : decode cX2_make 8 = .ok (.lload 6, 2) := by decide +kernel
theorem dX2_make_10 : decode cX2_make 10 = .ok (.lload 8, 2) := by decide +kernel
theorem dX2_make_12 : decode cX2_make 12 = .ok (.lmul, 1) := by decide +kernel
theorem dX2_make_13 : decode cX2_make 13 = .ok (.ladd, 1) := by decide +kernel
theorem dX2_make_14 : decode cX2_make 14 = .ok (.lstore 12, 2) := by decide +kernel
theorem dX2_make_16 : decode cX2_make 16 = .ok (.aload_n 0, 1) := by decide +kernel
theorem dX2_make_17 : decode cX2_make 17 = .ok (.getfield 30, 3) := by decide +kernel
theorem dX2_make_20 : decode cX2_make 20 = .ok (.iload_n 1, 1) := by decide +kernel
theorem dX2_make_21 : decode cX2_make 21 = .ok (.lload_n 2, 1) := by decide +kernel
theorem dX2_make_22 : decode cX2_make 22 = .ok (.lload 4, 2) := by decide +kernel
theorem dX2_make_24 : decode cX2_make 24 = .ok (.invokestatic 57, 3) := by decide +kernel
theorem dX2_make_27 : decode cX2_make 27 = .ok (.lload 6, 2) := by decide +kernel
theorem dX2_make_29 : decode cX2_make 29 = .ok (.lload 8, 2) := by decide +kernel
theorem dX2_make_31 : decode cX2_make 31 = .ok (.invokestatic 57, 3) := by decide +kernel
theorem dX2_make_34 : decode cX2_make 34 = .ok (.ladd, 1) := by decide +kernel
theorem dX2_make_35 : decode cX2_make 35 = .ok (.lload 12, 2) := by decide +kernel
theorem dX2_make_37 : decode cX2_make 37 = .ok (.lload 10, 2) := by decide +kernel
theorem dX2_make_39 : decode cX2_make 39 = .ok (.invokestatic 61, 3) := by decide +kernel
theorem dX2_make_42 : decode cX2_make 42 = .ok (.ifCond .eq 7, 3) := by decide +kernel
theorem dX2_make_45 : decode cX2_make 45 = .ok (.lconst 1, 1) := by decide +kernel
theorem dX2_make_46 : decode cX2_make 46 = .ok (.goto 4, 3) := by decide +kernel
theorem dX2_make_49 : decode cX2_make 49 = .ok (.lconst 0, 1) := by decide +kernel
theorem dX2_make_50 : decode cX2_make 50 = .ok (.ladd, 1) := by decide +kernel
theorem dX2_make_51 : decode cX2_make 51 = .ok (.lastore, 1) := by decide +kernel
theorem dX2_make_52 : decode cX2_make 52 = .ok (.aload_n 0, 1) := by decide +kernel
theorem dX2_make_53 : decode cX2_make 53 = .ok (.getfield 33, 3) := by decide +kernel
theorem dX2_make_56 : decode cX2_make 56 = .ok (.iload_n 1, 1) := by decide +kernel
theorem dX2_make_57 : decode cX2_make 57 = .ok (.lload 12, 2) := by decide +kernel
theorem dX2_make_59 : decode cX2_make 59 = .ok (.lastore, 1) := by decide +kernel
theorem dX2_make_60 : decode cX2_make 60 = .ok (.return_, 1) := by decide +kernel
set_option maxRecDepth 20000 in
theorem ggX2_gather_X2_isBelow : GoodIn wsX2_gather wsX2_isBelow := goodIn_r _ [6, 7] (by decide +kernel) (by decide +kernel)
set_option maxRecDepth 20000 in
theorem gX2_gather_X2_isBelow : GoodIn wsX2_gather (va_wsS RX2 61 yX2_isBelow wsX2_isBelow) := goodIn_app (goodIn_of _ (by decide +kernel)) ggX2_gather_X2_isBelow
theorem dX2_gather_0 : decode cX2_gather 0 = .ok (.aload_n 0, 1) := by decide +kernel
theorem dX2_gather_1 : decode cX2_gather 1 = .ok (.getfield 65, 3) := by decide +kernel
theorem dX2_gather_4 : decode cX2_gather 4 = .ok (.lstore 5, 2) := by decide +kernel
theorem dX2_gather_6 : decode cX2_gather 6 = .ok (.aload_n 0, 1) := by decide +kernel
theorem dX2_gather_7 : decode cX2_gather 7 = .ok (.getfield 69, 3) := by decide +kernel
theorem dX2_gather_10 : decode cX2_gather 10 = .ok (.lstore 7, 2) := by decide +kernel
theorem dX2_gather_12 : decode cX2_gather 12 = .ok (.lload_n 1, 1) := by decide +kernel
theorem dX2_gather_13 : decode cX2_gather 13 = .ok (.lstore 9, 2) := by decide +kernel
theorem dX2_gather_15 : decode cX2_gather 15 = .ok (.lload_n 3, 1) := by decide +kernel
theorem dX2_gather_16 : decode cX2_gather 16 = .ok (.lstore 11, 2) := by decide +kernel
theorem dX2_gather_18 : decode cX2_gather 18 = .ok (.lload 5, 2) := by decide +kernel
theorem dX2_gather_20 : decode cX2_gather 20 = .ok (.lconst 0, 1) := by decide +kernel
theorem dX2_gather_21 : decode cX2_gather 21 = .ok (.lcmp, 1) := by decide +kernel
theorem dX2_gather_22 : decode cX2_gather 22 = .ok (.ifCond .ne 23, 3) := by decide +kernel
theorem dX2_gather_25 : decode cX2_gather 25 = .ok (.lload 7, 2) := by decide +kernel
theorem dX2_gather_27 : decode cX2_gather 27 = .ok (.lconst 0, 1) := by decide +kernel
theorem dX2_gather_28 : decode cX2_gather 28 = .ok (.lcmp, 1) := by decide +kernel
theorem dX2_gather_29 : decode cX2_gather 29 = .ok (.ifCond .ne 16, 3) := by decide +kernel
theorem dX2_gather_32 : decode cX2_gather 32 = .ok (.aload_n 0, 1) := by decide +kernel
theorem dX2_gather_33 : decode cX2_gather 33 = .ok (.lload 9, 2) := by decide +kernel
theorem dX2_gather_35 : decode cX2_gather 35 = .ok (.putfield 65, 3) := by decide +kernel
theorem dX2_gather_38 : decode cX2_gather 38 = .ok (.aload_n 0, 1) := by decide +kernel
theorem dX2_gather_39 : decode cX2_gather 39 = .ok (.lload 11, 2) := by decide +kernel
theorem dX2_gather_41 : decode cX2_gather 41 = .ok (.putfield 69, 3) := by decide +kernel
theorem dX2_gather_44 : decode cX2_gather 44 = .ok (.return_, 1) := by decide +kernel
theorem dX2_gather_45 : decode cX2_gather 45 = .ok (.lload 9, 2) := by decide +kernel
theorem dX2_gather_47 : decode cX2_gather 47 = .ok (.lconst 0, 1) := by decide +kernel
theorem dX2_gather_48 : decode cX2_gather 48 = .ok (.lcmp, 1) := by decide +kernel
theorem dX2_gather_49 : decode cX2_gather 49 = .ok (.ifCond .ne 11, 3) := by decide +kernel
theorem dX2_gather_52 : decode cX2_gather 52 = .ok (.lload 11, 2) := by decide +kernel
theorem dX2_gather_54 : decode cX2_gather 54 = .ok (.lconst 0, 1) := by decide +kernel
theorem dX2_gather_55 : decode cX2_gather 55 = .ok (.lcmp, 1) := by decide +kernel
theorem dX2_gather_56 : decode cX2_gather 56 = .ok (.ifCond .ne 4, 3) := by decide +kernel
theorem dX2_gather_59 : decode cX2_gather 59 = .ok (.return_, 1) := by decide +kernel
theorem dX2_gather_60 : decode cX2_gather 60 = .ok (.iconst 0, 1) := by decide +kernel
theorem dX2_gather_61 : decode cX2_gather 61 = .ok (.istore 13, 2) := by decide +kernel
theorem dX2_gather_63 : decode cX2_gather 63 = .ok (.lload 7, 2) := by decide +kernel
theorem dX2_gather_65 : decode cX2_gather 65 = .ok (.lload 11, 2) := by decide +kernel
theorem dX2_gather_67 : decode cX2_gather 67 = .ok (.lor, 1) := by decide +kernel
theorem dX2_gather_68 : decode cX2_gather 68 = .ok (.lconst 1, 1) := by decide +kernel
theorem dX2_gather_69 : decode cX2_gather 69 = .ok (.land, 1) := by decide +kernel
theorem dX2_gather_70 : decode cX2_gather 70 = .ok (.lconst 0, 1) := by decide +kernel
theorem dX2_gather_71 : decode cX2_gather 71 = .ok (.lcmp, 1) := by decide +kernel
theorem dX2_gather_72 : decode cX2_gather 72 = .ok (.ifCond .ne 45, 3) := by decide +kernel
theorem dX2_gather_75 : decode cX2_gather 75 = .ok (.lload 7, 2) := by decide +kernel
theorem dX2_gather_77 : decode cX2_gather 77 = .ok (.iconst 1, 1) := by decide +kernel
theorem dX2_gather_78 : decode cX2_gather 78 = .ok (.lushr, 1) := by decide +kernel
theorem dX2_gather_79 : decode cX2_gather 79 = .ok (.lload 5, 2) := by decide +kernel
theorem dX2_gather_81 : decode cX2_gather 81 = .ok (.bipush 63, 2) := by decide +kernel
theorem dX2_gather_83 : decode cX2_gather 83 = .ok (.lshl, 1) := by decide +kernel
theorem dX2_gather_84 : decode cX2_gather 84 = .ok (.lor, 1) := by decide +kernel
theorem dX2_gather_85 : decode cX2_gather 85 = .ok (.lstore 7, 2) := by decide +kernel
theorem dX2_gather_87 : decode cX2_gather 87 = .ok (.lload 5, 2) := by decide +kernel
theorem dX2_gather_89 : decode cX2_gather 89 = .ok (.iconst 1, 1) := by decide +kernel
theorem dX2_gather_90 : decode cX2_gather 90 = .ok (.lushr, 1) := by decide +kernel
theorem dX2_gather_91 : decode cX2_gather 91 = .ok (.lstore 5, 2) := by decide +kernel
theorem dX2_gather_93 : decode cX2_gather 93 = .ok (.lload 11, 2) := by decide +kernel
theorem dX2_gather_95 : decode cX2_gather 95 = .ok (.iconst 1, 1) := by decide +kernel
theorem dX2_gather_96 : decode cX2_gather 96 = .ok (.lushr, 1) := by decide +kernel
theorem dX2_gather_97 : decode cX2_gather 97 = .ok (.lload 9, 2) := by decide +kernel
theorem dX2_gather_99 : decode cX2_gather 99 = .ok (.bipush 63, 2) := by decide +kernel
theorem dX2_gather_101 : decode cX2_gather 101 = .ok (.lshl, 1) := by decide +kernel
theorem dX2_gather_102 : decode cX2_gather 102 = .ok (.lor, 1) := by decide +kernel
theorem dX2_gather_103 : decode cX2_gather 103 = .ok (.lstore 11, 2) := by decide +kernel
theorem dX2_gather_105 : decode cX2_gather 105 = .ok (.lload 9, 2) := by decide +kernel
theorem dX2_gather_107 : decode cX2_gather 107 = .ok (.iconst 1, 1) := by decide +kernel
theorem dX2_gather_108 : decode cX2_gather 108 = .ok (.lushr, 1) := by decide +kernel
theorem dX2_gather_109 : decode cX2_gather 109 = .ok (.lstore 9, 2) := by decide +kernel
theorem dX2_gather_111 : decode cX2_gather 111 = .ok (.iinc 13 1, 3) := by decide +kernel
theorem dX2_gather_114 : decode cX2_gather 114 = .ok (.goto (-51), 3) := by decide +kernel
theorem dX2_gather_117 : decode cX2_gather 117 = .ok (.lload 7, 2) := by decide +kernel
theorem dX2_gather_119 : decode cX2_gather 119 = .ok (.lconst 1, 1) := by decide +kernel
theorem dX2_gather_120 : decode cX2_gather 120 = .ok (.land, 1) := by decide +kernel
theorem dX2_gather_121 : decode cX2_gather 121 = .ok (.lconst 0, 1) := by decide +kernel
theorem dX2_gather_122 : decode cX2_gather 122 = .ok (.lcmp, 1) := by decide +kernel
theorem dX2_gather_123 : decode cX2_gather 123 = .ok (.ifCond .ne 24, 3) := by decide +kernel
theorem dX2_gather_126 : decode cX2_gather 126 = .ok (.lload 7, 2) := by decide +kernel
theorem dX2_gather_128 : decode cX2_gather 128 = .ok (.iconst 1, 1) := by decide +kernel
theorem dX2_gather_129 : decode cX2_gather 129 = .ok (.lushr, 1) := by decide +kernel
theorem dX2_gather_130 : decode cX2_gather 130 = .ok (.lload 5, 2) := by decide +kernel
theorem dX2_gather_132 : decode cX2_gather 132 = .ok (.bipush 63, 2) := by decide +kernel
theorem dX2_gather_134 : decode cX2_gather 134 = .ok (.lshl, 1) := by decide +kernel
theorem dX2_gather_135 : decode cX2_gather 135 = .ok (.lor, 1) := by decide +kernel
theorem dX2_gather_136 : decode cX2_gather 136 = .ok (.lstore 7, 2) := by decide +kernel
theorem dX2_gather_138 : decode cX2_gather 138 = .ok (.lload 5, 2) := by decide +kernel
theorem dX2_gather_140 : decode cX2_gather 140 = .ok (.iconst 1, 1) := by decide +kernel
theorem dX2_gather_141 : decode cX2_gather 141 = .ok (.lushr, 1) := by decide +kernel
theorem dX2_gather_142 : decode cX2_gather 142 = .ok (.lstore 5, 2) := by decide +kernel
theorem dX2_gather_144 : decode cX2_gather 144 = .ok (.goto (-27), 3) := by decide +kernel
theorem dX2_gather_147 : decode cX2_gather 147 = .ok (.lload 9, 2) := by decide +kernel
theorem dX2_gather_149 : decode cX2_gather 149 = .ok (.lconst 0, 1) := by decide +kernel
theorem dX2_gather_150 : decode cX2_gather 150 = .ok (.lcmp, 1) := by decide +kernel
theorem dX2_gather_151 : decode cX2_gather 151 = .ok (.ifCond .ne 10, 3) := by decide +kernel
theorem dX2_gather_154 : decode cX2_gather 154 = .ok (.lload 11, 2) := by decide +kernel
theorem dX2_gather_156 : decode cX2_gather 156 = .ok (.lconst 0, 1) := by decide +kernel
theorem dX2_gather_157 : decode cX2_gather 157 = .ok (.lcmp, 1) := by decide +kernel
theorem dX2_gather_158 : decode cX2_gather 158 = .ok (.ifCond .eq 116, 3) := by decide +kernel
theorem dX2_gather_161 : decode cX2_gather 161 = .ok (.lload 11, 2) := by decide +kernel
theorem dX2_gather_163 : decode cX2_gather 163 = .ok (.lconst 1, 1) := by decide +kernel
theorem dX2_gather_164 : decode cX2_gather 164 = .ok (.land, 1) := by decide +kernel
theorem dX2_gather_165 : decode cX2_gather 165 = .ok (.lconst 0, 1) := by decide +kernel
theorem dX2_gather_166 : decode cX2_gather 166 = .ok (.lcmp, 1) := by decide +kernel
theorem dX2_gather_167 : decode cX2_gather 167 = .ok (.ifCond .ne 24, 3) := by decide +kernel
theorem dX2_gather_170 : decode cX2_gather 170 = .ok (.lload 11, 2) := by decide +kernel
theorem dX2_gather_172 : decode cX2_gather 172 = .ok (.iconst 1, 1) := by decide +kernel
theorem dX2_gather_173 : decode cX2_gather 173 = .ok (.lushr, 1) := by decide +kernel
theorem dX2_gather_174 : decode cX2_gather 174 = .ok (.lload 9, 2) := by decide +kernel
theorem dX2_gather_176 : decode cX2_gather 176 = .ok (.bipush 63, 2) := by decide +kernel
theorem dX2_gather_178 : decode cX2_gather 178 = .ok (.lshl, 1) := by decide +kernel
theorem dX2_gather_179 : decode cX2_gather 179 = .ok (.lor, 1) := by decide +kernel
theorem dX2_gather_180 : decode cX2_gather 180 = .ok (.lstore 11, 2) := by decide +kernel
theorem dX2_gather_182 : decode cX2_gather 182 = .ok (.lload 9, 2) := by decide +kernel
theorem dX2_gather_184 : decode cX2_gather 184 = .ok (.iconst 1, 1) := by decide +kernel
theorem dX2_gather_185 : decode cX2_gather 185 = .ok (.lushr, 1) := by decide +kernel
theorem dX2_gather_186 : decode cX2_gather 186 = .ok (.lstore 9, 2) := by decide +kernel
theorem dX2_gather_188 : decode cX2_gather 188 = .ok (.goto (-27), 3) := by decide +kernel
theorem dX2_gather_191 : decode cX2_gather 191 = .ok (.lload 9, 2) := by decide +kernel
theorem dX2_gather_193 : decode cX2_gather 193 = .ok (.lload 5, 2) := by decide +kernel
theorem dX2_gather_195 : decode cX2_gather 195 = .ok (.lcmp, 1) := by decide +kernel
theorem dX2_gather_196 : decode cX2_gather 196 = .ok (.ifCond .lt 21, 3) := by decide +kernel
theorem dX2_gather_199 : decode cX2_gather 199 = .ok (.lload 9, 2) := by decide +kernel
theorem dX2_gather_201 : decode cX2_gather 201 = .ok (.lload 5, 2) := by decide +kernel
theorem dX2_gather_203 : decode cX2_gather 203 = .ok (.lcmp, 1) := by decide +kernel
theorem dX2_gather_204 : decode cX2_gather 204 = .ok (.ifCond .ne 37, 3) := by decide +kernel
theorem dX2_gather_207 : decode cX2_gather 207 = .ok (.lload 11, 2) := by decide +kernel
theorem dX2_gather_209 : decode cX2_gather 209 = .ok (.lload 7, 2) := by decide +kernel
theorem dX2_gather_211 : decode cX2_gather 211 = .ok (.invokestatic 61, 3) := by decide +kernel
theorem dX2_gather_214 : decode cX2_gather 214 = .ok (.ifCond .eq 27, 3) := by decide +kernel
theorem dX2_gather_217 : decode cX2_gather 217 = .ok (.lload 9, 2) := by decide +kernel
theorem dX2_gather_219 : decode cX2_gather 219 = .ok (.lstore 14, 2) := by decide +kernel
theorem dX2_gather_221 : decode cX2_gather 221 = .ok (.lload 11, 2) := by decide +kernel
theorem dX2_gather_223 : decode cX2_gather 223 = .ok (.lstore 16, 2) := by decide +kernel
theorem dX2_gather_225 : decode cX2_gather 225 = .ok (.lload 5, 2) := by decide +kernel
theorem dX2_gather_227 : decode cX2_gather 227 = .ok (.lstore 9, 2) := by decide +kernel
theorem dX2_gather_229 : decode cX2_gather 229 = .ok (.lload 7, 2) := by decide +kernel
theorem dX2_gather_231 : decode cX2_gather 231 = .ok (.lstore 11, 2) := by decide +kernel
theorem dX2_gather_233 : decode cX2_gather 233 = .ok (.lload 14, 2) := by decide +kernel
theorem dX2_gather_235 : decode cX2_gather 235 = .ok (.lstore 5, 2) := by decide +kernel
theorem dX2_gather_237 : decode cX2_gather 237 = .ok (.lload 16, 2) := by decide +kernel
theorem dX2_gather_239 : decode cX2_gather 239 = .ok (.lstore 7, 2) := by decide +kernel
theorem dX2_gather_241 : decode cX2_gather 241 = .ok (.lload 9, 2) := by decide +kernel
theorem dX2_gather_243 : decode cX2_gather 243 = .ok (.lload 5, 2) := by decide +kernel
theorem dX2_gather_245 : decode cX2_gather 245 = .ok (.lsub, 1) := by decide +kernel
theorem dX2_gather_246 : decode cX2_gather 246 = .ok (.lload 11, 2) := by decide +kernel
theorem dX2_gather_248 : decode cX2_gather 248 = .ok (.lload 7, 2) := by decide +kernel
theorem dX2_gather_250 : decode cX2_gather 250 = .ok (.invokestatic 61, 3) := by decide +kernel
theorem dX2_gather_253 : decode cX2_gather 253 = .ok (.ifCond .eq 7, 3) := by decide +kernel
theorem dX2_gather_256 : decode cX2_gather 256 = .ok (.lconst 1, 1) := by decide +kernel
theorem dX2_gather_257 : decode cX2_gather 257 = .ok (.goto 4, 3) := by decide +kernel
theorem dX2_gather_260 : decode cX2_gather 260 = .ok (.lconst 0, 1) := by decide +kernel
theorem dX2_gather_261 : decode cX2_gather 261 = .ok (.lsub, 1) := by decide +kernel
theorem dX2_gather_262 : decode cX2_gather 262 = .ok (.lstore 9, 2) := by decide +kernel
theorem dX2_gather_264 : decode cX2_gather 264 = .ok (.lload 11, 2) := by decide +kernel
theorem dX2_gather_266 : decode cX2_gather 266 = .ok (.lload 7, 2) := by decide +kernel
theorem dX2_gather_268 : decode cX2_gather 268 = .ok (.lsub, 1) := by decide +kernel
theorem dX2_gather_269 : decode cX2_gather 269 = .ok (.lstore 11, 2) := by decide +kernel
theorem dX2_gather_271 : decode cX2_gather 271 = .ok (.goto (-124), 3) := by decide +kernel
theorem dX2_gather_274 : decode cX2_gather 274 = .ok (.iconst 0, 1) := by decide +kernel
theorem dX2_gather_275 : decode cX2_gather 275 = .ok (.istore 14, 2) := by decide +kernel
theorem dX2_gather_277 : decode cX2_gather 277 = .ok (.iload 14, 2) := by decide +kernel
theorem dX2_gather_279 : decode cX2_gather 279 = .ok (.iload 13, 2) := by decide +kernel
theorem dX2_gather_281 : decode cX2_gather 281 = .ok (.if_icmp .ge 27, 3) := by decide +kernel
theorem dX2_gather_284 : decode cX2_gather 284 = .ok (.lload 5, 2) := by decide +kernel
theorem dX2_gather_286 : decode cX2_gather 286 = .ok (.iconst 1, 1) := by decide +kernel
theorem dX2_gather_287 : decode cX2_gather 287 = .ok (.lshl, 1) := by decide +kernel
theorem dX2_gather_288 : decode cX2_gather 288 = .ok (.lload 7, 2) := by decide +kernel
theorem dX2_gather_290 : decode cX2_gather 290 = .ok (.bipush 63, 2) := by decide +kernel
theorem dX2_gather_292 : decode cX2_gather 292 = .ok (.lushr, 1) := by decide +kernel
theorem dX2_gather_293 : decode cX2_gather 293 = .ok (.lor, 1) := by decide +kernel
theorem dX2_gather_294 : decode cX2_gather 294 = .ok (.lstore 5, 2) := by decide +kernel
theorem dX2_gather_296 : decode cX2_gather 296 = .ok (.lload 7, 2) := by decide +kernel
theorem dX2_gather_298 : decode cX2_gather 298 = .ok (.iconst 1, 1) := by decide +kernel
theorem dX2_gather_299 : decode cX2_gather 299 = .ok (.lshl, 1) := by decide +kernel
theorem dX2_gather_300 : decode cX2_gather 300 = .ok (.lstore 7, 2) := by decide +kernel
theorem dX2_gather_302 : decode cX2_gather 302 = .ok (.iinc 14 1, 3) := by decide +kernel
theorem dX2_gather_305 : decode cX2_gather 305 = .ok (.goto (-28), 3) := by decide +kernel
theorem dX2_gather_308 : decode cX2_gather 308 = .ok (.aload_n 0, 1) := by decide +kernel
theorem dX2_gather_309 : decode cX2_gather 309 = .ok (.lload 5, 2) := by decide +kernel
theorem dX2_gather_311 : decode cX2_gather 311 = .ok (.putfield 65, 3) := by decide +kernel
theorem dX2_gather_314 : decode cX2_gather 314 = .ok (.aload_n 0, 1) := by decide +kernel
theorem dX2_gather_315 : decode cX2_gather 315 = .ok (.lload 7, 2) := by decide +kernel
theorem dX2_gather_317 : decode cX2_gather 317 = .ok (.putfield 69, 3) := by decide +kernel
theorem dX2_gather_320 : decode cX2_gather 320 = .ok (.return_, 1) := by decide +kernel
set_option maxRecDepth 20000 in
theorem ggX2_share_X2_isBelow : GoodIn wsX2_share wsX2_isBelow := goodIn_r _ [6, 7] (by decide +kernel) (by decide +kernel)
set_option maxRecDepth 20000 in
theorem gX2_share_X2_isBelow : GoodIn wsX2_share (va_wsS RX2 61 yX2_isBelow wsX2_isBelow) := goodIn_app (goodIn_of _ (by decide +kernel)) ggX2_share_X2_isBelow
theorem dX2_share_0 : decode cX2_share 0 = .ok (.lconst 0, 1) := by decide +kernel
theorem dX2_share_1 : decode cX2_share 1 = .ok (.lstore 5, 2) := by decide +kernel
theorem dX2_share_3 : decode cX2_share 3 = .ok (.lconst 0, 1) := by decide +kernel
theorem dX2_share_4 : decode cX2_share 4 = .ok (.lstore 7, 2) := by decide +kernel
theorem dX2_share_6 : decode cX2_share 6 = .ok (.lconst 0, 1) := by decide +kernel
theorem dX2_share_7 : decode cX2_share 7 = .ok (.lstore 9, 2) := by decide +kernel
theorem dX2_share_9 : decode cX2_share 9 = .ok (.bipush 127, 2) := by decide +kernel
theorem dX2_share_11 : decode cX2_share 11 = .ok (.istore 11, 2) := by decide +kernel
theorem dX2_share_13 : decode cX2_share 13 = .ok (.iload 11, 2) := by decide +kernel
theorem dX2_share_15 : decode cX2_share 15 = .ok (.ifCond .lt 137, 3) := by decide +kernel
theorem dX2_share_18 : decode cX2_share 18 = .ok (.iload 11, 2) := by decide +kernel
theorem dX2_share_20 : decode cX2_share 20 = .ok (.bipush 63, 2) := by decide +kernel
theorem dX2_share_22 : decode cX2_share 22 = .ok (.if_icmp .le 15, 3) := by decide +kernel
theorem dX2_share_25 : decode cX2_share 25 = .ok (.lload_n 1, 1) := by decide +kernel
theorem dX2_share_26 : decode cX2_share 26 = .ok (.iload 11, 2) := by decide +kernel
theorem dX2_share_28 : decode cX2_share 28 = .ok (.bipush 64, 2) := by decide +kernel
theorem dX2_share_30 : decode cX2_share 30 = .ok (.isub, 1) := by decide +kernel
theorem dX2_share_31 : decode cX2_share 31 = .ok (.lushr, 1) := by decide +kernel
theorem dX2_share_32 : decode cX2_share 32 = .ok (.lconst 1, 1) := by decide +kernel
theorem dX2_share_33 : decode cX2_share 33 = .ok (.land, 1) := by decide +kernel
theorem dX2_share_34 : decode cX2_share 34 = .ok (.goto 9, 3) := by decide +kernel
theorem dX2_share_37 : decode cX2_share 37 = .ok (.lload_n 3, 1) := by decide +kernel
theorem dX2_share_38 : decode cX2_share 38 = .ok (.iload 11, 2) := by decide +kernel
theorem dX2_share_40 : decode cX2_share 40 = .ok (.lushr, 1) := by decide +kernel
theorem dX2_share_41 : decode cX2_share 41 = .ok (.lconst 1, 1) := by decide +kernel
theorem dX2_share_42 : decode cX2_share 42 = .ok (.land, 1) := by decide +kernel
theorem dX2_share_43 : decode cX2_share 43 = .ok (.lstore 12, 2) := by decide +kernel
theorem dX2_share_45 : decode cX2_share 45 = .ok (.lload 5, 2) := by decide +kernel
theorem dX2_share_47 : decode cX2_share 47 = .ok (.iconst 1, 1) := by decide +kernel
theorem dX2_share_48 : decode cX2_share 48 = .ok (.lshl, 1) := by decide +kernel
theorem dX2_share_49 : decode cX2_share 49 = .ok (.lload 7, 2) := by decide +kernel
theorem dX2_share_51 : decode cX2_share 51 = .ok (.bipush 63, 2) := by decide +kernel
theorem dX2_share_53 : decode cX2_share 53 = .ok (.lushr, 1) := by decide +kernel
theorem dX2_share_54 : decode cX2_share 54 = .ok (.lor, 1) := by decide +kernel
theorem dX2_share_55 : decode cX2_share 55 = .ok (.lstore 5, 2) := by decide +kernel
theorem dX2_share_57 : decode cX2_share 57 = .ok (.lload 7, 2) := by decide +kernel
theorem dX2_share_59 : decode cX2_share 59 = .ok (.iconst 1, 1) := by decide +kernel
theorem dX2_share_60 : decode cX2_share 60 = .ok (.lshl, 1) := by decide +kernel
theorem dX2_share_61 : decode cX2_share 61 = .ok (.lload 12, 2) := by decide +kernel
theorem dX2_share_63 : decode cX2_share 63 = .ok (.lor, 1) := by decide +kernel
theorem dX2_share_64 : decode cX2_share 64 = .ok (.lstore 7, 2) := by decide +kernel
theorem dX2_share_66 : decode cX2_share 66 = .ok (.lload 9, 2) := by decide +kernel
theorem dX2_share_68 : decode cX2_share 68 = .ok (.iconst 1, 1) := by decide +kernel
theorem dX2_share_69 : decode cX2_share 69 = .ok (.lshl, 1) := by decide +kernel
theorem dX2_share_70 : decode cX2_share 70 = .ok (.lstore 9, 2) := by decide +kernel
theorem dX2_share_72 : decode cX2_share 72 = .ok (.lload 5, 2) := by decide +kernel
theorem dX2_share_74 : decode cX2_share 74 = .ok (.aload_n 0, 1) := by decide +kernel
theorem dX2_share_75 : decode cX2_share 75 = .ok (.getfield 65, 3) := by decide +kernel
theorem dX2_share_78 : decode cX2_share 78 = .ok (.lcmp, 1) := by decide +kernel
theorem dX2_share_79 : decode cX2_share 79 = .ok (.ifCond .gt 25, 3) := by decide +kernel
theorem dX2_share_82 : decode cX2_share 82 = .ok (.lload 5, 2) := by decide +kernel
theorem dX2_share_84 : decode cX2_share 84 = .ok (.aload_n 0, 1) := by decide +kernel
theorem dX2_share_85 : decode cX2_share 85 = .ok (.getfield 65, 3) := by decide +kernel
theorem dX2_share_88 : decode cX2_share 88 = .ok (.lcmp, 1) := by decide +kernel
theorem dX2_share_89 : decode cX2_share 89 = .ok (.ifCond .ne 57, 3) := by decide +kernel
theorem dX2_share_92 : decode cX2_share 92 = .ok (.lload 7, 2) := by decide +kernel
theorem dX2_share_94 : decode cX2_share 94 = .ok (.aload_n 0, 1) := by decide +kernel
theorem dX2_share_95 : decode cX2_share 95 = .ok (.getfield 69, 3) := by decide +kernel
theorem dX2_share_98 : decode cX2_share 98 = .ok (.invokestatic 61, 3) := by decide +kernel
theorem dX2_share_101 : decode cX2_share 101 = .ok (.ifCond .ne 45, 3) := by decide +kernel
theorem dX2_share_104 : decode cX2_share 104 = .ok (.lload 5, 2) := by decide +kernel
theorem dX2_share_106 : decode cX2_share 106 = .ok (.aload_n 0, 1) := by decide +kernel
theorem dX2_share_107 : decode cX2_share 107 = .ok (.getfield 65, 3) := by decide +kernel
theorem dX2_share_110 : decode cX2_share 110 = .ok (.lsub, 1) := by decide +kernel
theorem dX2_share_111 : decode cX2_share 111 = .ok (.lload 7, 2) := by decide +kernel
theorem dX2_share_113 : decode cX2_share 113 = .ok (.aload_n 0, 1) := by decide +kernel
theorem dX2_share_114 : decode cX2_share 114 = .ok (.getfield 69, 3) := by decide +kernel
theorem dX2_share_117 : decode cX2_share 117 = .ok (.invokestatic 61, 3) := by decide +kernel
theorem dX2_share_120 : decode cX2_share 120 = .ok (.ifCond .eq 7, 3) := by decide +kernel
theorem dX2_share_123 : decode cX2_share 123 = .ok (.lconst 1, 1) := by decide +kernel
theorem dX2_share_124 : decode cX2_share 124 = .ok (.goto 4, 3) := by decide +kernel
theorem dX2_share_127 : decode cX2_share 127 = .ok (.lconst 0, 1) := by decide +kernel
theorem dX2_share_128 : decode cX2_share 128 = .ok (.lsub, 1) := by decide +kernel
theorem dX2_share_129 : decode cX2_share 129 = .ok (.lstore 5, 2) := by decide +kernel
theorem dX2_share_131 : decode cX2_share 131 = .ok (.lload 7, 2) := by decide +kernel
theorem dX2_share_133 : decode cX2_share 133 = .ok (.aload_n 0, 1) := by decide +kernel
theorem dX2_share_134 : decode cX2_share 134 = .ok (.getfield 69, 3) := by decide +kernel
theorem dX2_share_137 : decode cX2_share 137 = .ok (.lsub, 1) := by decide +kernel
theorem dX2_share_138 : decode cX2_share 138 = .ok (.lstore 7, 2) := by decide +kernel
theorem dX2_share_140 : decode cX2_share 140 = .ok (.lload 9, 2) := by decide +kernel
theorem dX2_share_142 : decode cX2_share 142 = .ok (.lconst 1, 1) := by decide +kernel
theorem dX2_share_143 : decode cX2_share 143 = .ok (.ladd, 1) := by decide +kernel
theorem dX2_share_144 : decode cX2_share 144 = .ok (.lstore 9, 2) := by decide +kernel
theorem dX2_share_146 : decode cX2_share 146 = .ok (.iinc 11 (-1), 3) := by decide +kernel
theorem dX2_share_149 : decode cX2_share 149 = .ok (.goto (-136), 3) := by decide +kernel
theorem dX2_share_152 : decode cX2_share 152 = .ok (.lload 9, 2) := by decide +kernel
theorem dX2_share_154 : decode cX2_share 154 = .ok (.lreturn, 1) := by decide +kernel
set_option maxRecDepth 20000 in
theorem ggX2_combine_X2_make : GoodIn wsX2_combine wsX2_make := goodIn_r _ [14, 4, 5, 15, 16, 13, 17, 18, 19, 20, 21, 22, 31, 32, 33, 34, 35, 36, 37, 38, 39, 40, 41, 42, 43, 44, 45, 46, 47, 48, 49] (by decide +kernel) (by decide +kernel)
set_option maxRecDepth 20000 in
theorem gX2_combine_X2_make : GoodIn wsX2_combine (wsV RX2 72 RX2 yX2_make wsX2_make) := goodIn_app (goodIn_of _ (by decide +kernel)) ggX2_combine_X2_make
set_option maxRecDepth 20000 in
theorem ggX2_combine_X2_gather : GoodIn wsX2_combine wsX2_gather := goodIn_r _ [26, 2, 3, 19, 20, 13, 21, 22, 31, 32, 33, 34, 35, 36, 37, 38, 39, 40, 41, 42, 43, 44, 45, 46, 47, 48, 49] (by decide +kernel) (by decide +kernel)
set_option maxRecDepth 20000 in
theorem gX2_combine_X2_gather : GoodIn wsX2_combine (wsV RX2 76 RX2 yX2_gather wsX2_gather) := goodIn_app (goodIn_of _ (by decide +kernel)) ggX2_combine_X2_gather
set_option maxRecDepth 20000 in
theorem ggX2_combine_X2_share : GoodIn wsX2_combine wsX2_share := goodIn_r _ [30, 2, 3, 19, 20, 13, 21, 22, 31, 32, 33, 34, 35, 36, 37, 38, 39, 40, 41, 42, 43, 44, 45, 46, 47, 48, 49] (by decide +kernel) (by decide +kernel)
set_option maxRecDepth 20000 in
theorem gX2_combine_X2_share : GoodIn wsX2_combine (wsV RX2 80 RX2 yX2_share wsX2_share) := goodIn_app (goodIn_of _ (by decide +kernel)) ggX2_combine_X2_share
theorem dX2_combine_0 : decode cX2_combine 0 = .ok (.aload_n 0, 1) := by decide +kernel
theorem dX2_combine_1 : decode cX2_combine 1 = .ok (.getfield 17, 3) := by decide +kernel
theorem dX2_combine_4 : decode cX2_combine 4 = .ok (.bipush 11, 2) := by decide +kernel
theorem dX2_combine_6 : decode cX2_combine 6 = .ok (.iload_n 1, 1) := by decide +kernel
theorem dX2_combine_7 : decode cX2_combine 7 = .ok (.imul, 1) := by decide +kernel
theorem dX2_combine_8 : decode cX2_combine 8 = .ok (.iload_n 3, 1) := by decide +kernel
theorem dX2_combine_9 : decode cX2_combine 9 = .ok (.iadd, 1) := by decide +kernel
theorem dX2_combine_10 : decode cX2_combine 10 = .ok (.laload, 1) := by decide +kernel
theorem dX2_combine_11 : decode cX2_combine 11 = .ok (.lstore 4, 2) := by decide +kernel
theorem dX2_combine_13 : decode cX2_combine 13 = .ok (.aload_n 0, 1) := by decide +kernel
theorem dX2_combine_14 : decode cX2_combine 14 = .ok (.getfield 17, 3) := by decide +kernel
theorem dX2_combine_17 : decode cX2_combine 17 = .ok (.bipush 11, 2) := by decide +kernel
theorem dX2_combine_19 : decode cX2_combine 19 = .ok (.iload_n 2, 1) := by decide +kernel
theorem dX2_combine_20 : decode cX2_combine 20 = .ok (.imul, 1) := by decide +kernel
theorem dX2_combine_21 : decode cX2_combine 21 = .ok (.iload_n 3, 1) := by decide +kernel
theorem dX2_combine_22 : decode cX2_combine 22 = .ok (.iadd, 1) := by decide +kernel
theorem dX2_combine_23 : decode cX2_combine 23 = .ok (.laload, 1) := by decide +kernel
theorem dX2_combine_24 : decode cX2_combine 24 = .ok (.lneg, 1) := by decide +kernel
theorem dX2_combine_25 : decode cX2_combine 25 = .ok (.lstore 6, 2) := by decide +kernel
theorem dX2_combine_27 : decode cX2_combine 27 = .ok (.aload_n 0, 1) := by decide +kernel
theorem dX2_combine_28 : decode cX2_combine 28 = .ok (.lconst 0, 1) := by decide +kernel
theorem dX2_combine_29 : decode cX2_combine 29 = .ok (.putfield 65, 3) := by decide +kernel
theorem dX2_combine_32 : decode cX2_combine 32 = .ok (.aload_n 0, 1) := by decide +kernel
theorem dX2_combine_33 : decode cX2_combine 33 = .ok (.lconst 0, 1) := by decide +kernel
theorem dX2_combine_34 : decode cX2_combine 34 = .ok (.putfield 69, 3) := by decide +kernel
theorem dX2_combine_37 : decode cX2_combine 37 = .ok (.iconst 0, 1) := by decide +kernel
theorem dX2_combine_38 : decode cX2_combine 38 = .ok (.istore 8, 2) := by decide +kernel
theorem dX2_combine_40 : decode cX2_combine 40 = .ok (.iload 8, 2) := by decide +kernel
theorem dX2_combine_42 : decode cX2_combine 42 = .ok (.bipush 11, 2) := by decide +kernel
theorem dX2_combine_44 : decode cX2_combine 44 = .ok (.if_icmp .ge 133, 3) := by decide +kernel
theorem dX2_combine_47 : decode cX2_combine 47 = .ok (.aload_n 0, 1) := by decide +kernel
theorem dX2_combine_48 : decode cX2_combine 48 = .ok (.iload 8, 2) := by decide +kernel
theorem dX2_combine_50 : decode cX2_combine 50 = .ok (.aload_n 0, 1) := by decide +kernel
theorem dX2_combine_51 : decode cX2_combine 51 = .ok (.getfield 17, 3) := by decide +kernel
theorem dX2_combine_54 : decode cX2_combine 54 = .ok (.bipush 11, 2) := by decide +kernel
theorem dX2_combine_56 : decode cX2_combine 56 = .ok (.iload_n 1, 1) := by decide +kernel
theorem dX2_combine_57 : decode cX2_combine 57 = .ok (.imul, 1) := by decide +kernel
theorem dX2_combine_58 : decode cX2_combine 58 = .ok (.iload 8, 2) := by decide +kernel
theorem dX2_combine_60 : decode cX2_combine 60 = .ok (.iadd, 1) := by decide +kernel
theorem dX2_combine_61 : decode cX2_combine 61 = .ok (.laload, 1) := by decide +kernel
theorem dX2_combine_62 : decode cX2_combine 62 = .ok (.lload 6, 2) := by decide +kernel
theorem dX2_combine_64 : decode cX2_combine 64 = .ok (.aload_n 0, 1) := by decide +kernel
theorem dX2_combine_65 : decode cX2_combine 65 = .ok (.getfield 17, 3) := by decide +kernel
theorem dX2_combine_68 : decode cX2_combine 68 = .ok (.bipush 11, 2) := by decide +kernel
theorem dX2_combine_70 : decode cX2_combine 70 = .ok (.iload_n 2, 1) := by decide +kernel
theorem dX2_combine_71 : decode cX2_combine 71 = .ok (.imul, 1) := by decide +kernel
theorem dX2_combine_72 : decode cX2_combine 72 = .ok (.iload 8, 2) := by decide +kernel
theorem dX2_combine_74 : decode cX2_combine 74 = .ok (.iadd, 1) := by decide +kernel
theorem dX2_combine_75 : decode cX2_combine 75 = .ok (.laload, 1) := by decide +kernel
theorem dX2_combine_76 : decode cX2_combine 76 = .ok (.lload 4, 2) := by decide +kernel
theorem dX2_combine_78 : decode cX2_combine 78 = .ok (.invokevirtual 72, 3) := by decide +kernel
theorem dX2_combine_81 : decode cX2_combine 81 = .ok (.aload_n 0, 1) := by decide +kernel
theorem dX2_combine_82 : decode cX2_combine 82 = .ok (.getfield 30, 3) := by decide +kernel
theorem dX2_combine_85 : decode cX2_combine 85 = .ok (.iload 8, 2) := by decide +kernel
theorem dX2_combine_87 : decode cX2_combine 87 = .ok (.laload, 1) := by decide +kernel
theorem dX2_combine_88 : decode cX2_combine 88 = .ok (.lconst 0, 1) := by decide +kernel
theorem dX2_combine_89 : decode cX2_combine 89 = .ok (.lcmp, 1) := by decide +kernel
theorem dX2_combine_90 : decode cX2_combine 90 = .ok (.ifCond .ge 7, 3) := by decide +kernel
theorem dX2_combine_93 : decode cX2_combine 93 = .ok (.iconst 1, 1) := by decide +kernel
theorem dX2_combine_94 : decode cX2_combine 94 = .ok (.goto 4, 3) := by decide +kernel
theorem dX2_combine_97 : decode cX2_combine 97 = .ok (.iconst 0, 1) := by decide +kernel
theorem dX2_combine_98 : decode cX2_combine 98 = .ok (.istore 9, 2) := by decide +kernel
theorem dX2_combine_100 : decode cX2_combine 100 = .ok (.iload 9, 2) := by decide +kernel
theorem dX2_combine_102 : decode cX2_combine 102 = .ok (.ifCond .eq 14, 3) := by decide +kernel
end
section
theorem dJ13_bitCount_95d88_0 : decode cJ13_bitCount_95d88 0 = .ok (.lload_n 0, 1) := by decide +kernel
theorem dJ13_bitCount_95d88_1 : decode cJ13_bitCount_95d88 1 = .ok (.lload_n 0, 1) := by decide +kernel
theorem dJ13_bitCount_95d88_2 : decode cJ13_bitCount_95d88 2 = .ok (.iconst 1, 1) := by decide +kernel
theorem dJ13_bitCount_95d88_3 : decode cJ13_bitCount_95d88 3 = .ok (.lushr, 1) := by decide +kernel
theorem dJ13_bitCount_95d88_4 : decode cJ13_bitCount_95d88 4 = .ok (.ldc2_w 314, 3) := by decide +kernel
theorem dJ13_bitCount_95d88_7 : decode cJ13_bitCount_95d88 7 = .ok (.land, 1) := by decide +kernel
theorem dJ13_bitCount_95d88_8 : decode cJ13_bitCount_95d88 8 = .ok (.lsub, 1) := by decide +kernel
theorem dJ13_bitCount_95d88_9 : decode cJ13_bitCount_95d88 9 = .ok (.lstore_n 0, 1) := by decide +kernel
theorem dJ13_bitCount_95d88_10 : decode cJ13_bitCount_95d88 10 = .ok (.lload_n 0, 1) := by decide +kernel
theorem dJ13_bitCount_95d88_11 : decode cJ13_bitCount_95d88 11 = .ok (.ldc2_w 316, 3) := by decide +kernel
theorem dJ13_bitCount_95d88_14 : decode cJ13_bitCount_95d88 14 = .ok (.land, 1) := by decide +kernel
theorem dJ13_bitCount_95d88_15 : decode cJ13_bitCount_95d88 15 = .ok (.lload_n 0, 1) := by decide +kernel
theorem dJ13_bitCount_95d88_16 : decode cJ13_bitCount_95d88 16 = .ok (.iconst 2, 1) := by decide +kernel
theorem dJ13_bitCount_95d88_17 : decode cJ13_bitCount_95d88 17 = .ok (.lushr, 1) := by decide +kernel
theorem dJ13_bitCount_95d88_18 : decode cJ13_bitCount_95d88 18 = .ok (.ldc2_w 316, 3) := by decide +kernel
theorem dJ13_bitCount_95d88_21 : decode cJ13_bitCount_95d88 21 = .ok (.land, 1) := by decide +kernel
theorem dJ13_bitCount_95d88_22 : decode cJ13_bitCount_95d88 22 = .ok (.ladd, 1) := by decide +kernel
theorem dJ13_bitCount_95d88_23 : decode cJ13_bitCount_95d88 23 = .ok (.lstore_n 0, 1) := by decide +kernel
theorem dJ13_bitCount_95d88_24 : decode cJ13_bitCount_95d88 24 = .ok (.lload_n 0, 1) := by decide +kernel
theorem dJ13_bitCount_95d88_25 : decode cJ13_bitCount_95d88 25 = .ok (.lload_n 0, 1) := by decide +kernel
theorem dJ13_bitCount_95d88_26 : decode cJ13_bitCount_95d88 26 = .ok (.iconst 4, 1) := by decide +kernel
theorem dJ13_bitCount_95d88_27 : decode cJ13_bitCount_95d88 27 = .ok (.lushr, 1) := by decide +kernel
theorem dJ13_bitCount_95d88_28 : decode cJ13_bitCount_95d88 28 = .ok (.ladd, 1) := by decide +kernel
theorem dJ13_bitCount_95d88_29 : decode cJ13_bitCount_95d88 29 = .ok (.ldc2_w 318, 3) := by decide +kernel
theorem dJ13_bitCount_95d88_32 : decode cJ13_bitCount_95d88 32 = .ok (.land, 1) := by decide +kernel
theorem dJ13_bitCount_95d88_33 : decode cJ13_bitCount_95d88 33 = .ok (.lstore_n 0, 1) := by decide +kernel
theorem dJ13_bitCount_95d88_34 : decode cJ13_bitCount_95d88 34 = .ok (.lload_n 0, 1) := by decide +kernel
theorem dJ13_bitCount_95d88_35 : decode cJ13_bitCount_95d88 35 = .ok (.lload_n 0, 1) := by decide +kernel
theorem dJ13_bitCount_95d88_36 : decode cJ13_bitCount_95d88 36 = .ok (.bipush 8, 2) := by decide +kernel
theorem dJ13_bitCount_95d88_38 : decode cJ13_bitCount_95d88 38 = .ok (.lushr, 1) := by decide +kernel
theorem dJ13_bitCount_95d88_39 : decode cJ13_bitCount_95d88 39 = .ok (.ladd, 1) := by decide +kernel
theorem dJ13_bitCount_95d88_40 : decode cJ13_bitCount_95d88 40 = .ok (.lstore_n 0, 1) := by decide +kernel
theorem dJ13_bitCount_95d88_41 : decode cJ13_bitCount_95d88 41 = .ok (.lload_n 0, 1) := by decide +kernel
theorem dJ13_bitCount_95d88_42 : decode cJ13_bitCount_95d88 42 = .ok (.lload_n 0, 1) := by decide +kernel
theorem dJ13_bitCount_95d88_43 : decode cJ13_bitCount_95d88 43 = .ok (.bipush 16, 2) := by decide +kernel
theorem dJ13_bitCount_95d88_45 : decode cJ13_bitCount_95d88 45 = .ok (.lushr, 1) := by decide +kernel
theorem dJ13_bitCount_95d88_46 : decode cJ13_bitCount_95d88 46 = .ok (.ladd, 1) := by decide +kernel
theorem dJ13_bitCount_95d88_47 : decode cJ13_bitCount_95d88 47 = .ok (.lstore_n 0, 1) := by decide +kernel
theorem dJ13_bitCount_95d88_48 : decode cJ13_bitCount_95d88 48 = .ok (.lload_n 0, 1) := by decide +kernel
theorem dJ13_bitCount_95d88_49 : decode cJ13_bitCount_95d88 49 = .ok (.lload_n 0, 1) := by decide +kernel
theorem dJ13_bitCount_95d88_50 : decode cJ13_bitCount_95d88 50 = .ok (.bipush 32, 2) := by decide +kernel
theorem dJ13_bitCount_95d88_52 : decode cJ13_bitCount_95d88 52 = .ok (.lushr, 1) := by decide +kernel
theorem dJ13_bitCount_95d88_53 : decode cJ13_bitCount_95d88 53 = .ok (.ladd, 1) := by decide +kernel
theorem dJ13_bitCount_95d88_54 : decode cJ13_bitCount_95d88 54 = .ok (.lstore_n 0, 1) := by decide +kernel
theorem dJ13_bitCount_95d88_55 : decode cJ13_bitCount_95d88 55 = .ok (.lload_n 0, 1) := by decide +kernel
theorem dJ13_bitCount_95d88_56 : decode cJ13_bitCount_95d88 56 = .ok (.l2i, 1) := by decide +kernel
theorem dJ13_bitCount_95d88_57 : decode cJ13_bitCount_95d88 57 = .ok (.bipush 127, 2) := by decide +kernel
theorem dJ13_bitCount_95d88_59 : decode cJ13_bitCount_95d88 59 = .ok (.iand, 1) := by decide +kernel
theorem dJ13_bitCount_95d88_60 : decode cJ13_bitCount_95d88 60 = .ok (.ireturn, 1) := by decide +kernel
theorem dJ9_abs_067f4_0 : decode cJ9_abs_067f4 0 = .ok (.lload_n 0, 1) := by decide +kernel
theorem dJ9_abs_067f4_1 : decode cJ9_abs_067f4 1 = .ok (.lconst 0, 1) := by decide +kernel
theorem dJ9_abs_067f4_2 : decode cJ9_abs_067f4 2 = .ok (.lcmp, 1) := by decide +kernel
theorem dJ9_abs_067f4_3 : decode cJ9_abs_067f4 3 = .ok (.ifCond .ge 8, 3) := by decide +kernel
theorem dJ9_abs_067f4_6 : decode cJ9_abs_067f4 6 = .ok (.lload_n 0, 1) := by decide +kernel
theorem dJ9_abs_067f4_7 : decode cJ9_abs_067f4 7 = .ok (.lneg, 1) := by decide +kernel
theorem dJ9_abs_067f4_8 : decode cJ9_abs_067f4 8 = .ok (.goto 4, 3) := by decide +kernel
theorem dJ9_abs_067f4_11 : decode cJ9_abs_067f4 11 = .ok (.lload_n 0, 1) := by decide +kernel
theorem dJ9_abs_067f4_12 : decode cJ9_abs_067f4 12 = .ok (.lreturn, 1) := by decide +kernel
theorem dJ9_max_f86c9_0 : decode cJ9_max_f86c9 0 = .ok (.lload_n 0, 1) := by decide +kernel
theorem dJ9_max_f86c9_1 : decode cJ9_max_f86c9 1 = .ok (.lload_n 2, 1) := by decide +kernel
theorem dJ9_max_f86c9_2 : decode cJ9_max_f86c9 2 = .ok (.lcmp, 1) := by decide +kernel
theorem dJ9_max_f86c9_3 : decode cJ9_max_f86c9 3 = .ok (.ifCond .lt 7, 3) := by decide +kernel
theorem dJ9_max_f86c9_6 : decode cJ9_max_f86c9 6 = .ok (.lload_n 0, 1) := by decide +kernel
theorem dJ9_max_f86c9_7 : decode cJ9_max_f86c9 7 = .ok (.goto 4, 3) := by decide +kernel
theorem dJ9_max_f86c9_10 : decode cJ9_max_f86c9 10 = .ok (.lload_n 2, 1) := by decide +kernel
theorem dJ9_max_f86c9_11 : decode cJ9_max_f86c9 11 = .ok (.lreturn, 1) := by decide +kernel
theorem dJ9_min_7cf53_0 : decode cJ9_min_7cf53 0 = .ok (.iload_n 0, 1) := by decide +kernel
theorem dJ9_min_7cf53_1 : decode cJ9_min_7cf53 1 = .ok (.iload_n 1, 1) := by decide +kernel
theorem dJ9_min_7cf53_2 : decode cJ9_min_7cf53 2 = .ok (.if_icmp .gt 7, 3) := by decide +kernel
theorem dJ9_min_7cf53_5 : decode cJ9_min_7cf53 5 = .ok (.iload_n 0, 1) := by decide +kernel
theorem dJ9_min_7cf53_6 : decode cJ9_min_7cf53 6 = .ok (.goto 4, 3) := by decide +kernel
theorem dJ9_min_7cf53_9 : decode cJ9_min_7cf53 9 = .ok (.iload_n 1, 1) := by decide +kernel
theorem dJ9_min_7cf53_10 : decode cJ9_min_7cf53 10 = .ok (.ireturn, 1) := by decide +kernel
theorem dJ7_fill_d0a16_0 : decode cJ7_fill_d0a16 0 = .ok (.iconst 0, 1) := by decide +kernel
theorem dJ7_fill_d0a16_1 : decode cJ7_fill_d0a16 1 = .ok (.istore_n 3, 1) := by decide +kernel
theorem dJ7_fill_d0a16_2 : decode cJ7_fill_d0a16 2 = .ok (.aload_n 0, 1) := by decide +kernel
theorem dJ7_fill_d0a16_3 : decode cJ7_fill_d0a16 3 = .ok (.arraylength, 1) := by decide +kernel
theorem dJ7_fill_d0a16_4 : decode cJ7_fill_d0a16 4 = .ok (.istore 4, 2) := by decide +kernel
theorem dJ7_fill_d0a16_6 : decode cJ7_fill_d0a16 6 = .ok (.iload_n 3, 1) := by decide +kernel
theorem dJ7_fill_d0a16_7 : decode cJ7_fill_d0a16 7 = .ok (.iload 4, 2) := by decide +kernel
theorem dJ7_fill_d0a16_9 : decode cJ7_fill_d0a16 9 = .ok (.if_icmp .ge 13, 3) := by decide +kernel
theorem dJ7_fill_d0a16_12 : decode cJ7_fill_d0a16 12 = .ok (.aload_n 0, 1) := by decide +kernel
theorem dJ7_fill_d0a16_13 : decode cJ7_fill_d0a16 13 = .ok (.iload_n 3, 1) := by decide +kernel
theorem dJ7_fill_d0a16_14 : decode cJ7_fill_d0a16 14 = .ok (.lload_n 1, 1) := by decide +kernel
theorem dJ7_fill_d0a16_15 : decode cJ7_fill_d0a16 15 = .ok (.lastore, 1) := by decide +kernel
theorem dJ7_fill_d0a16_16 : decode cJ7_fill_d0a16 16 = .ok (.iinc 3 1, 3) := by decide +kernel
theorem dJ7_fill_d0a16_19 : decode cJ7_fill_d0a16 19 = .ok (.goto (-13), 3) := by decide +kernel
theorem dJ7_fill_d0a16_22 : decode cJ7_fill_d0a16 22 = .ok (.return_, 1) := by decide +kernel
theorem dJ7_fill_53178_0 : decode cJ7_fill_53178 0 = .ok (.iconst 0, 1) := by decide +kernel
theorem dJ7_fill_53178_1 : decode cJ7_fill_53178 1 = .ok (.istore_n 2, 1) := by decide +kernel
theorem dJ7_fill_53178_2 : decode cJ7_fill_53178 2 = .ok (.aload_n 0, 1) := by decide +kernel
theorem dJ7_fill_53178_3 : decode cJ7_fill_53178 3 = .ok (.arraylength, 1) := by decide +kernel
theorem dJ7_fill_53178_4 : decode cJ7_fill_53178 4 = .ok (.istore_n 3, 1) := by decide +kernel
theorem dJ7_fill_53178_5 : decode cJ7_fill_53178 5 = .ok (.iload_n 2, 1) := by decide +kernel
theorem dJ7_fill_53178_6 : decode cJ7_fill_53178 6 = .ok (.iload_n 3, 1) := by decide +kernel
theorem dJ7_fill_53178_7 : decode cJ7_fill_53178 7 = .ok (.if_icmp .ge 13, 3) := by decide +kernel
theorem dJ7_fill_53178_10 : decode cJ7_fill_53178 10 = .ok (.aload_n 0, 1) := by decide +kernel
theorem dJ7_fill_53178_11 : decode cJ7_fill_53178 11 = .ok (.iload_n 2, 1) := by decide +kernel
theorem dJ7_fill_53178_12 : decode cJ7_fill_53178 12 = .ok (.iload_n 1, 1) := by decide +kernel
theorem dJ7_fill_53178_13 : decode cJ7_fill_53178 13 = .ok (.iastore, 1) := by decide +kernel
theorem dJ7_fill_53178_14 : decode cJ7_fill_53178 14 = .ok (.iinc 2 1, 3) := by decide +kernel
theorem dJ7_fill_53178_17 : decode cJ7_fill_53178 17 = .ok (.goto (-12), 3) := by decide +kernel
theorem dJ7_fill_53178_20 : decode cJ7_fill_53178 20 = .ok (.return_, 1) := by decide +kernel
end
section
/-! ===== PURE: exterior algebra over the rationals by pairs; determinants, Cramer's rule, Hadamard's bound ===== -/
theorem rq_1 (x a y : Rat) : x * (a * y) = a * (x * y) := by grind
theorem rq_2 (x y : Rat) : 0 * y = x * 0 := by grind
theorem rq_3 (x : Rat) : (0 : Rat) ≤ x * x := by
  rcases Rat.le_total (a := 0) (b := x) with h | h
  · exact Rat.mul_nonneg h h
  · have : (0 : Rat) ≤ (-x) * (-x) := Rat.mul_nonneg (by grind) (by grind)
    grind
/-- the exterior algebra of n coordinates: x = x.1 + e_n x.2 -/
def Ex : Nat → Type
  | 0 => Rat
  | n + 1 => Ex n × Ex n
def exZ : (n : Nat) → Ex n
  | 0 => (0 : Rat)
  | n + 1 => (exZ n, exZ n)
def exO : (n : Nat) → Ex n
  | 0 => (1 : Rat)
  | n + 1 => (exO n, exZ n)
def exA : (n : Nat) → Ex n → Ex n → Ex n
  | 0, x, y => Rat.add x y
  | n + 1, x, y => (exA n x.1 y.1, exA n x.2 y.2)
def exS : (n : Nat) → Rat → Ex n → Ex n
  | 0, a, x => Rat.mul a x
  | n + 1, a, x => (exS n a x.1, exS n a x.2)
def exP : (n : Nat) → Ex n → Ex n → Rat
  | 0, x, y => Rat.mul x y
  | n + 1, x, y => exP n x.1 y.1 + exP n x.2 y.2
def exW : (n : Nat) → (Nat → Rat) → Ex n → Ex n
  | 0, _, _ => (0 : Rat)
  | n + 1, v, x => (exW n v x.1, exA n (exS n (v n) x.1) (exS n (-1) (exW n v x.2)))
def exC : (n : Nat) → (Nat → Rat) → Ex n → Ex n
  | 0, _, _ => (0 : Rat)
  | n + 1, v, x => (exA n (exC n v x.1) (exS n (v n) x.2), exS n (-1) (exC n v x.2))
def exT : (n : Nat) → Ex n → Rat
  | 0, x => x
  | n + 1, x => exT n x.2
def exN : Nat → (Nat → Rat) → Rat
  | 0, _ => 0
  | n + 1, v => exN n v + v n * v n
theorem exA_comm : ∀ (n : Nat) (x y : Ex n), exA n x y = exA n y x
  | 0, x, y => Rat.add_comm x y
  | n + 1, x, y => by show (_, _) = (_, _); rw [exA_comm n x.1, exA_comm n x.2]
theorem exA_assoc : ∀ (n : Nat) (x y z : Ex n), exA n (exA n x y) z = exA n x (exA n y z)
  | 0, x, y, z => Rat.add_assoc x y z
  | n + 1, x, y, z => by show (_, _) = (_, _); simp only [exA]; rw [exA_assoc n x.1, exA_assoc n x.2]
theorem exA_Z : ∀ (n : Nat) (x : Ex n), exA n x (exZ n) = x
  | 0, x => Rat.add_zero x
  | n + 1, x => by show (_, _) = (x.1, x.2); rw [show (exZ (n+1)).1 = exZ n from rfl, show (exZ (n+1)).2 = exZ n from rfl, exA_Z n, exA_Z n]
theorem exZ_A (n : Nat) (x : Ex n) : exA n (exZ n) x = x := by rw [exA_comm, exA_Z]
theorem exS_A : ∀ (n : Nat) (a : Rat) (x y : Ex n), exS n a (exA n x y) = exA n (exS n a x) (exS n a y)
  | 0, a, x, y => Rat.mul_add a x y
  | n + 1, a, x, y => by show (_, _) = (_, _); simp only [exA]; rw [exS_A n, exS_A n]; rfl
theorem exA_S : ∀ (n : Nat) (a b : Rat) (x : Ex n), exS n (a + b) x = exA n (exS n a x) (exS n b x)
  | 0, a, b, x => Rat.add_mul a b x
  | n + 1, a, b, x => by show (_, _) = (_, _); rw [exA_S n, exA_S n]; rfl
theorem exS_S : ∀ (n : Nat) (a b : Rat) (x : Ex n), exS n a (exS n b x) = exS n (a * b) x
  | 0, a, b, x => (Rat.mul_assoc a b x).symm
  | n + 1, a, b, x => by show (_, _) = (_, _); simp only [exS]; rw [exS_S n, exS_S n]
theorem exS_1 : ∀ (n : Nat) (x : Ex n), exS n 1 x = x
  | 0, x => Rat.one_mul x
  | n + 1, x => by show (_, _) = (x.1, x.2); rw [exS_1 n, exS_1 n]
theorem exS_0 : ∀ (n : Nat) (x : Ex n), exS n 0 x = exZ n
  | 0, x => Rat.zero_mul x
  | n + 1, x => by show (_, _) = (_, _); rw [exS_0 n, exS_0 n]
theorem exS_Z : ∀ (n : Nat) (a : Rat), exS n a (exZ n) = exZ n
  | 0, a => Rat.mul_zero a
  | n + 1, a => by show (_, _) = (_, _); simp only [exZ]; rw [exS_Z n]
/-- four summands, the inner two change places -/
theorem exA_4 (n : Nat) (a b c d : Ex n) : exA n (exA n a b) (exA n c d) = exA n (exA n a c) (exA n b d) := by
  rw [exA_assoc, ← exA_assoc n b c d, exA_comm n b c, exA_assoc n c b d, ← exA_assoc]
theorem exW_A : ∀ (n : Nat) (v : Nat → Rat) (x y : Ex n), exW n v (exA n x y) = exA n (exW n v x) (exW n v y)
  | 0, _, _, _ => (Rat.add_zero 0).symm
  | n + 1, v, x, y => by
    show (_, _) = (_, _)
    simp only [exA, exW]
    rw [exW_A n, exW_A n, exS_A, exS_A, exA_4]
theorem exW_S : ∀ (n : Nat) (v : Nat → Rat) (a : Rat) (x : Ex n), exW n v (exS n a x) = exS n a (exW n v x)
  | 0, _, a, _ => (Rat.mul_zero a).symm
  | n + 1, v, a, x => by
    show (_, _) = (_, _)
    simp only [exS, exW]
    rw [exW_S n, exW_S n, exS_A, exS_S, exS_S, exS_S, exS_S, Rat.mul_comm (v n) a, Rat.mul_comm (-1) a]
theorem exW_Z (n : Nat) (v : Nat → Rat) : exW n v (exZ n) = exZ n := by
  have h := exW_S n v 0 (exZ n)
  rw [exS_0, exS_0] at h
  exact h
theorem exW_Av : ∀ (n : Nat) (v w : Nat → Rat) (x : Ex n), exW n (fun k => v k + w k) x = exA n (exW n v x) (exW n w x)
  | 0, _, _, _ => (Rat.add_zero 0).symm
  | n + 1, v, w, x => by
    show (_, _) = (_, _)
    simp only [exA, exW]
    rw [exW_Av n, exW_Av n, exA_S, exS_A, exA_4]
theorem exW_Sv : ∀ (n : Nat) (a : Rat) (v : Nat → Rat) (x : Ex n), exW n (fun k => a * v k) x = exS n a (exW n v x)
  | 0, a, _, _ => (Rat.mul_zero a).symm
  | n + 1, a, v, x => by
    show (_, _) = (_, _)
    simp only [exS, exW]
    rw [exW_Sv n, exW_Sv n, exS_A, exS_S, exS_S, exS_S, Rat.mul_comm (-1) a]
theorem exA_n (n : Nat) (x : Ex n) : exA n x (exS n (-1) x) = exZ n := by
  have h := exA_S n 1 (-1) x
  rw [show (1 : Rat) + -1 = 0 from by grind, exS_0, exS_1] at h
  exact h.symm
/-- twice the same: nothing -/
theorem exW_2 : ∀ (n : Nat) (v : Nat → Rat) (x : Ex n), exW n v (exW n v x) = exZ n
  | 0, _, _ => rfl
  | n + 1, v, x => by
    show (_, _) = (_, _)
    simp only [exW]
    rw [exW_2 n, exW_A, exW_S, exW_S, exW_2 n, exS_Z, exA_Z, exA_n]
theorem exW_n (n : Nat) (v w : Nat → Rat) (x : Ex n) : exW n v (exW n w x) = exS n (-1) (exW n w (exW n v x)) := by
  have h := exW_2 n (fun k => v k + w k) x
  rw [exW_Av, exW_Av, exW_A, exW_A, exW_2, exW_2, exZ_A, exA_Z] at h
  have h2 : exA n (exA n (exW n w (exW n v x)) (exW n v (exW n w x))) (exS n (-1) (exW n w (exW n v x))) = exA n (exZ n) (exS n (-1) (exW n w (exW n v x))) := by
    rw [exA_comm n (exW n w (exW n v x)), h]
  rw [exZ_A, exA_comm n (exW n w (exW n v x)), exA_assoc, exA_n, exA_Z] at h2
  exact h2
theorem exP_comm : ∀ (n : Nat) (x y : Ex n), exP n x y = exP n y x
  | 0, x, y => Rat.mul_comm x y
  | n + 1, x, y => by simp only [exP]; rw [exP_comm n x.1, exP_comm n x.2]
theorem exP_A : ∀ (n : Nat) (x y z : Ex n), exP n x (exA n y z) = exP n x y + exP n x z
  | 0, x, y, z => Rat.mul_add x y z
  | n + 1, x, y, z => by simp only [exP, exA]; rw [exP_A n, exP_A n]; grind
theorem exP_S : ∀ (n : Nat) (a : Rat) (x y : Ex n), exP n x (exS n a y) = a * exP n x y
  | 0, a, x, y => rq_1 x a y
  | n + 1, a, x, y => by simp only [exP, exS]; rw [exP_S n, exP_S n]; grind
theorem exP_Al (n : Nat) (x y z : Ex n) : exP n (exA n x y) z = exP n x z + exP n y z := by
  rw [exP_comm, exP_A, exP_comm n z x, exP_comm n z y]
theorem exP_Sl (n : Nat) (a : Rat) (x y : Ex n) : exP n (exS n a x) y = a * exP n x y := by
  rw [exP_comm, exP_S, exP_comm n y x]
/-- the two are adjoint -/
theorem exP_W : ∀ (n : Nat) (v : Nat → Rat) (x y : Ex n), exP n (exW n v x) y = exP n x (exC n v y)
  | 0, _, x, y => rq_2 x y
  | n + 1, v, x, y => by
    simp only [exP, exW, exC]
    rw [exP_Al, exP_Sl, exP_Sl, exP_W n, exP_W n, exP_A, exP_S, exP_S]
    grind
theorem exP_WC : ∀ (n : Nat) (v : Nat → Rat) (x : Ex n), exP n (exW n v x) (exW n v x) + exP n (exC n v x) (exC n v x) = exN n v * exP n x x
  | 0, _, x => by show (0 : Rat) * 0 + (0 : Rat) * 0 = 0 * _; grind
  | n + 1, v, x => by
    have h1 := exP_WC n v x.1
    have h2 := exP_WC n v x.2
    have h3 := exP_W n v x.2 x.1
    have h4 := exP_comm n (exW n v x.2) x.1
    have h5 := exP_comm n (exC n v x.1) x.2
    simp only [exP, exW, exC, exN, exP_A, exP_S, exP_Al, exP_Sl]
    grind
theorem exP_pos : ∀ (n : Nat) (x : Ex n), 0 ≤ exP n x x
  | 0, x => rq_3 x
  | n + 1, x => by
    have h1 := exP_pos n x.1
    have h2 := exP_pos n x.2
    simp only [exP]
    grind
theorem exW_le (n : Nat) (v : Nat → Rat) (x : Ex n) : exP n (exW n v x) (exW n v x) ≤ exN n v * exP n x x := by
  have h1 := exP_WC n v x
  have h2 := exP_pos n (exC n v x)
  grind
end
section
/-! ===== PURE: wedges of columns, determinants ===== -/
/-- col 0 .. col (k-1), wedged -/
def exD (n : Nat) : Nat → (Nat → Nat → Rat) → Ex n
  | 0, _ => exO n
  | k + 1, col => exW n (col k) (exD n k col)
/-- a family with one member put anew -/
def fup {α : Type} (f : Nat → α) (i : Nat) (v : α) : Nat → α := fun j => if j = i then v else f j
theorem fup_s {α : Type} (f : Nat → α) (i : Nat) (v : α) : fup f i v i = v := by simp [fup]
theorem fup_n {α : Type} (f : Nat → α) {i j : Nat} (v : α) (h : j ≠ i) : fup f i v j = f j := by simp [fup, h]
theorem fup_id {α : Type} (f : Nat → α) (i : Nat) : fup f i (f i) = f := by
  funext j; by_cases h : j = i <;> simp [fup, h]
theorem fup_2 {α : Type} (f : Nat → α) (i : Nat) (v w : α) : fup (fup f i v) i w = fup f i w := by
  funext j; by_cases h : j = i <;> simp [fup, h]
theorem exD_congr (n : Nat) : ∀ (k : Nat) (c d : Nat → Nat → Rat), (∀ i, i < k → c i = d i) → exD n k c = exD n k d
  | 0, _, _, _ => rfl
  | k + 1, c, d, h => by
    simp only [exD]
    rw [exD_congr n k c d (fun i hi => h i (by omega)), h k (by omega)]
/-- a member that is among those wedged adds nothing -/
theorem exD_in (n : Nat) (v : Nat → Rat) : ∀ (k : Nat) (c : Nat → Nat → Rat) (i : Nat), i < k → c i = v → exW n v (exD n k c) = exZ n
  | 0, _, _, h, _ => by omega
  | k + 1, c, i, h, e => by
    simp only [exD]
    by_cases hk : i = k
    · subst hk
      rw [e, exW_2]
    · rw [exW_n, exD_in n v k c i (by omega) e, exW_Z, exS_Z]
theorem exD_same (n : Nat) : ∀ (k : Nat) (c : Nat → Nat → Rat) (i j : Nat), i < j → j < k → c i = c j → exD n k c = exZ n
  | 0, _, _, _, _, h, _ => by omega
  | k + 1, c, i, j, hij, h, e => by
    simp only [exD]
    by_cases hk : j = k
    · subst hk
      exact exD_in n (c j) j c i hij e
    · rw [exD_same n k c i j hij (by omega) e, exW_Z]
theorem exD_add (n : Nat) (i : Nat) (v w : Nat → Rat) : ∀ (k : Nat) (c : Nat → Nat → Rat), i < k → exD n k (fup c i (fun t => v t + w t)) = exA n (exD n k (fup c i v)) (exD n k (fup c i w))
  | 0, _, h => by omega
  | k + 1, c, h => by
    simp only [exD]
    by_cases hk : i = k
    · subst hk
      rw [fup_s, fup_s, fup_s, exW_Av]
      rw [exD_congr n i (fup c i (fun t => v t + w t)) c (fun j hj => fup_n _ _ (by omega)), exD_congr n i (fup c i v) c (fun j hj => fup_n _ _ (by omega)), exD_congr n i (fup c i w) c (fun j hj => fup_n _ _ (by omega))]
    · rw [exD_add n i v w k c (by omega), exW_A, fup_n _ _ (fun q => hk q.symm), fup_n _ _ (fun q => hk q.symm), fup_n _ _ (fun q => hk q.symm)]
theorem exD_smul (n : Nat) (i : Nat) (a : Rat) (v : Nat → Rat) : ∀ (k : Nat) (c : Nat → Nat → Rat), i < k → exD n k (fup c i (fun t => a * v t)) = exS n a (exD n k (fup c i v))
  | 0, _, h => by omega
  | k + 1, c, h => by
    simp only [exD]
    by_cases hk : i = k
    · subst hk
      rw [fup_s, fup_s, exW_Sv]
      rw [exD_congr n i (fup c i (fun t => a * v t)) c (fun j hj => fup_n _ _ (by omega)), exD_congr n i (fup c i v) c (fun j hj => fup_n _ _ (by omega))]
    · rw [exD_smul n i a v k c (by omega), exW_S, fup_n _ _ (fun q => hk q.symm), fup_n _ _ (fun q => hk q.symm)]
theorem exT_A : ∀ (n : Nat) (x y : Ex n), exT n (exA n x y) = exT n x + exT n y
  | 0, _, _ => rfl
  | n + 1, x, y => exT_A n x.2 y.2
theorem exT_S : ∀ (n : Nat) (a : Rat) (x : Ex n), exT n (exS n a x) = a * exT n x
  | 0, _, _ => rfl
  | n + 1, a, x => exT_S n a x.2
theorem exT_Z : ∀ (n : Nat), exT n (exZ n) = 0
  | 0 => rfl
  | n + 1 => exT_Z n
theorem exT_sq : ∀ (n : Nat) (x : Ex n), exT n x * exT n x ≤ exP n x x
  | 0, x => Rat.le_refl (a := Rat.mul x x)
  | n + 1, x => by
    have h1 := exT_sq n x.2
    have h2 := exP_pos n x.1
    simp only [exP, exT]
    grind
/-- the determinant of the columns 0 .. n-1 -/
def dt (n : Nat) (c : Nat → Nat → Rat) : Rat := exT n (exD n n c)
theorem dt_congr {n : Nat} {c d : Nat → Nat → Rat} (h : ∀ i, i < n → c i = d i) : dt n c = dt n d := by
  unfold dt; rw [exD_congr n n c d h]
theorem dt_add {n : Nat} {c : Nat → Nat → Rat} {i : Nat} (h : i < n) (v w : Nat → Rat) : dt n (fup c i (fun t => v t + w t)) = dt n (fup c i v) + dt n (fup c i w) := by
  unfold dt; rw [exD_add n i v w n c h, exT_A]
theorem dt_smul {n : Nat} {c : Nat → Nat → Rat} {i : Nat} (h : i < n) (a : Rat) (v : Nat → Rat) : dt n (fup c i (fun t => a * v t)) = a * dt n (fup c i v) := by
  unfold dt; rw [exD_smul n i a v n c h, exT_S]
theorem dt_same {n : Nat} {c : Nat → Nat → Rat} {i j : Nat} (hi : i < n) (hj : j < n) (hij : i ≠ j) (e : c i = c j) : dt n c = 0 := by
  unfold dt
  rcases Nat.lt_or_gt_of_ne hij with h | h
  · rw [exD_same n n c i j h hj e, exT_Z]
  · rw [exD_same n n c j i h hi e.symm, exT_Z]
/-- a sum of the first k members -/
def sm : Nat → (Nat → Rat) → Rat
  | 0, _ => 0
  | k + 1, f => sm k f + f k
theorem dt_zero {n : Nat} {c : Nat → Nat → Rat} {i : Nat} (h : i < n) : dt n (fup c i (fun _ => 0)) = 0 := by
  have := dt_smul (c := c) h 0 (fun _ => 0)
  simp only [Rat.zero_mul] at this
  exact this
theorem dt_sum {n : Nat} {c : Nat → Nat → Rat} {i : Nat} (h : i < n) (x : Nat → Rat) (w : Nat → Nat → Rat) : ∀ k, dt n (fup c i (fun t => sm k (fun a => x a * w a t))) = sm k (fun a => x a * dt n (fup c i (w a)))
  | 0 => dt_zero h
  | k + 1 => by
    simp only [sm]
    rw [dt_add h, dt_sum h x w k, dt_smul h]
theorem sm_congr {f g : Nat → Rat} : ∀ {k : Nat}, (∀ i, i < k → f i = g i) → sm k f = sm k g
  | 0, _ => rfl
  | k + 1, h => by simp only [sm]; rw [sm_congr (fun i hi => h i (by omega)), h k (by omega)]
theorem sm_zero {f : Nat → Rat} : ∀ {k : Nat}, (∀ i, i < k → f i = 0) → sm k f = 0
  | 0, _ => rfl
  | k + 1, h => by simp only [sm]; rw [sm_zero (fun i hi => h i (by omega)), h k (by omega)]; exact Rat.add_zero 0
theorem sm_one {f : Nat → Rat} {i : Nat} : ∀ {k : Nat}, i < k → (∀ j, j < k → j ≠ i → f j = 0) → sm k f = f i
  | 0, h, _ => by omega
  | k + 1, h, h2 => by
    simp only [sm]
    by_cases hk : i = k
    · subst hk
      rw [sm_zero (fun j hj => h2 j (by omega) (by omega))]
      exact Rat.zero_add _
    · rw [sm_one (by omega) (fun j hj hn => h2 j (by omega) hn), h2 k (by omega) (fun q => hk q.symm)]
      exact Rat.add_zero _
/-- Cramer's rule -/
theorem dt_cramer {n : Nat} {c : Nat → Nat → Rat} {i : Nat} (h : i < n) (x : Nat → Rat) : dt n (fup c i (fun t => sm n (fun a => x a * c a t))) = x i * dt n c := by
  rw [dt_sum h x c n, sm_one h, fup_id]
  intro j hj hn
  rw [dt_same (i := i) (j := j) h hj (fun q => hn q.symm), Rat.mul_zero]
  rw [fup_s, fup_n _ _ hn]
/-- the unit columns -/
def un (i : Nat) : Nat → Rat := fun t => if t = i then 1 else 0
theorem exW_low : ∀ (n : Nat) (v : Nat → Rat), (∀ t, t < n → v t = 0) → ∀ x : Ex n, exW n v x = exZ n
  | 0, _, _, _ => rfl
  | n + 1, v, h, x => by
    show (exW n v x.1, exA n (exS n (v n) x.1) (exS n (-1) (exW n v x.2))) = (exZ n, exZ n)
    rw [exW_low n v (fun t ht => h t (by omega)), exW_low n v (fun t ht => h t (by omega)), h n (by omega), exS_0, exS_Z, exA_Z]
theorem exD_low (n : Nat) : ∀ (k : Nat) (c : Nat → Nat → Rat), (∀ i, i < k → c i n = 0) → exD (n + 1) k c = (exD n k c, exZ n)
  | 0, _, _ => rfl
  | k + 1, c, h => by
    simp only [exD]
    rw [exD_low n k c (fun i hi => h i (by omega))]
    show (_, _) = (_, _)
    simp only
    rw [h k (by omega), exS_0, exW_Z, exS_Z, exA_Z]
theorem dt_un : ∀ n, dt n un = 1
  | 0 => rfl
  | n + 1 => by
    unfold dt
    simp only [exD]
    rw [exD_low n n un (fun i hi => by simp [un]; omega)]
    show exT n (exA n (exS n (un n n) (exD n n un)) (exS n (-1) (exW n (un n) (exZ n)))) = 1
    rw [exW_Z, exS_Z, exA_Z, exT_S, show un n n = 1 from by simp [un], Rat.one_mul]
    exact dt_un n
/-- the product of the squared lengths -/
def pN (n : Nat) : Nat → (Nat → Nat → Rat) → Rat
  | 0, _ => 1
  | k + 1, c => exN n (c k) * pN n k c
theorem exN_pos : ∀ (n : Nat) (v : Nat → Rat), 0 ≤ exN n v
  | 0, _ => by show (0 : Rat) ≤ 0; grind
  | n + 1, v => by
    have h1 := exN_pos n v
    have h2 : (0 : Rat) ≤ v n * v n := exP_pos 0 (v n)
    simp only [exN]
    grind
theorem exO_1 : ∀ n, exP n (exO n) (exO n) = 1
  | 0 => by show (1 : Rat) * 1 = 1; grind
  | n + 1 => by
    simp only [exP, exO]
    rw [exO_1 n, show exP n (exZ n) (exZ n) = 0 from by rw [← exS_0 n (exZ n), exP_S, Rat.zero_mul]]
    exact Rat.add_zero 1
theorem exD_le (n : Nat) : ∀ (k : Nat) (c : Nat → Nat → Rat), exP n (exD n k c) (exD n k c) ≤ pN n k c
  | 0, _ => by simp only [exD, pN]; rw [exO_1]; grind
  | k + 1, c => by
    have h1 := exD_le n k c
    have h2 := exW_le n (c k) (exD n k c)
    have h3 := exN_pos n (c k)
    simp only [exD, pN]
    have h4 := Rat.mul_le_mul_of_nonneg_left h1 h3
    grind
/-- Hadamard's bound -/
theorem dt_had (n : Nat) (c : Nat → Nat → Rat) : dt n c * dt n c ≤ pN n n c := by
  have h1 := exT_sq n (exD n n c)
  have h2 := exD_le n n c
  unfold dt
  grind
end
section
/-! ===== PURE: sums; coordinates in a basis; one exchange ===== -/
theorem sm_add (f g : Nat → Rat) : ∀ k, sm k (fun i => f i + g i) = sm k f + sm k g
  | 0 => by simp only [sm]; grind
  | k + 1 => by simp only [sm]; rw [sm_add f g k]; grind
theorem sm_mul (a : Rat) (f : Nat → Rat) : ∀ k, sm k (fun i => a * f i) = a * sm k f
  | 0 => by simp only [sm]; grind
  | k + 1 => by simp only [sm]; rw [sm_mul a f k]; grind
theorem sm_mulr (a : Rat) (f : Nat → Rat) (k : Nat) : sm k (fun i => f i * a) = sm k f * a := by
  rw [Rat.mul_comm, ← sm_mul]; exact sm_congr (fun i _ => Rat.mul_comm _ _)
theorem sm_sub (f g : Nat → Rat) (k : Nat) : sm k (fun i => f i - g i) = sm k f - sm k g := by
  have h : sm k (fun i => f i - g i) = sm k (fun i => f i + (-1) * g i) := sm_congr (fun i _ => by grind)
  rw [h, sm_add, sm_mul]; grind
theorem sm_swap (f : Nat → Nat → Rat) (b : Nat) : ∀ a, sm a (fun i => sm b (fun j => f i j)) = sm b (fun j => sm a (fun i => f i j))
  | 0 => by simp only [sm]; exact (sm_zero (fun _ _ => rfl)).symm
  | a + 1 => by simp only [sm]; rw [sm_swap f b a, ← sm_add]
theorem sm_nonneg {f : Nat → Rat} : ∀ {k : Nat}, (∀ i, i < k → 0 ≤ f i) → 0 ≤ sm k f
  | 0, _ => by simp only [sm]; grind
  | k + 1, h => by
    have h1 := sm_nonneg (fun i hi => h i (by omega) : ∀ i, i < k → 0 ≤ f i)
    have h2 := h k (by omega)
    simp only [sm]; grind
theorem sm_le {f g : Nat → Rat} : ∀ {k : Nat}, (∀ i, i < k → f i ≤ g i) → sm k f ≤ sm k g
  | 0, _ => by simp only [sm]; grind
  | k + 1, h => by
    have h1 := sm_le (fun i hi => h i (by omega) : ∀ i, i < k → f i ≤ g i)
    have h2 := h k (by omega)
    simp only [sm]; grind
/-- nothing but zeros, where a sum of what is 0 or more is 0 -/
theorem sm_nil {f : Nat → Rat} : ∀ {k : Nat}, (∀ i, i < k → 0 ≤ f i) → sm k f ≤ 0 → ∀ i, i < k → f i = 0
  | 0, _, _, _, hi => by omega
  | k + 1, h, h0, i, hi => by
    have h1 := sm_nonneg (fun j hj => h j (by omega) : ∀ j, j < k → 0 ≤ f j)
    have h2 := h k (by omega)
    simp only [sm] at h0
    by_cases hk : i = k
    · subst hk; grind
    · exact sm_nil (k := k) (fun j hj => h j (by omega)) (by grind) i (by omega)
theorem sm_split {f : Nat → Rat} {r k : Nat} (h : r < k) (g : Nat → Rat) (hg : ∀ i, i < k → i ≠ r → g i = f i) (h0 : g r = 0) : sm k f = sm k g + f r := by
  have h1 : sm k f = sm k (fun i => g i + if i = r then f r else 0) := sm_congr (fun i hi => by
    by_cases e : i = r
    · subst e; simp [h0]; grind
    · simp [e, hg i hi e]; grind)
  rw [h1, sm_add, sm_one (f := fun i => if i = r then f r else 0) h (fun j _ hj => by simp [hj])]
  simp
/-- the coordinates of v -/
def cd (D : Nat) (R : Nat → Nat → Rat) (v : Nat → Rat) (i : Nat) : Rat := sm D (fun k => R i k * v k)
theorem cd_add (D : Nat) (R : Nat → Nat → Rat) (v w : Nat → Rat) (i : Nat) : cd D R (fun t => v t + w t) i = cd D R v i + cd D R w i := by
  unfold cd; rw [← sm_add]; exact sm_congr (fun k _ => by grind)
theorem cd_smul (D : Nat) (R : Nat → Nat → Rat) (a : Rat) (v : Nat → Rat) (i : Nat) : cd D R (fun t => a * v t) i = a * cd D R v i := by
  unfold cd; rw [← sm_mul]; exact sm_congr (fun k _ => by grind)
theorem cd_sum (D : Nat) (R : Nat → Nat → Rat) (x : Nat → Rat) (w : Nat → Nat → Rat) (i : Nat) (k : Nat) : cd D R (fun t => sm k (fun a => x a * w a t)) i = sm k (fun a => x a * cd D R (w a) i) := by
  unfold cd
  have h1 : sm D (fun t => R i t * sm k (fun a => x a * w a t)) = sm D (fun t => sm k (fun a => x a * (R i t * w a t))) := sm_congr (fun t _ => by
    rw [← sm_mul]; exact sm_congr (fun a _ => by grind))
  rw [h1, sm_swap]
  exact sm_congr (fun a _ => by rw [sm_mul])
theorem cd_congr {D : Nat} {R : Nat → Nat → Rat} {v w : Nat → Rat} (h : ∀ t, t < D → v t = w t) (i : Nat) : cd D R v i = cd D R w i := by
  unfold cd; exact sm_congr (fun k hk => by rw [h k hk])
theorem cd_un {D : Nat} {R : Nat → Nat → Rat} {i k : Nat} (hk : k < D) : cd D R (un k) i = R i k := by
  unfold cd
  rw [sm_one hk (fun j _ hj => by simp [un, hj])]
  simp [un]
/-- R gives the coordinates in the columns B -/
def Bs (D : Nat) (B R : Nat → Nat → Rat) : Prop :=
  (∀ (v : Nat → Rat) (t : Nat), t < D → sm D (fun i => cd D R v i * B i t) = v t) ∧ (∀ i j : Nat, i < D → j < D → cd D R (B j) i = if i = j then 1 else 0)
/-- the exchange of column r for w -/
def pv (D : Nat) (R : Nat → Nat → Rat) (r : Nat) (w : Nat → Rat) : Nat → Nat → Rat := fun i k => if i = r then R r k / cd D R w r else R i k - cd D R w i / cd D R w r * R r k
theorem pv_r (D : Nat) (R : Nat → Nat → Rat) (r : Nat) (w v : Nat → Rat) : cd D (pv D R r w) v r = cd D R v r / cd D R w r := by
  have h : cd D (pv D R r w) v r = sm D (fun k => (1 / cd D R w r) * (R r k * v k)) := by
    show sm D _ = _
    exact sm_congr (fun k _ => by simp only [pv, if_true]; grind)
  rw [h, sm_mul]
  show _ * cd D R v r = _
  grind
theorem pv_o (D : Nat) (R : Nat → Nat → Rat) {r i : Nat} (hi : i ≠ r) (w v : Nat → Rat) : cd D (pv D R r w) v i = cd D R v i - cd D R w i / cd D R w r * cd D R v r := by
  have h : cd D (pv D R r w) v i = sm D (fun k => R i k * v k + (-(cd D R w i / cd D R w r)) * (R r k * v k)) := by
    show sm D _ = _
    exact sm_congr (fun k _ => by simp only [pv, if_neg hi]; grind)
  rw [h, sm_add, sm_mul]
  show cd D R v i + _ * cd D R v r = _
  grind
theorem Bs_un (D : Nat) : Bs D un un := by
  have hc : ∀ (v : Nat → Rat) (i : Nat), i < D → cd D un v i = v i := fun v i hi => by
    unfold cd
    rw [sm_one hi (fun j _ hj => by simp [un, hj])]
    simp [un]
  refine ⟨fun v t ht => ?_, fun i j hi hj => ?_⟩
  · rw [sm_one ht (fun j hj hn => by rw [hc v j hj]; show v j * (if t = j then 1 else 0) = 0; rw [if_neg (fun q : t = j => hn q.symm)]; exact Rat.mul_zero _)]
    rw [hc v t ht]; simp [un]
  · rw [hc _ i hi]; simp [un]
theorem Bs_pv {D : Nat} {B R : Nat → Nat → Rat} (h : Bs D B R) {r : Nat} (hr : r < D) {w : Nat → Rat} (hp : cd D R w r ≠ 0) : Bs D (fup B r w) (pv D R r w) := by
  obtain ⟨h1, h2⟩ := h
  refine ⟨fun v t ht => ?_, fun i j hi hj => ?_⟩
  · have hv := h1 v t ht
    have hw := h1 w t ht
    rw [sm_split hr (fun i => if i = r then 0 else (cd D R v i - cd D R w i / cd D R w r * cd D R v r) * B i t) (fun i _ hn => by simp only [if_neg hn]; rw [pv_o D R hn, fup_n _ _ hn]) (by simp)]
    rw [pv_r, fup_s]
    rw [sm_split hr (fun i => if i = r then 0 else cd D R v i * B i t) (fun i _ hn => by simp [hn]) (by simp)] at hv
    rw [sm_split hr (fun i => if i = r then 0 else cd D R w i * B i t) (fun i _ hn => by simp [hn]) (by simp)] at hw
    have hs : sm D (fun i => if i = r then 0 else (cd D R v i - cd D R w i / cd D R w r * cd D R v r) * B i t) = sm D (fun i => (if i = r then 0 else cd D R v i * B i t) + (-(cd D R v r / cd D R w r)) * (if i = r then 0 else cd D R w i * B i t)) := sm_congr (fun i _ => by
      by_cases e : i = r
      · simp [e]; grind
      · simp only [if_neg e]; grind)
    rw [hs, sm_add, sm_mul]
    generalize sm D (fun i => if i = r then 0 else cd D R v i * B i t) = sv at hv ⊢
    generalize sm D (fun i => if i = r then 0 else cd D R w i * B i t) = sw at hw ⊢
    generalize cd D R v r = a at hv ⊢
    generalize cd D R w r = p at hw hp ⊢
    generalize B r t = x at hv hw ⊢
    rw [← hv, ← hw]
    grind
  · by_cases ej : j = r
    · subst ej
      rw [fup_s]
      by_cases ei : i = j
      · subst ei
        rw [pv_r]; simp; grind
      · rw [pv_o D R ei, if_neg ei]; grind
    · rw [fup_n _ _ ej]
      have hz := h2 r j hr hj
      rw [if_neg (fun q : r = j => ej q.symm)] at hz
      by_cases ei : i = r
      · subst ei
        rw [pv_r, hz, if_neg (fun q : i = j => ej q.symm)]; grind
      · rw [pv_o D R ei, hz, h2 i j hi hj]; grind
/-- a cell is a determinant: that with its column in the basis, over that of the basis -/
theorem dt_cd {D : Nat} {B R : Nat → Nat → Rat} (h : Bs D B R) {i : Nat} (hi : i < D) (v : Nat → Rat) : dt D (fup B i v) = cd D R v i * dt D B := by
  rw [← dt_cramer hi (cd D R v)]
  unfold dt
  have key : ∀ v w : Nat → Rat, (∀ t, t < D → v t = w t) → ∀ (k : Nat) (c : Nat → Nat → Rat), exD D k (fup c i v) = exD D k (fup c i w) := by
    intro v w e k c
    have hW : ∀ (n : Nat) (v w : Nat → Rat), (∀ t, t < n → v t = w t) → ∀ x : Ex n, exW n v x = exW n w x := by
      intro n
      induction n with
      | zero => intro _ _ _ _; rfl
      | succ n ih =>
        intro v w e x
        show (exW n v x.1, exA n (exS n (v n) x.1) (exS n (-1) (exW n v x.2))) = (exW n w x.1, exA n (exS n (w n) x.1) (exS n (-1) (exW n w x.2)))
        rw [ih v w (fun t ht => e t (by omega)), ih v w (fun t ht => e t (by omega)), e n (by omega)]
    induction k with
    | zero => rfl
    | succ k ih =>
      simp only [exD]
      rw [ih]
      by_cases hk : k = i
      · subst hk; rw [fup_s, fup_s]; exact hW D v w e _
      · rw [fup_n _ _ hk, fup_n _ _ hk]
  rw [key v (fun t => sm D (fun a => cd D R v a * B a t)) (fun t ht => (h.1 v t ht).symm)]
end
section
/-! ===== PURE: states of the table; what they say of the system; Bland's rule ===== -/
/-- the columns that a state holds: a row that holds none has its unit column, the cost's row too -/
def hB (m : Nat) (col : Nat → Nat → Rat) (h : Nat → Option Nat) : Nat → Nat → Rat := fun i => if i < m then (match h i with | none => un i | some j => col j) else un i
theorem hB_n {m : Nat} {col : Nat → Nat → Rat} {h : Nat → Option Nat} {i : Nat} (e : h i = none) : hB m col h i = un i := by
  unfold hB; split
  · rw [e]
  · rfl
theorem hB_s {m : Nat} {col : Nat → Nat → Rat} {h : Nat → Option Nat} {i j : Nat} (hi : i < m) (e : h i = some j) : hB m col h i = col j := by
  unfold hB; rw [if_pos hi, e]
theorem hB_m {m : Nat} {col : Nat → Nat → Rat} {h : Nat → Option Nat} : hB m col h m = un m := by
  unfold hB; rw [if_neg (by omega)]
/-- m equations and a cost, n weights: a state -/
def Stt (m n : Nat) (col : Nat → Nat → Rat) (h : Nat → Option Nat) (R : Nat → Nat → Rat) : Prop :=
  Bs (m + 1) (hB m col h) R ∧ ∀ i j, i < m → h i = some j → j < n
theorem hB_up {m : Nat} {col : Nat → Nat → Rat} {h : Nat → Option Nat} {r c : Nat} (hr : r < m) : hB m col (fup h r (some c)) = fup (hB m col h) r (col c) := by
  funext i
  by_cases e : i = r
  · subst e
    rw [fup_s, hB_s hr (fup_s h i (some c))]
  · rw [fup_n _ _ e]
    unfold hB
    rw [fup_n _ _ e]
theorem Stt_pv {m n : Nat} {col : Nat → Nat → Rat} {h : Nat → Option Nat} {R : Nat → Nat → Rat} (H : Stt m n col h R) {r c : Nat} (hr : r < m) (hc : c < n) (hp : cd (m + 1) R (col c) r ≠ 0) : Stt m n col (fup h r (some c)) (pv (m + 1) R r (col c)) := by
  refine ⟨?_, fun i j hi e => ?_⟩
  · rw [hB_up hr]
    exact Bs_pv H.1 (by omega) hp
  · by_cases ei : i = r
    · subst ei
      rw [fup_s] at e
      cases e
      exact hc
    · rw [fup_n _ _ ei] at e
      exact H.2 i j hi e
/-- a held column's coordinates -/
theorem Stt_held {m n : Nat} {col : Nat → Nat → Rat} {h : Nat → Option Nat} {R : Nat → Nat → Rat} (H : Stt m n col h R) {i k j : Nat} (hi : i < m) (e : h i = some j) (hk : k < m + 1) : cd (m + 1) R (col j) k = if k = i then 1 else 0 := by
  have := H.1.2 k i hk (by omega)
  rw [hB_s hi e] at this
  exact this
theorem Stt_m {m n : Nat} {col : Nat → Nat → Rat} {h : Nat → Option Nat} {R : Nat → Nat → Rat} (H : Stt m n col h R) {k : Nat} (hk : k < m + 1) : R k m = if k = m then 1 else 0 := by
  have := H.1.2 k m hk (by omega)
  rw [hB_m, cd_un (by omega)] at this
  exact this
/-- the cost's row: what is left of the cost at a point y -/
theorem Stt_cost {m n : Nat} {col : Nat → Nat → Rat} {h : Nat → Option Nat} {R : Nat → Nat → Rat} (H : Stt m n col h R) (v : Nat → Rat) : cd (m + 1) R v m = v m - sm m (fun t => (-R m t) * v t) := by
  unfold cd
  simp only [sm]
  rw [Stt_m H (by omega), if_pos rfl]
  have : sm m (fun t => (-R m t) * v t) = (-1) * sm m (fun t => R m t * v t) := by
    rw [← sm_mul]; exact sm_congr (fun t _ => by grind)
  rw [this]; grind
/-- another row: it doesn't see the cost -/
theorem Stt_row {m n : Nat} {col : Nat → Nat → Rat} {h : Nat → Option Nat} {R : Nat → Nat → Rat} (H : Stt m n col h R) {i : Nat} (hi : i < m) (v : Nat → Rat) : cd (m + 1) R v i = sm m (fun t => R i t * v t) := by
  unfold cd
  simp only [sm]
  rw [Stt_m H (by omega), if_neg (by omega)]
  grind
/-- the weights of the columns that a vector's coordinates give -/
def wgt (m : Nat) (h : Nat → Option Nat) (x : Nat → Rat) (j : Nat) : Rat := sm m (fun i => if h i = some j then x i else 0)
theorem wgt_sum (m n : Nat) (h : Nat → Option Nat) (x : Nat → Rat) (hh : ∀ i j, i < m → h i = some j → j < n) (g : Nat → Rat) : sm n (fun j => wgt m h x j * g j) = sm m (fun i => match h i with | none => 0 | some j => x i * g j) := by
  have h1 : sm n (fun j => wgt m h x j * g j) = sm n (fun j => sm m (fun i => (if h i = some j then x i else 0) * g j)) := sm_congr (fun j _ => by unfold wgt; rw [sm_mulr])
  rw [h1, sm_swap]
  refine sm_congr (fun i hi => ?_)
  cases e : h i with
  | none => exact sm_zero (fun j _ => by simp)
  | some j0 =>
    rw [sm_one (hh i j0 hi e) (fun j _ hj => by rw [if_neg (fun q : some j0 = some j => hj (Option.some.inj q).symm)]; exact Rat.zero_mul _)]
    simp
theorem wgt_nonneg {m : Nat} {h : Nat → Option Nat} {x : Nat → Rat} (hx : ∀ i j, i < m → h i = some j → 0 ≤ x i) (j : Nat) : 0 ≤ wgt m h x j := sm_nonneg (fun i hi => by
  by_cases e : h i = some j
  · rw [if_pos e]; exact hx i j hi e
  · rw [if_neg e]; grind)
/-- a vector out of the columns held, where the rows that hold none have nothing of it -/
theorem Stt_out {m n : Nat} {col : Nat → Nat → Rat} {h : Nat → Option Nat} {R : Nat → Nat → Rat} (H : Stt m n col h R) (v : Nat → Rat) (hz : ∀ i, i < m → h i = none → cd (m + 1) R v i = 0) {t : Nat} (ht : t < m + 1) : sm n (fun j => wgt m h (cd (m + 1) R v) j * col j t) = v t - cd (m + 1) R v m * un m t := by
  rw [wgt_sum m n h _ H.2 (fun j => col j t)]
  have h1 := H.1.1 v t ht
  simp only [sm] at h1
  rw [hB_m] at h1
  have h2 : sm m (fun i => match h i with | none => 0 | some j => cd (m + 1) R v i * col j t) = sm m (fun i => cd (m + 1) R v i * hB m col h i t) := sm_congr (fun i hi => by
    cases e : h i with
    | none => simp only; rw [hz i hi e]; grind
    | some j => simp only; rw [hB_s hi e])
  rw [h2]
  grind
/-- no row hinders column q, whose cost is below 0: weights that no turn allows -/
theorem Stt_falls {m n : Nat} {col : Nat → Nat → Rat} {h : Nat → Option Nat} {R : Nat → Nat → Rat} (H : Stt m n col h R) (hz : ∀ i, i < m → h i = none → ∀ j, j < n → cd (m + 1) R (col j) i = 0) {q : Nat} (hq : q < n) (hc : cd (m + 1) R (col q) m < 0) (hl : ∀ i j, i < m → h i = some j → cd (m + 1) R (col q) i ≤ 0) :
    ∃ w : Nat → Rat, (∀ j, j < n → 0 ≤ w j) ∧ (∀ t, t < m → sm n (fun j => w j * col j t) = 0) ∧ sm n (fun j => w j * col j m) < 0 := by
  have hs : ∀ t, t < m + 1 → sm n (fun j => ((if j = q then 1 else 0) + wgt m h (fun i => -cd (m + 1) R (col q) i) j) * col j t) = cd (m + 1) R (col q) m * un m t := by
    intro t ht
    have h1 : sm n (fun j => ((if j = q then 1 else 0) + wgt m h (fun i => -cd (m + 1) R (col q) i) j) * col j t) = sm n (fun j => (if j = q then 1 else 0) * col j t + (-1) * (wgt m h (cd (m + 1) R (col q)) j * col j t)) := sm_congr (fun j _ => by
      have : wgt m h (fun i => -cd (m + 1) R (col q) i) j = (-1) * wgt m h (cd (m + 1) R (col q)) j := by
        unfold wgt; rw [← sm_mul]; exact sm_congr (fun i _ => by split <;> grind)
      rw [this]; grind)
    rw [h1, sm_add, sm_mul, sm_one hq (fun j _ hj => by simp [hj]), Stt_out H (col q) (fun i hi e => hz i hi e q hq) ht]
    simp
    grind
  refine ⟨fun j => (if j = q then 1 else 0) + wgt m h (fun i => -cd (m + 1) R (col q) i) j, fun j _ => ?_, fun t ht => ?_, ?_⟩
  · have h1 := wgt_nonneg (m := m) (h := h) (x := fun i => -cd (m + 1) R (col q) i) (fun i j hi e => by have := hl i j hi e; grind) j
    show (0 : Rat) ≤ (if j = q then 1 else 0) + _
    split <;> grind
  · rw [hs t (by omega)]; simp [un, show t ≠ m by omega]
  · rw [hs m (by omega)]; simp [un]; exact hc
/-- Bland, first half: column f can't both come in at S1 and go out at S2, where what lies above f and is held at S2 is held at S1 -/
theorem bland_p {m n : Nat} {col : Nat → Nat → Rat} {h1 h2 : Nat → Option Nat} {R1 R2 : Nat → Nat → Rat} (H1 : Stt m n col h1 R1) (H2 : Stt m n col h2 R2) (hz : ∀ i, i < m → h2 i = none → ∀ j, j < n → cd (m + 1) R2 (col j) i = 0)
    {f q r : Nat} (hf : cd (m + 1) R1 (col f) m < 0) (hfl : ∀ j, j < f → 0 ≤ cd (m + 1) R1 (col j) m)
    (hqn : q < n) (hq : cd (m + 1) R2 (col q) m < 0) (hr : r < m) (hrf : h2 r = some f) (hrp : 0 < cd (m + 1) R2 (col q) r) (hl : ∀ i j, i < m → h2 i = some j → 0 < cd (m + 1) R2 (col q) i → f ≤ j)
    (hqf : q < f) (hab : ∀ i j, i < m → h2 i = some j → f < j → ∃ k, k < m ∧ h1 k = some j) : False := by
  -- col q = what is held at S2, and of the cost
  have e1 : ∀ t, t < m + 1 → col q t = sm n (fun j => wgt m h2 (cd (m + 1) R2 (col q)) j * col j t) + cd (m + 1) R2 (col q) m * un m t := fun t ht => by
    rw [Stt_out H2 (col q) (fun i hi e => hz i hi e q hqn) ht]; grind
  have e2 : cd (m + 1) R1 (col q) m = sm n (fun j => wgt m h2 (cd (m + 1) R2 (col q)) j * cd (m + 1) R1 (col j) m) + cd (m + 1) R2 (col q) m * 1 := by
    rw [cd_congr e1, cd_add, cd_sum, cd_smul, cd_un (by omega), Stt_m H1 (by omega), if_pos rfl]
  rw [wgt_sum m n h2 _ H2.2 (fun j => cd (m + 1) R1 (col j) m)] at e2
  have e3 : sm m (fun i => match h2 i with | none => 0 | some j => cd (m + 1) R2 (col q) i * cd (m + 1) R1 (col j) m) ≤ 0 := by
    have : sm m (fun i => match h2 i with | none => (0 : Rat) | some j => cd (m + 1) R2 (col q) i * cd (m + 1) R1 (col j) m) ≤ sm m (fun _ => 0) := sm_le (fun i hi => by
      cases e : h2 i with
      | none => simp only; grind
      | some j =>
        simp only
        by_cases hj : f < j
        · obtain ⟨k, hk, ek⟩ := hab i j hi e hj
          rw [Stt_held H1 hk ek (by omega), if_neg (by omega)]; grind
        · by_cases ej : j = f
          · subst ej
            have hir : i = r := by
              have a1 := Stt_held H2 hi e (k := r) (by omega)
              have a2 := Stt_held H2 hr hrf (k := r) (by omega)
              rw [a2] at a1
              by_cases q9 : r = i
              · exact q9.symm
              · simp [q9] at a1
            subst hir
            have := Rat.mul_pos hrp (show 0 < -cd (m + 1) R1 (col j) m by grind)
            grind
          · have g1 := hfl j (by omega)
            have g2 : cd (m + 1) R2 (col q) i ≤ 0 := by
              by_cases g : 0 < cd (m + 1) R2 (col q) i
              · have := hl i j hi e g; omega
              · exact Rat.not_lt.mp g
            have := Rat.mul_nonneg (show 0 ≤ -cd (m + 1) R2 (col q) i by grind) g1
            grind)
    rw [sm_zero (fun _ _ => rfl)] at this
    exact this
  have e4 := hfl q hqf
  grind
end
section
/-! ===== PURE: the dual half of Bland's rule; the corner; sequences of sets ===== -/
/-- the corner grows by what the exchange brings -/
theorem Stt_corner {m n : Nat} {col : Nat → Nat → Rat} {h1 h2 : Nat → Option Nat} {R1 R2 : Nat → Nat → Rat} (H1 : Stt m n col h1 R1) (H2 : Stt m n col h2 R2) (b : Nat → Rat) (hz : ∀ i, i < m → h2 i = none → cd (m + 1) R2 b i = 0)
    (hs : ∀ i j, i < m → h2 i = some j → ∃ k, k < m ∧ h1 k = some j) : cd (m + 1) R1 b m = cd (m + 1) R2 b m := by
  have e1 : ∀ t, t < m + 1 → b t = sm n (fun j => wgt m h2 (cd (m + 1) R2 b) j * col j t) + cd (m + 1) R2 b m * un m t := fun t ht => by
    rw [Stt_out H2 b hz ht]; grind
  rw [cd_congr e1, cd_add, cd_sum, cd_smul, cd_un (by omega), Stt_m H1 (by omega), if_pos rfl]
  rw [wgt_sum m n h2 _ H2.2 (fun j => cd (m + 1) R1 (col j) m)]
  rw [sm_zero (fun i hi => by
    cases e : h2 i with
    | none => rfl
    | some j =>
      simp only
      obtain ⟨k, hk, ek⟩ := hs i j hi e
      rw [Stt_held H1 hk ek (by omega), if_neg (by omega)]; grind)]
  grind
/-- Bland, dual half: column f can't both come in at S1 (in row r1) and go out at S2, where what lies above f and is held at S2 is held at S1 in another row than r1, and the columns up to f that are held at S2 cost nothing at S1 -/
theorem bland_d {m n : Nat} {col : Nat → Nat → Rat} {h1 h2 : Nat → Option Nat} {R1 R2 : Nat → Nat → Rat} (H1 : Stt m n col h1 R1) (H2 : Stt m n col h2 R2) (b : Nat → Rat) (hz : ∀ i, i < m → h2 i = none → cd (m + 1) R2 b i = 0)
    {f r1 r2 : Nat} (hr1 : r1 < m) (hb1 : cd (m + 1) R1 b r1 < 0) (hf : cd (m + 1) R1 (col f) r1 < 0)
    (hfl : ∀ i j, i < m → h2 i = some j → j < f → 0 ≤ cd (m + 1) R1 (col j) r1)
    (hr2 : r2 < m) (hrf : h2 r2 = some f) (hb2 : cd (m + 1) R2 b r2 < 0) (hl : ∀ i j, i < m → h2 i = some j → cd (m + 1) R2 b i < 0 → f ≤ j)
    (hab : ∀ i j, i < m → h2 i = some j → f < j → ∃ k, k < m ∧ k ≠ r1 ∧ h1 k = some j) : False := by
  have e1 : ∀ t, t < m + 1 → b t = sm n (fun j => wgt m h2 (cd (m + 1) R2 b) j * col j t) + cd (m + 1) R2 b m * un m t := fun t ht => by
    rw [Stt_out H2 b hz ht]; grind
  have e2 : cd (m + 1) R1 b r1 = sm n (fun j => wgt m h2 (cd (m + 1) R2 b) j * cd (m + 1) R1 (col j) r1) + cd (m + 1) R2 b m * 0 := by
    rw [cd_congr e1, cd_add, cd_sum, cd_smul, cd_un (by omega), Stt_m H1 (by omega), if_neg (by omega)]
  rw [wgt_sum m n h2 _ H2.2 (fun j => cd (m + 1) R1 (col j) r1)] at e2
  have e3 : 0 ≤ sm m (fun i => match h2 i with | none => 0 | some j => cd (m + 1) R2 b i * cd (m + 1) R1 (col j) r1) := sm_nonneg (fun i hi => by
    cases e : h2 i with
    | none => simp only; grind
    | some j =>
      simp only
      by_cases hj : f < j
      · obtain ⟨k, hk, hkr, ek⟩ := hab i j hi e hj
        rw [Stt_held H1 hk ek (by omega), if_neg (fun q => hkr q.symm)]; grind
      · by_cases ej : j = f
        · subst ej
          have hir : i = r2 := by
            have a1 := Stt_held H2 hi e (k := r2) (by omega)
            have a2 := Stt_held H2 hr2 hrf (k := r2) (by omega)
            rw [a2] at a1
            by_cases q9 : r2 = i
            · exact q9.symm
            · simp [q9] at a1
          subst hir
          have := Rat.mul_pos (show 0 < -cd (m + 1) R2 b i by grind) (show 0 < -cd (m + 1) R1 (col j) r1 by grind)
          grind
        · have g1 := hfl i j hi e (by omega)
          have g2 : 0 ≤ cd (m + 1) R2 b i := by
            by_cases g : cd (m + 1) R2 b i < 0
            · have := hl i j hi e g; omega
            · exact Rat.not_lt.mp g
          exact Rat.mul_nonneg g2 g1)
  grind
/-- more than N members below N: two are the same -/
theorem pigeon : ∀ (N : Nat) (g : Nat → Nat), (∀ i, i ≤ N → g i < N) → ∃ i j, i < j ∧ j ≤ N ∧ g i = g j
  | 0, g, h => absurd (h 0 (Nat.le_refl 0)) (by omega)
  | N + 1, g, h => by
    by_cases hx : ∃ i, i ≤ N ∧ g i = g (N + 1)
    · obtain ⟨i, hi, e⟩ := hx
      exact ⟨i, N + 1, by omega, by omega, e⟩
    · have hn : ∀ i, i ≤ N → g i ≠ g (N + 1) := fun i hi e => hx ⟨i, hi, e⟩
      obtain ⟨i, j, hij, hj, e⟩ := pigeon N (fun i => if g i = N then g (N + 1) else g i) (fun i hi => by
        have h1 := h i (by omega)
        have h2 := h (N + 1) (by omega)
        have h3 := hn i hi
        show (if g i = N then g (N + 1) else g i) < N
        split <;> omega)
      refine ⟨i, j, hij, by omega, ?_⟩
      have h3 := hn i (by omega)
      have h4 := hn j hj
      split at e <;> split at e <;> omega
/-- the number of a set of places below n -/
def encS (X : Nat → Bool) : Nat → Nat
  | 0 => 0
  | n + 1 => encS X n + if X n then 2 ^ n else 0
theorem encS_lt (X : Nat → Bool) : ∀ n, encS X n < 2 ^ n
  | 0 => by simp [encS]
  | n + 1 => by
    have := encS_lt X n
    simp only [encS, Nat.pow_succ]
    split <;> omega
theorem encS_eq {X Y : Nat → Bool} : ∀ {n : Nat}, encS X n = encS Y n → ∀ x, x < n → X x = Y x
  | 0, _, _, h => by omega
  | n + 1, e, x, h => by
    have h1 := encS_lt X n
    have h2 := encS_lt Y n
    simp only [encS] at e
    have hn : X n = Y n := by
      cases hx : X n <;> cases hy : Y n <;> simp [hx, hy] at e <;> first | rfl | omega
    rw [hn] at e
    have e' : encS X n = encS Y n := by omega
    by_cases hxn : x = n
    · subst hxn; exact hn
    · exact encS_eq e' x (by omega)
/-- a sequence of sets, each the one before with one member changed for another, comes back: then some member comes in and goes out between, and none above it does either -/
theorem cycle {n : Nat} (X : Nat → Nat → Bool) (inn out : Nat → Nat) (K : Nat) (hK : 2 ^ n ≤ K) (hi : ∀ s, s < K → inn s < n) (ho : ∀ s, s < K → out s < n) (hne : ∀ s, s < K → X s (inn s) = false ∧ X s (out s) = true)
    (hst : ∀ s, s < K → ∀ x, X (s + 1) x = if x = inn s then true else if x = out s then false else X s x) :
    ∃ i j f s1 s2, i < j ∧ j ≤ K ∧ (∀ x, x < n → X i x = X j x) ∧ i ≤ s1 ∧ s1 < j ∧ i ≤ s2 ∧ s2 < j ∧ inn s1 = f ∧ out s2 = f ∧ ∀ s, i ≤ s → s < j → inn s ≤ f ∧ out s ≤ f := by
  obtain ⟨i, j, hij, hj, e⟩ := pigeon (2 ^ n) (fun s => encS (X s) n) (fun s _ => encS_lt _ n)
  have hX : ∀ x, x < n → X i x = X j x := encS_eq e
  -- the greatest that changes
  have hmax : ∀ b, i < b → b ≤ j → ∃ f, (∃ s, i ≤ s ∧ s < b ∧ (inn s = f ∨ out s = f)) ∧ ∀ s, i ≤ s → s < b → inn s ≤ f ∧ out s ≤ f := by
    intro b
    induction b with
    | zero => intro h _; omega
    | succ b ih =>
      intro h1 h2
      by_cases hb : i = b
      · subst hb
        by_cases hc : inn i ≤ out i
        · exact ⟨out i, ⟨i, by omega, by omega, Or.inr rfl⟩, fun s a c => by
            obtain rfl : s = i := by omega
            omega⟩
        · exact ⟨inn i, ⟨i, by omega, by omega, Or.inl rfl⟩, fun s a c => by
            obtain rfl : s = i := by omega
            omega⟩
      · obtain ⟨f, ⟨s, a1, a2, a3⟩, h4⟩ := ih (by omega) (by omega)
        by_cases hc : inn b ≤ f ∧ out b ≤ f
        · exact ⟨f, ⟨s, a1, by omega, a3⟩, fun s a c => by
            by_cases q : s = b
            · subst q; exact hc
            · exact h4 s a (by omega)⟩
        · by_cases hd : inn b ≤ out b
          · exact ⟨out b, ⟨b, by omega, by omega, Or.inr rfl⟩, fun s a c => by
              by_cases q : s = b
              · subst q; omega
              · have := h4 s a (by omega); omega⟩
          · exact ⟨inn b, ⟨b, by omega, by omega, Or.inl rfl⟩, fun s a c => by
              by_cases q : s = b
              · subst q; omega
              · have := h4 s a (by omega); omega⟩
  obtain ⟨f, ⟨s0, a1, a2, a3⟩, hle⟩ := hmax j hij (Nat.le_refl j)
  have hfn : f < n := by
    rcases a3 with q | q
    · rw [← q]; exact hi s0 (by omega)
    · rw [← q]; exact ho s0 (by omega)
  -- if it never comes in, it stays out once it is out; and so on
  have hin : ∃ s, i ≤ s ∧ s < j ∧ inn s = f := by
    apply Classical.byContradiction
    intro hno
    have hno : ∀ s, i ≤ s → s < j → inn s ≠ f := fun s a b c => hno ⟨s, a, b, c⟩
    have hmono : ∀ d a, i ≤ a → a + d ≤ j → X a f = false → X (a + d) f = false := by
      intro d
      induction d with
      | zero => intro a _ _ h; exact h
      | succ d ih =>
        intro a ha hd h
        have h1 := ih a ha (by omega) h
        have h2 := hst (a + d) (by omega) f
        rw [← Nat.add_assoc, h2, if_neg (fun q => hno (a + d) (by omega) (by omega) q.symm)]
        split
        · rfl
        · exact h1
    rcases a3 with q | q
    · exact hno s0 a1 a2 q
    · have h1 := (hne s0 (by omega)).2
      rw [q] at h1
      have h2 := hst s0 (by omega) f
      rw [if_neg (fun q9 => hno s0 a1 a2 q9.symm), if_pos q.symm] at h2
      have h3 := hmono (j - (s0 + 1)) (s0 + 1) (by omega) (by omega) h2
      rw [show s0 + 1 + (j - (s0 + 1)) = j by omega, ← hX f hfn] at h3
      have h4 := hmono (s0 - i) i (by omega) (by omega) h3
      rw [show i + (s0 - i) = s0 by omega, h1] at h4
      cases h4
  have hout : ∃ s, i ≤ s ∧ s < j ∧ out s = f := by
    apply Classical.byContradiction
    intro hno
    have hno : ∀ s, i ≤ s → s < j → out s ≠ f := fun s a b c => hno ⟨s, a, b, c⟩
    have hmono : ∀ d a, i ≤ a → a + d ≤ j → X a f = true → X (a + d) f = true := by
      intro d
      induction d with
      | zero => intro a _ _ h; exact h
      | succ d ih =>
        intro a ha hd h
        have h1 := ih a ha (by omega) h
        have h2 := hst (a + d) (by omega) f
        rw [← Nat.add_assoc, h2]
        split
        · rfl
        · rw [if_neg (fun q => hno (a + d) (by omega) (by omega) q.symm)]; exact h1
    obtain ⟨s, b1, b2, b3⟩ := hin
    have h1 := (hne s (by omega)).1
    rw [b3] at h1
    have h2 := hst s (by omega) f
    rw [if_pos b3.symm] at h2
    have h3 := hmono (j - (s + 1)) (s + 1) (by omega) (by omega) h2
    rw [show s + 1 + (j - (s + 1)) = j by omega, ← hX f hfn] at h3
    have h4 := hmono (s - i) i (by omega) (by omega) h3
    rw [show i + (s - i) = s by omega, h1] at h4
    cases h4
  obtain ⟨s1, b1, b2, b3⟩ := hin
  obtain ⟨s2, c1, c2, c3⟩ := hout
  exact ⟨i, j, f, s1, s2, hij, by omega, hX, b1, b2, c1, c2, b3, c3, hle⟩
end
section
/-! ===== PURE: cones of weights, their least supports ===== -/
/-- how many of the places below n are such -/
def ct (P : Nat → Bool) : Nat → Nat
  | 0 => 0
  | n + 1 => ct P n + if P n then 1 else 0
theorem ct_pos {P : Nat → Bool} : ∀ {n : Nat}, 0 < ct P n → ∃ k, k < n ∧ P k = true
  | 0, h => by simp [ct] at h
  | n + 1, h => by
    by_cases q : P n = true
    · exact ⟨n, by omega, q⟩
    · simp [ct, q] at h
      obtain ⟨k, hk, hp⟩ := ct_pos h
      exact ⟨k, by omega, hp⟩
theorem ct_congr {P Q : Nat → Bool} : ∀ {n : Nat}, (∀ k, k < n → P k = Q k) → ct P n = ct Q n
  | 0, _ => rfl
  | n + 1, h => by simp only [ct]; rw [ct_congr (fun k hk => h k (by omega)), h n (by omega)]
/-- without one that is such -/
theorem ct_without {P : Nat → Bool} {i0 : Nat} : ∀ {n : Nat}, i0 < n → P i0 = true → ct P n = ct (fun k => P k && !(k == i0)) n + 1
  | 0, h, _ => by omega
  | n + 1, h, hp => by
    by_cases q : i0 = n
    · subst q
      simp only [ct]
      rw [ct_congr (P := P) (Q := fun k => P k && !(k == i0)) (fun k hk => by simp [show k ≠ i0 by omega])]
      simp [hp]
    · simp only [ct]
      rw [ct_without (by omega) hp]
      simp [show n ≠ i0 from fun e => q e.symm]
      omega
/-- more vectors than places: they depend -/
theorem dependP : ∀ (t n : Nat) (P : Nat → Bool), t < ct P n → ∀ V : Nat → Nat → Rat, ∃ c : Nat → Rat, (∃ i, i < n ∧ c i ≠ 0) ∧ (∀ i, P i = false → c i = 0) ∧ ∀ j, j < t → sm n (fun i => c i * V i j) = 0
  | 0, n, P, h, V => by
    obtain ⟨k, hk, hp⟩ := ct_pos h
    refine ⟨fun i => if i = k then 1 else 0, ⟨k, hk, by simp⟩, fun i hi => ?_, fun j hj => by omega⟩
    by_cases e : i = k
    · subst e; rw [hp] at hi; cases hi
    · simp [e]
  | t + 1, n, P, h, V => by
    by_cases hx : ∃ i, i < n ∧ P i = true ∧ V i t ≠ 0
    · obtain ⟨i0, hi0, hp0, hv⟩ := hx
      have hct := ct_without hi0 hp0
      obtain ⟨c, ⟨i, hi, hci⟩, hcP, hs⟩ := dependP t n (fun k => P k && !(k == i0)) (by omega) (fun i j => V i j - V i t / V i0 t * V i0 j)
      have hc0 : c i0 = 0 := hcP i0 (by simp)
      refine ⟨fun k => if k = i0 then -(sm n (fun i => c i * V i t) / V i0 t) else c k, ⟨i, hi, ?_⟩, fun k hk => ?_, fun j hj => ?_⟩
      · have : i ≠ i0 := fun e => by subst e; exact hci hc0
        simp [this]; exact hci
      · by_cases e : k = i0
        · subst e; rw [hp0] at hk; cases hk
        · simp only [if_neg e]
          exact hcP k (by simp [hk])
      · rw [sm_split hi0 (fun k => c k * V k j) (fun k _ hk => by simp [hk]) (by rw [hc0]; grind)]
        simp only [if_true]
        by_cases q : j = t
        · subst q
          grind
        · have h1 := hs j (by omega)
          rw [show sm n (fun i => c i * (V i j - V i t / V i0 t * V i0 j)) = sm n (fun i => c i * V i j + (-(V i0 j / V i0 t)) * (c i * V i t)) from sm_congr (fun i _ => by grind), sm_add, sm_mul] at h1
          grind
    · obtain ⟨c, hc, hcP, hs⟩ := dependP t n P (by omega) V
      refine ⟨c, hc, hcP, fun j hj => ?_⟩
      by_cases q : j = t
      · subst q
        exact sm_zero (fun i hi => by
          by_cases hp : P i = true
          · have : V i j = 0 := Classical.byContradiction (fun q => hx ⟨i, hi, hp, q⟩)
            rw [this]; grind
          · rw [hcP i (by simpa using hp)]; grind)
      · exact hs j (by omega)
/-- weights of 0 or more that make the first t columns 0 -/
def Cn (n : Nat) (A : Nat → Nat → Rat) (t : Nat) (w : Nat → Rat) : Prop := (∀ k, k < n → 0 ≤ w k) ∧ ∀ j, j < t → sm n (fun k => w k * A k j) = 0
def Nz (n : Nat) (w : Nat → Rat) : Prop := ∃ k, k < n ∧ 0 < w k
def Sb (n : Nat) (w w' : Nat → Rat) : Prop := ∀ k, k < n → 0 < w k → 0 < w' k
/-- of least support -/
def Mn (n : Nat) (A : Nat → Nat → Rat) (t : Nat) (w : Nat → Rat) : Prop := Cn n A t w ∧ Nz n w ∧ ∀ w', Cn n A t w' → Nz n w' → Sb n w' w → Sb n w w'
theorem Sb.tr {n : Nat} {a b c : Nat → Rat} (h : Sb n a b) (h2 : Sb n b c) : Sb n a c := fun k hk q => h2 k hk (h k hk q)
theorem Sb.rf {n : Nat} {a : Nat → Rat} : Sb n a a := fun _ _ q => q
theorem Cn.add {n : Nat} {A : Nat → Nat → Rat} {t : Nat} {w w' : Nat → Rat} (h : Cn n A t w) (h' : Cn n A t w') {a b : Rat} (ha : 0 ≤ a) (hb : 0 ≤ b) : Cn n A t (fun k => a * w k + b * w' k) := by
  refine ⟨fun k hk => ?_, fun j hj => ?_⟩
  · have h1 := Rat.mul_nonneg ha (h.1 k hk)
    have h2 := Rat.mul_nonneg hb (h'.1 k hk)
    grind
  · rw [show sm n (fun k => (a * w k + b * w' k) * A k j) = sm n (fun k => a * (w k * A k j) + b * (w' k * A k j)) from sm_congr (fun k _ => by grind), sm_add, sm_mul, sm_mul, h.2 j hj, h'.2 j hj]
    grind
/-- how many there are -/
def sz (w : Nat → Rat) : Nat → Nat
  | 0 => 0
  | n + 1 => sz w n + if 0 < w n then 1 else 0
theorem sz_le {w w' : Nat → Rat} : ∀ {n : Nat}, Sb n w w' → sz w n ≤ sz w' n
  | 0, _ => Nat.le_refl _
  | n + 1, h => by
    have h1 := sz_le (fun k hk q => h k (by omega) q : Sb n w w')
    have h2 := h n (by omega)
    simp only [sz]
    split
    · rename_i q; rw [if_pos (h2 q)]; omega
    · omega
theorem sz_lt {w w' : Nat → Rat} : ∀ {n : Nat}, Sb n w w' → (∃ k, k < n ∧ 0 < w' k ∧ ¬ 0 < w k) → sz w n < sz w' n
  | 0, _, ⟨k, hk, _⟩ => by omega
  | n + 1, h, ⟨k, hk, h1, h2⟩ => by
    have h3 := sz_le (fun k hk q => h k (by omega) q : Sb n w w')
    have h4 := h n (by omega)
    simp only [sz]
    by_cases q : k = n
    · subst q
      rw [if_neg h2, if_pos h1]; omega
    · have h5 := sz_lt (fun k hk q => h k (by omega) q : Sb n w w') ⟨k, by omega, h1, h2⟩
      split
      · rename_i q; rw [if_pos (h4 q)]; omega
      · omega
/-- the least of a quotient -/
theorem qmin (w w' : Nat → Rat) : ∀ n : Nat, (∃ k, k < n ∧ 0 < w' k) → ∃ k, k < n ∧ 0 < w' k ∧ ∀ j, j < n → 0 < w' j → w k * w' j ≤ w j * w' k
  | 0, ⟨k, hk, _⟩ => by omega
  | n + 1, hx => by
    by_cases hn : ∃ k, k < n ∧ 0 < w' k
    · obtain ⟨k, hk, hp, hm⟩ := qmin w w' n hn
      by_cases hq : 0 < w' n ∧ w n * w' k < w k * w' n
      · refine ⟨n, by omega, hq.1, fun j hj hjp => ?_⟩
        by_cases e : j = n
        · subst e; grind
        · have h1 := hm j (by omega) hjp
          have h2 := Rat.mul_le_mul_of_nonneg_left h1 (Rat.le_of_lt hq.1)
          have h3 := Rat.mul_le_mul_of_nonneg_left (Rat.le_of_lt hq.2) (Rat.le_of_lt hjp)
          have h4 : w' k * (w n * w' j) ≤ w' k * (w j * w' n) := by grind
          exact Rat.le_of_mul_le_mul_left h4 hp
      · refine ⟨k, by omega, hp, fun j hj hjp => ?_⟩
        by_cases e : j = n
        · subst e
          exact Rat.not_lt.mp (fun q => hq ⟨hjp, q⟩)
        · exact hm j (by omega) hjp
    · obtain ⟨k, hk, hp⟩ := hx
      have : k = n := by
        apply Classical.byContradiction
        intro q
        exact hn ⟨k, by omega, hp⟩
      subst this
      exact ⟨k, hk, hp, fun j hj hjp => by
        have : j = k := by
          apply Classical.byContradiction
          intro q
          exact hn ⟨j, by omega, hjp⟩
        subst this; grind⟩
/-- as much of w' as there is in w -/
theorem reduce {n : Nat} {A : Nat → Nat → Rat} {t : Nat} {w w' : Nat → Rat} (h : Cn n A t w) (h' : Cn n A t w') (hz : Nz n w') (hs : Sb n w' w) : ∃ r : Rat, 0 < r ∧ Cn n A t (fun k => w k - r * w' k) ∧ ∃ k, k < n ∧ 0 < w' k ∧ w k - r * w' k = 0 := by
  obtain ⟨k, hk, hp, hm⟩ := qmin w w' n hz
  have hwk := hs k hk hp
  have hi : 0 < (w' k)⁻¹ := Rat.inv_pos.mpr hp
  have hii : w' k * (w' k)⁻¹ = 1 := Rat.mul_inv_cancel _ (by grind)
  refine ⟨w k * (w' k)⁻¹, Rat.mul_pos hwk hi, ⟨fun j hj => ?_, fun j hj => ?_⟩, k, hk, hp, by grind⟩
  · by_cases q : 0 < w' j
    · have h1 := hm j hj q
      have h2 := Rat.mul_le_mul_of_nonneg_right h1 (Rat.le_of_lt hi)
      have h3 : w j * w' k * (w' k)⁻¹ = w j := by rw [Rat.mul_assoc, hii, Rat.mul_one]
      grind
    · have h1 := h'.1 j hj
      have h2 := h.1 j hj
      have h3 : w' j = 0 := by grind
      show 0 ≤ w j - w k * (w' k)⁻¹ * w' j
      rw [h3]; grind
  · rw [show sm n (fun i => (w i - w k * (w' k)⁻¹ * w' i) * A i j) = sm n (fun i => w i * A i j + (-(w k * (w' k)⁻¹)) * (w' i * A i j)) from sm_congr (fun i _ => by grind), sm_add, sm_mul, h.2 j hj, h'.2 j hj]
    grind
/-- there is one of least support within -/
theorem least_sup {n : Nat} {A : Nat → Nat → Rat} {t : Nat} : ∀ (d : Nat) (w : Nat → Rat), sz w n ≤ d → Cn n A t w → Nz n w → ∃ w', Mn n A t w' ∧ Sb n w' w := by
  intro d
  induction d with
  | zero =>
    intro w hd h hz
    obtain ⟨k, hk, hp⟩ := hz
    have := sz_lt (w := fun _ => 0) (w' := w) (n := n) (fun k _ q => by simp at q) ⟨k, hk, hp, by simp⟩
    omega
  | succ d ih =>
    intro w hd h hz
    by_cases hm : ∀ w', Cn n A t w' → Nz n w' → Sb n w' w → Sb n w w'
    · exact ⟨w, ⟨h, hz, hm⟩, Sb.rf⟩
    · obtain ⟨w', q⟩ := Classical.not_forall.mp hm
      have h1 : Cn n A t w' := Classical.byContradiction fun q9 => q fun a => absurd a q9
      have h2 : Nz n w' := Classical.byContradiction fun q9 => q fun _ a => absurd a q9
      have h3 : Sb n w' w := Classical.byContradiction fun q9 => q fun _ _ a => absurd a q9
      have h4 : ¬ Sb n w w' := fun q9 => q fun _ _ _ => q9
      have h5 : ∃ k, k < n ∧ 0 < w k ∧ ¬ 0 < w' k := by
        apply Classical.byContradiction
        intro q9
        exact h4 fun k hk hp => Classical.byContradiction fun q8 => q9 ⟨k, hk, hp, q8⟩
      have h6 := sz_lt h3 h5
      obtain ⟨v, hv, hs⟩ := ih w' (by omega) h1 h2
      exact ⟨v, hv, hs.tr h3⟩
/-- within one of least support there is nothing but itself -/
theorem Mn.prop {n : Nat} {A : Nat → Nat → Rat} {t : Nat} {w w' : Nat → Rat} (h : Mn n A t w) (h' : Cn n A t w') (hz : Nz n w') (hs : Sb n w' w) : ∃ r : Rat, 0 < r ∧ ∀ k, k < n → w k = r * w' k := by
  obtain ⟨r, hr, hc, k, hk, hp, he⟩ := reduce h.1 h' hz hs
  refine ⟨r, hr, ?_⟩
  apply Classical.byContradiction
  intro q
  have hz2 : Nz n (fun k => w k - r * w' k) := by
    apply Classical.byContradiction
    intro q2
    refine q fun j hj => ?_
    have h1 := hc.1 j hj
    have h2 : ¬ 0 < w j - r * w' j := fun q3 => q2 ⟨j, hj, q3⟩
    grind
  have hs2 : Sb n (fun k => w k - r * w' k) w := fun j hj q3 => by
    have h1 := h'.1 j hj
    have h2 := Rat.mul_nonneg (Rat.le_of_lt hr) h1
    grind
  have := h.2.2 _ hc hz2 hs2 k hk (hs k hk hp)
  grind
end
section
/-! ===== PURE: all of least support, one of each: how they go on from a column to the next ===== -/
/-- the members 0 .. c-1 of W are all that are of least support, each once -/
def DD (n : Nat) (A : Nat → Nat → Rat) (t c : Nat) (W : Nat → Nat → Rat) : Prop :=
  (∀ r, r < c → Mn n A t (W r)) ∧ (∀ r r', r < c → r' < c → Sb n (W r) (W r') → r = r') ∧ ∀ w, Cn n A t w → Nz n w → ∃ r, r < c ∧ Sb n (W r) w
/-- of a and b no other member lies within what both have -/
def Bes (n c : Nat) (W : Nat → Nat → Rat) (a b : Nat) : Prop := ∀ k, k < c → k ≠ a → k ≠ b → ¬ ∀ x, x < n → 0 < W k x → 0 < W a x ∨ 0 < W b x
/-- what a member makes of column t -/
def va (n : Nat) (A : Nat → Nat → Rat) (t : Nat) (w : Nat → Rat) : Rat := sm n (fun k => w k * A k t)
theorem va_lin (n : Nat) (A : Nat → Nat → Rat) (t : Nat) (a b : Rat) (w w' : Nat → Rat) : va n A t (fun k => a * w k + b * w' k) = a * va n A t w + b * va n A t w' := by
  unfold va
  rw [← sm_mul, ← sm_mul, ← sm_add]
  exact sm_congr (fun k _ => by grind)
theorem Cn.next {n : Nat} {A : Nat → Nat → Rat} {t : Nat} {w : Nat → Rat} (h : Cn n A t w) (hv : va n A t w = 0) : Cn n A (t + 1) w := ⟨h.1, fun j hj => by
  by_cases q : j = t
  · subst q; exact hv
  · exact h.2 j (by omega)⟩
theorem Cn.prev {n : Nat} {A : Nat → Nat → Rat} {t : Nat} {w : Nat → Rat} (h : Cn n A (t + 1) w) : Cn n A t w ∧ va n A t w = 0 := ⟨⟨h.1, fun j hj => h.2 j (by omega)⟩, h.2 t (by omega)⟩
/-- every vector of the cone is made of the members within it -/
theorem DD.gen {n : Nat} {A : Nat → Nat → Rat} {t c : Nat} {W : Nat → Nat → Rat} (h : DD n A t c W) : ∀ (d : Nat) (w : Nat → Rat), sz w n ≤ d → Cn n A t w → ∃ g : Nat → Rat, (∀ r, r < c → 0 ≤ g r) ∧ (∀ k, k < n → w k = sm c (fun r => g r * W r k)) ∧ ∀ r, r < c → 0 < g r → Sb n (W r) w := by
  intro d
  induction d with
  | zero =>
    intro w hd hw
    refine ⟨fun _ => 0, fun _ _ => by grind, fun k hk => ?_, fun r _ q => by simp at q⟩
    rw [sm_zero (fun r _ => by grind)]
    have h1 := hw.1 k hk
    have h2 : ¬ 0 < w k := fun q => by
      have := sz_lt (w := fun _ => 0) (w' := w) (n := n) (fun k _ q => by simp at q) ⟨k, hk, q, by simp⟩
      omega
    grind
  | succ d ih =>
    intro w hd hw
    by_cases hz : Nz n w
    · obtain ⟨r, hr, hs⟩ := h.2.2 w hw hz
      obtain ⟨y, hy, hc, k0, hk0, hp0, he0⟩ := reduce hw (h.1 r hr).1 (h.1 r hr).2.1 hs
      have hsub : Sb n (fun k => w k - y * W r k) w := fun j hj q => by
        have h1 := Rat.mul_nonneg (Rat.le_of_lt hy) ((h.1 r hr).1.1 j hj)
        grind
      have hlt : sz (fun k => w k - y * W r k) n < sz w n := sz_lt hsub ⟨k0, hk0, hs k0 hk0 hp0, by simp only [he0]; grind⟩
      obtain ⟨g, g1, g2, g3⟩ := ih _ (by omega) hc
      refine ⟨fun i => if i = r then g r + y else g i, fun i hi => ?_, fun k hk => ?_, fun i hi q => ?_⟩
      · have := g1 i hi
        by_cases e : i = r
        · subst e; simp; grind
        · simp [e]; exact this
      · have h1 := g2 k hk
        have h2 : sm c (fun i => (if i = r then g r + y else g i) * W i k) = sm c (fun i => g i * W i k + (if i = r then y * W r k else 0)) := sm_congr (fun i _ => by
          by_cases e : i = r
          · subst e; simp; grind
          · simp [e]; grind)
        rw [h2, sm_add, sm_one (f := fun i => if i = r then y * W r k else 0) hr (fun j _ hj => by simp [hj])]
        simp only [if_true]
        grind
      · by_cases e : i = r
        · subst e; exact hs
        · simp [e] at q
          exact (g3 i hi q).tr hsub
    · refine ⟨fun _ => 0, fun _ _ => by grind, fun k hk => ?_, fun r _ q => by simp at q⟩
      rw [sm_zero (fun r _ => by grind)]
      have h1 := hw.1 k hk
      have h2 : ¬ 0 < w k := fun q => hz ⟨k, hk, q⟩
      grind
/-- two beside each other, of either side: what they make together is of least support in the next cone -/
theorem DD.pair {n : Nat} {A : Nat → Nat → Rat} {t c : Nat} {W : Nat → Nat → Rat} (h : DD n A t c W) {a b : Nat} (ha : a < c) (hb : b < c) (hva : 0 < va n A t (W a)) (hvb : va n A t (W b) < 0) (hB : Bes n c W a b) {s : Rat} (hs : 0 < s) :
    Mn n A (t + 1) (fun k => s * ((-va n A t (W b)) * W a k + va n A t (W a) * W b k)) := by
  have hab : a ≠ b := fun q => by subst q; grind
  have hq : 0 < -va n A t (W b) := by grind
  have hpos : ∀ k, k < n → (0 < W a k ∨ 0 < W b k) → 0 < s * ((-va n A t (W b)) * W a k + va n A t (W a) * W b k) := fun k hk q => by
    have h1 := Rat.mul_nonneg (Rat.le_of_lt hq) ((h.1 a ha).1.1 k hk)
    have h2 := Rat.mul_nonneg (Rat.le_of_lt hva) ((h.1 b hb).1.1 k hk)
    refine Rat.mul_pos hs ?_
    rcases q with q | q
    · have := Rat.mul_pos hq q; grind
    · have := Rat.mul_pos hva q; grind
  have hneg : ∀ k, k < n → 0 < s * ((-va n A t (W b)) * W a k + va n A t (W a) * W b k) → 0 < W a k ∨ 0 < W b k := fun k hk q => by
    apply Classical.byContradiction
    intro q2
    have h1 := (h.1 a ha).1.1 k hk
    have h2 := (h.1 b hb).1.1 k hk
    have h3 : W a k = 0 := by have : ¬ 0 < W a k := fun q3 => q2 (Or.inl q3)
                              grind
    have h4 : W b k = 0 := by have : ¬ 0 < W b k := fun q3 => q2 (Or.inr q3)
                              grind
    rw [h3, h4] at q
    grind
  have hC0 : Cn n A t (fun k => s * ((-va n A t (W b)) * W a k + va n A t (W a) * W b k)) := by
    have := Cn.add (h.1 a ha).1 (h.1 b hb).1 (a := s * (-va n A t (W b))) (b := s * va n A t (W a)) (Rat.le_of_lt (Rat.mul_pos hs hq)) (Rat.le_of_lt (Rat.mul_pos hs hva))
    rw [show (fun k => s * ((-va n A t (W b)) * W a k + va n A t (W a) * W b k)) = (fun k => s * (-va n A t (W b)) * W a k + s * va n A t (W a) * W b k) from funext fun k => by grind]
    exact this
  refine ⟨hC0.next ?_, ?_, fun w' hw' hz hsub => ?_⟩
  · rw [show (fun k => s * ((-va n A t (W b)) * W a k + va n A t (W a) * W b k)) = (fun k => s * (-va n A t (W b)) * W a k + s * va n A t (W a) * W b k) from funext fun k => by grind, va_lin]
    grind
  · obtain ⟨k, hk, hp⟩ := (h.1 a ha).2.1
    exact ⟨k, hk, hpos k hk (Or.inl hp)⟩
  · obtain ⟨hw, hv⟩ := hw'.prev
    obtain ⟨g, g1, g2, g3⟩ := h.gen (sz w' n) w' (Nat.le_refl _) hw
    -- only a and b have a share
    have hg : ∀ r, r < c → r ≠ a → r ≠ b → g r = 0 := fun r hr e1 e2 => by
      apply Classical.byContradiction
      intro q
      have := g1 r hr
      have hgr : 0 < g r := by grind
      refine hB r hr e1 e2 fun x hx hp => hneg x hx (hsub x hx (g3 r hr hgr x hx hp))
    have hw2 : ∀ k, k < n → w' k = g a * W a k + g b * W b k := fun k hk => by
      rw [g2 k hk, sm_split ha (fun r => if r = a then 0 else g r * W r k) (fun i _ hi => by simp [hi]) (by simp)]
      rw [sm_one hb (fun j hj hjb => by
        by_cases e : j = a
        · simp [e]
        · simp [e]; rw [hg j hj e hjb]; grind)]
      show (if b = a then 0 else g b * W b k) + g a * W a k = _
      rw [if_neg (fun q : b = a => hab q.symm)]
      grind
    have hv2 : g a * va n A t (W a) + g b * va n A t (W b) = 0 := by
      rw [← va_lin, ← hv]
      unfold va
      exact sm_congr (fun k hk => by rw [hw2 k hk])
    have hga := g1 a ha
    have hgb := g1 b hb
    have hga2 : 0 < g a := by
      apply Classical.byContradiction
      intro q
      have e1 : g a = 0 := by grind
      have e2 : g b = 0 := by
        apply Classical.byContradiction
        intro q2
        have := Rat.mul_pos (show 0 < g b by grind) hq
        grind
      obtain ⟨k, hk, hp⟩ := hz
      rw [hw2 k hk, e1, e2] at hp
      grind
    have hgb2 : 0 < g b := by
      apply Classical.byContradiction
      intro q
      have e2 : g b = 0 := by grind
      have := Rat.mul_pos hga2 hva
      rw [e2] at hv2
      grind
    intro k hk hp
    rw [hw2 k hk]
    have h1 := Rat.mul_nonneg hga ((h.1 a ha).1.1 k hk)
    have h2 := Rat.mul_nonneg hgb ((h.1 b hb).1.1 k hk)
    rcases hneg k hk hp with q | q
    · have := Rat.mul_pos hga2 q; grind
    · have := Rat.mul_pos hgb2 q; grind
/-- from a column to the next: those that make 0 of it stay, and of the others each two beside each other, of either side, make one -/
theorem DD.step {n : Nat} {A : Nat → Nat → Rat} {t c c' : Nat} {W W' : Nat → Nat → Rat} (h : DD n A t c W) (src : Nat → Nat × Nat)
    (hinj : ∀ r r', r < c' → r' < c' → src r = src r' → r = r')
    (hall : ∀ r, r < c' → ((src r).1 = (src r).2 ∧ (src r).1 < c ∧ va n A t (W (src r).1) = 0 ∧ ∀ k, k < n → W' r k = W (src r).1 k) ∨ ((src r).1 < c ∧ (src r).2 < c ∧ 0 < va n A t (W (src r).1) ∧ va n A t (W (src r).2) < 0 ∧ Bes n c W (src r).1 (src r).2 ∧ ∃ s : Rat, 0 < s ∧ ∀ k, k < n → W' r k = s * ((-va n A t (W (src r).2)) * W (src r).1 k + va n A t (W (src r).1) * W (src r).2 k)))
    (hc0 : ∀ a, a < c → va n A t (W a) = 0 → ∃ r, r < c' ∧ src r = (a, a))
    (hc1 : ∀ a b, a < c → b < c → 0 < va n A t (W a) → va n A t (W b) < 0 → Bes n c W a b → ∃ r, r < c' ∧ src r = (a, b)) :
    DD n A (t + 1) c' W' := by
  have Mcongr : ∀ w w' : Nat → Rat, (∀ k, k < n → w' k = w k) → Mn n A (t + 1) w → Mn n A (t + 1) w' := by
    intro w w' e hm
    refine ⟨⟨fun k hk => by rw [e k hk]; exact hm.1.1 k hk, fun j hj => by rw [← hm.1.2 j hj]; exact sm_congr (fun k hk => by rw [e k hk])⟩, ?_, fun v hv hz hs k hk hp => ?_⟩
    · obtain ⟨k, hk, hp⟩ := hm.2.1
      exact ⟨k, hk, by rw [e k hk]; exact hp⟩
    · refine hm.2.2 v hv hz (fun j hj q => by rw [← e j hj]; exact hs j hj q) k hk (by rw [← e k hk]; exact hp)
  have M0 : ∀ a, a < c → va n A t (W a) = 0 → Mn n A (t + 1) (W a) := fun a ha hv => ⟨(h.1 a ha).1.next hv, (h.1 a ha).2.1, fun w' hw' hz hs => (h.1 a ha).2.2 w' hw'.prev.1 hz hs⟩
  have hM : ∀ r, r < c' → Mn n A (t + 1) (W' r) := by
    intro r hr
    rcases hall r hr with ⟨_, h2, h3, h4⟩ | ⟨h1, h2, h3, h4, h5, s, hs, h6⟩
    · exact Mcongr _ _ h4 (M0 _ h2 h3)
    · exact Mcongr _ _ h6 (h.pair h1 h2 h3 h4 h5 hs)
  -- the members of the elder family that lie within a new one
  have hin : ∀ r, r < c' → ∀ a, a < c → Sb n (W a) (W' r) → a = (src r).1 ∨ a = (src r).2 := by
    intro r hr a ha hs
    rcases hall r hr with ⟨_, h2, h3, h4⟩ | ⟨h1, h2, h3, h4, h5, s, hs0, h6⟩
    · exact Or.inl (h.2.1 a _ ha h2 (fun k hk q => by rw [← h4 k hk]; exact hs k hk q))
    · apply Classical.byContradiction
      intro q
      refine h5 a ha (fun e => q (Or.inl e)) (fun e => q (Or.inr e)) fun x hx hp => ?_
      have h7 := hs x hx hp
      rw [h6 x hx] at h7
      apply Classical.byContradiction
      intro q2
      have g1 := (h.1 _ h1).1.1 x hx
      have g2 := (h.1 _ h2).1.1 x hx
      have g3 : W (src r).1 x = 0 := by have : ¬ 0 < W (src r).1 x := fun q3 => q2 (Or.inl q3)
                                        grind
      have g4 : W (src r).2 x = 0 := by have : ¬ 0 < W (src r).2 x := fun q3 => q2 (Or.inr q3)
                                        grind
      rw [g3, g4] at h7
      grind
  -- a new one holds what it is made of
  have hof : ∀ r, r < c' → Sb n (W (src r).1) (W' r) ∧ Sb n (W (src r).2) (W' r) := by
    intro r hr
    rcases hall r hr with ⟨h1, h2, h3, h4⟩ | ⟨h1, h2, h3, h4, h5, s, hs0, h6⟩
    · rw [← h1]
      exact ⟨fun k hk q => by rw [h4 k hk]; exact q, fun k hk q => by rw [h4 k hk]; exact q⟩
    · have hq : 0 < -va n A t (W (src r).2) := by grind
      refine ⟨fun k hk q => ?_, fun k hk q => ?_⟩
      · rw [h6 k hk]
        have g1 := Rat.mul_pos hq q
        have g2 := Rat.mul_nonneg (Rat.le_of_lt h3) ((h.1 _ h2).1.1 k hk)
        exact Rat.mul_pos hs0 (by grind)
      · rw [h6 k hk]
        have g1 := Rat.mul_pos h3 q
        have g2 := Rat.mul_nonneg (Rat.le_of_lt hq) ((h.1 _ h1).1.1 k hk)
        exact Rat.mul_pos hs0 (by grind)
  refine ⟨hM, fun r r' hr hr' hs => ?_, fun w hw hz => ?_⟩
  · -- which elder members lie within r lie within r'
    have s1 : (src r).1 < c ∧ (src r).2 < c := by
      rcases hall r hr with ⟨h1, h2, _⟩ | ⟨h1, h2, _⟩
      · exact ⟨h2, by rw [← h1]; exact h2⟩
      · exact ⟨h1, h2⟩
    have a1 := hin r' hr' _ s1.1 ((hof r hr).1.tr hs)
    have a2 := hin r' hr' _ s1.2 ((hof r hr).2.tr hs)
    apply hinj r r' hr hr'
    rcases hall r hr with ⟨h1, h2, h3, h4⟩ | ⟨h1, h2, h3, h4, h5, _⟩ <;> rcases hall r' hr' with ⟨g1, g2, g3, g4⟩ | ⟨g1, g2, g3, g4, g5, _⟩
    · refine Prod.ext ?_ ?_
      · rcases a1 with q | q
        · exact q
        · rw [q, g1]
      · rcases a2 with q | q
        · rw [q, g1]
        · exact q
    · exfalso
      rcases a1 with q | q
      · rw [← q, h3] at g3; grind
      · rw [← q, h3] at g4; grind
    · exfalso
      rcases a1 with q | q
      · rw [q, g3] at h3; grind
      · rw [q, ← g1, g3] at h3; grind
    · refine Prod.ext ?_ ?_
      · rcases a1 with q | q
        · exact q
        · rw [q] at h3; grind
      · rcases a2 with q | q
        · rw [q] at h4; grind
        · exact q
  · -- one of least support within w, and where it comes from
    obtain ⟨u, hu, hus⟩ := least_sup (sz w n) w (Nat.le_refl _) hw hz
    obtain ⟨huC, huv⟩ := hu.1.prev
    by_cases hx : ∃ a, a < c ∧ va n A t (W a) = 0 ∧ Sb n (W a) u
    · obtain ⟨a, ha, hv, hs⟩ := hx
      obtain ⟨r, hr, e⟩ := hc0 a ha hv
      refine ⟨r, hr, ?_⟩
      rcases hall r hr with ⟨_, h2, h3, h4⟩ | ⟨h1, h2, h3, h4, h5, _⟩
      · intro k hk q
        rw [h4 k hk, e] at q
        exact hus k hk (hs k hk q)
      · rw [e] at h3; simp only at h3; rw [hv] at h3; grind
    · have hnz : ∀ a, a < c → Sb n (W a) u → va n A t (W a) ≠ 0 := fun a ha hs e => hx ⟨a, ha, e, hs⟩
      obtain ⟨g, g1, g2, g3⟩ := h.gen (sz u n) u (Nat.le_refl _) huC
      have hsum : sm c (fun r => g r * va n A t (W r)) = 0 := by
        rw [← huv]
        unfold va
        rw [show sm n (fun k => u k * A k t) = sm n (fun k => sm c (fun r => g r * (W r k * A k t))) from sm_congr (fun k hk => by
          rw [g2 k hk, ← sm_mulr]; exact sm_congr (fun r _ => by grind))]
        rw [sm_swap]
        exact sm_congr (fun r _ => by rw [sm_mul])
      have hex : ∃ r, r < c ∧ 0 < g r := by
        apply Classical.byContradiction
        intro q
        obtain ⟨k, hk, hp⟩ := hu.2.1
        rw [g2 k hk, sm_zero (fun r hr => by
          have := g1 r hr
          have : g r = 0 := by have : ¬ 0 < g r := fun q2 => q ⟨r, hr, q2⟩
                               grind
          rw [this]; grind)] at hp
        grind
      have hpos : ∃ a, a < c ∧ 0 < g a ∧ 0 < va n A t (W a) := by
        apply Classical.byContradiction
        intro q
        have hle : ∀ r, r < c → 0 ≤ g r * (-va n A t (W r)) := fun r hr => by
          have q1 := g1 r hr
          by_cases q2 : 0 < g r
          · have q3 : ¬ 0 < va n A t (W r) := fun q3 => q ⟨r, hr, q2, q3⟩
            exact Rat.mul_nonneg q1 (by grind)
          · have : g r = 0 := by grind
            rw [this]; grind
        have h0 : sm c (fun r => g r * (-va n A t (W r))) ≤ 0 := by
          rw [show sm c (fun r => g r * (-va n A t (W r))) = sm c (fun r => (-1) * (g r * va n A t (W r))) from sm_congr (fun r _ => by grind), sm_mul, hsum]; grind
        obtain ⟨r, hr, hgr⟩ := hex
        have h1 := sm_nil hle h0 r hr
        have h2 := hnz r hr (g3 r hr hgr)
        have h3 : va n A t (W r) = 0 := by
          rcases Rat.mul_eq_zero.mp h1 with q9 | q9 <;> grind
        exact h2 h3
      have hneg : ∃ b, b < c ∧ 0 < g b ∧ va n A t (W b) < 0 := by
        apply Classical.byContradiction
        intro q
        have hle : ∀ r, r < c → 0 ≤ g r * va n A t (W r) := fun r hr => by
          have q1 := g1 r hr
          by_cases q2 : 0 < g r
          · have q3 : ¬ va n A t (W r) < 0 := fun q3 => q ⟨r, hr, q2, q3⟩
            exact Rat.mul_nonneg q1 (by grind)
          · have : g r = 0 := by grind
            rw [this]; grind
        obtain ⟨r, hr, hgr⟩ := hex
        have h1 := sm_nil hle (by rw [hsum]; grind) r hr
        have h2 := hnz r hr (g3 r hr hgr)
        have h3 : va n A t (W r) = 0 := by
          rcases Rat.mul_eq_zero.mp h1 with q9 | q9 <;> grind
        exact h2 h3
      obtain ⟨a, ha, hga, hva⟩ := hpos
      obtain ⟨b, hb, hgb, hvb⟩ := hneg
      have hsa := g3 a ha hga
      have hsb := g3 b hb hgb
      have hab : a ≠ b := fun q => by subst q; grind
      -- any two of either side within u make u
      have two : ∀ a b, a < c → b < c → 0 < va n A t (W a) → va n A t (W b) < 0 → Sb n (W a) u → Sb n (W b) u → ∃ r : Rat, 0 < r ∧ ∀ k, k < n → u k = r * ((-va n A t (W b)) * W a k + va n A t (W a) * W b k) := by
        intro a b ha hb hva hvb hsa hsb
        have hq : 0 < -va n A t (W b) := by grind
        have hc := Cn.add (h.1 a ha).1 (h.1 b hb).1 (Rat.le_of_lt hq) (Rat.le_of_lt hva)
        refine hu.prop (hc.next (by rw [va_lin]; grind)) ?_ ?_
        · obtain ⟨k, hk, hp⟩ := (h.1 a ha).2.1
          refine ⟨k, hk, ?_⟩
          have q1 := Rat.mul_pos hq hp
          have q2 := Rat.mul_nonneg (Rat.le_of_lt hva) ((h.1 b hb).1.1 k hk)
          grind
        · intro k hk hp
          apply Classical.byContradiction
          intro q
          have q1 : W a k = 0 := by
            have := (h.1 a ha).1.1 k hk
            have : ¬ 0 < W a k := fun q9 => q (hsa k hk q9)
            grind
          have q2 : W b k = 0 := by
            have := (h.1 b hb).1.1 k hk
            have : ¬ 0 < W b k := fun q9 => q (hsb k hk q9)
            grind
          have hp2 : 0 < -va n A t (W b) * W a k + va n A t (W a) * W b k := hp
          rw [q1, q2] at hp2
          grind
      have hBes : Bes n c W a b := by
        intro k hk hka hkb hsub
        have hsk : Sb n (W k) u := fun x hx hp => by
          rcases hsub x hx hp with q | q
          · exact hsa x hx q
          · exact hsb x hx q
        have hvk := hnz k hk hsk
        obtain ⟨r1, hr1, e1⟩ := two a b ha hb hva hvb hsa hsb
        by_cases hs : 0 < va n A t (W k)
        · obtain ⟨r2, hr2, e2⟩ := two k b hk hb hs hvb hsk hsb
          -- r2 (-vb Wk + vk Wb) = r1 (-vb Wa + va Wb)
          by_cases hm : r1 * va n A t (W a) ≤ r2 * va n A t (W k)
          · -- then W k <= multiple of W a: Wk within Wa
            refine hka (h.2.1 k a hk ha fun x hx hp => ?_)
            have q1 := e1 x hx
            have q2 := e2 x hx
            have q3 := Rat.mul_nonneg (show 0 ≤ r2 * va n A t (W k) - r1 * va n A t (W a) by grind) ((h.1 b hb).1.1 x hx)
            have q4 := Rat.mul_pos (Rat.mul_pos hr2 (show 0 < -va n A t (W b) by grind)) hp
            have q5 : 0 < r1 * (-va n A t (W b)) * W a x := by grind
            have q6 := (h.1 a ha).1.1 x hx
            apply Classical.byContradiction
            intro q7
            have q8 : W a x = 0 := by grind
            rw [q8] at q5
            grind
          · refine hka (h.2.1 a k ha hk fun x hx hp => ?_).symm
            have q1 := e1 x hx
            have q2 := e2 x hx
            have q3 := Rat.mul_nonneg (show 0 ≤ r1 * va n A t (W a) - r2 * va n A t (W k) by grind) ((h.1 b hb).1.1 x hx)
            have q4 := Rat.mul_pos (Rat.mul_pos hr1 (show 0 < -va n A t (W b) by grind)) hp
            have q5 : 0 < r2 * (-va n A t (W b)) * W k x := by grind
            have q6 := (h.1 k hk).1.1 x hx
            apply Classical.byContradiction
            intro q7
            have q8 : W k x = 0 := by grind
            rw [q8] at q5
            grind
        · have hs : va n A t (W k) < 0 := by grind
          obtain ⟨r2, hr2, e2⟩ := two a k ha hk hva hs hsa hsk
          by_cases hm : r1 * (-va n A t (W b)) ≤ r2 * (-va n A t (W k))
          · refine hkb (h.2.1 k b hk hb fun x hx hp => ?_)
            have q1 := e1 x hx
            have q2 := e2 x hx
            have q3 := Rat.mul_nonneg (show 0 ≤ r2 * (-va n A t (W k)) - r1 * (-va n A t (W b)) by grind) ((h.1 a ha).1.1 x hx)
            have q4 := Rat.mul_pos (Rat.mul_pos hr2 hva) hp
            have q5 : 0 < r1 * va n A t (W a) * W b x := by grind
            have q6 := (h.1 b hb).1.1 x hx
            apply Classical.byContradiction
            intro q7
            have q8 : W b x = 0 := by grind
            rw [q8] at q5
            grind
          · refine hkb (h.2.1 b k hb hk fun x hx hp => ?_).symm
            have q1 := e1 x hx
            have q2 := e2 x hx
            have q3 := Rat.mul_nonneg (show 0 ≤ r1 * (-va n A t (W b)) - r2 * (-va n A t (W k)) by grind) ((h.1 a ha).1.1 x hx)
            have q4 := Rat.mul_pos (Rat.mul_pos hr1 hva) hp
            have q5 : 0 < r2 * va n A t (W a) * W k x := by grind
            have q6 := (h.1 k hk).1.1 x hx
            apply Classical.byContradiction
            intro q7
            have q8 : W k x = 0 := by grind
            rw [q8] at q5
            grind
      obtain ⟨r, hr, e⟩ := hc1 a b ha hb hva hvb hBes
      refine ⟨r, hr, ?_⟩
      rcases hall r hr with ⟨h1, h2, h3, h4⟩ | ⟨h1, h2, h3, h4, h5, s, hs0, h6⟩
      · rw [e] at h3; simp only at h3; rw [h3] at hva; grind
      · rw [e] at h6
        simp only at h6
        intro k hk q
        rw [h6 k hk] at q
        apply hus k hk
        apply Classical.byContradiction
        intro q0
        have q1 : W a k = 0 := by
          have := (h.1 a ha).1.1 k hk
          have : ¬ 0 < W a k := fun q9 => q0 (hsa k hk q9)
          grind
        have q2 : W b k = 0 := by
          have := (h.1 b hb).1.1 k hk
          have : ¬ 0 < W b k := fun q9 => q0 (hsb k hk q9)
          grind
        rw [q1, q2] at q
        grind
end
section
/-! ===== PURE: how large a least support is ===== -/
theorem rq_4 {a x : Rat} (h : 0 < a - x * 0) : 0 < a := by grind
theorem rq_6 {a b i : Rat} (h : b * i = 1) (h2 : 0 < a - a * i * b) : False := by
  have e : a - a * i * b = 0 := by grind
  rw [e] at h2
  exact absurd h2 (by grind)
theorem sz_ct (w : Nat → Rat) : ∀ n, sz w n = ct (fun k => decide (0 < w k)) n
  | 0 => rfl
  | n + 1 => by simp only [sz, ct]; rw [sz_ct w n]; simp
/-- one of least support has one more than there are columns, at most -/
theorem Mn.size {n : Nat} {A : Nat → Nat → Rat} {t : Nat} {w : Nat → Rat} (h : Mn n A t w) : sz w n ≤ t + 1 := by
  apply Classical.byContradiction
  intro q
  obtain ⟨k0, hk0, hp0⟩ := h.2.1
  have h1 := ct_without (P := fun k => decide (0 < w k)) hk0 (by simpa using hp0)
  rw [← sz_ct] at h1
  obtain ⟨c, ⟨i, hi, hci⟩, hcP, hs⟩ := dependP t n (fun k => decide (0 < w k) && !(k == k0)) (by omega) A
  -- one of c, -c has a member above 0
  have key : ∀ u : Nat → Rat, (∃ i, i < n ∧ 0 < u i) → (∀ i, (decide (0 < w i) && !(i == k0)) = false → u i = 0) → (∀ j, j < t → sm n (fun i => u i * A i j) = 0) → False := by
    intro u hu huP hus
    obtain ⟨k, hk, hp, hm⟩ := qmin w u n hu
    have hwk : 0 < w k := by
      apply Classical.byContradiction
      intro q9
      have := huP k (by simp [q9])
      grind
    have hkk : k ≠ k0 := fun e => by
      subst e
      have := huP k (by simp)
      grind
    have hi : 0 < (u k)⁻¹ := Rat.inv_pos.mpr hp
    have hii : u k * (u k)⁻¹ = 1 := Rat.mul_inv_cancel _ (by grind)
    have hr : 0 < w k * (u k)⁻¹ := Rat.mul_pos hwk hi
    have hC : Cn n A t (fun j => w j - w k * (u k)⁻¹ * u j) := by
      refine ⟨fun j hj => ?_, fun j hj => ?_⟩
      · have hw := h.1.1 j hj
        by_cases q : 0 < u j
        · have h1 := hm j hj q
          have h2 := Rat.mul_le_mul_of_nonneg_right h1 (Rat.le_of_lt hi)
          have h3 : w j * u k * (u k)⁻¹ = w j := by rw [Rat.mul_assoc, hii, Rat.mul_one]
          grind
        · have := Rat.mul_nonneg (Rat.le_of_lt hr) (show 0 ≤ -u j by grind)
          grind
      · rw [show sm n (fun i => (w i - w k * (u k)⁻¹ * u i) * A i j) = sm n (fun i => w i * A i j + (-(w k * (u k)⁻¹)) * (u i * A i j)) from sm_congr (fun i _ => by grind), sm_add, sm_mul, h.1.2 j hj, hus j hj]
        grind
    have hz : Nz n (fun j => w j - w k * (u k)⁻¹ * u j) := ⟨k0, hk0, by
      have := huP k0 (by simp)
      show 0 < w k0 - w k * (u k)⁻¹ * u k0
      rw [this]; grind⟩
    have hsub : Sb n (fun j => w j - w k * (u k)⁻¹ * u j) w := fun j hj q9 => by
      apply Classical.byContradiction
      intro q8
      have e1 := huP j (by simp [q8])
      have e2 := h.1.1 j hj
      have q7 : 0 < w j - w k * (u k)⁻¹ * u j := q9
      rw [e1] at q7
      exact q8 (rq_4 q7)
    have q6 : 0 < w k - w k * (u k)⁻¹ * u k := h.2.2 _ hC hz hsub k hk hwk
    exact rq_6 hii q6
  by_cases hpos : ∃ i, i < n ∧ 0 < c i
  · exact key c hpos hcP hs
  · refine key (fun i => -c i) ⟨i, hi, ?_⟩ (fun i hi => ?_) (fun j hj => ?_)
    · have : ¬ 0 < c i := fun q => hpos ⟨i, hi, q⟩
      grind
    · rw [hcP i hi]; grind
    · rw [show sm n (fun i => -c i * A i j) = sm n (fun i => (-1) * (c i * A i j)) from sm_congr (fun i _ => by grind), sm_mul, hs j hj]; grind
end
section
/-! ===== PURE: pairs of sets that meet one way (Bollobas, skew): how many there are ===== -/
/-- tuples of a numbers, falling, the greatest being b at most -/
def tupN (b : Nat) (f : Nat → List (List Nat)) : Nat → List (List Nat)
  | 0 => [[]]
  | a + 1 => f (a + 1) ++ (tupN b f a).map (fun l => b :: l)
def tup : Nat → Nat → List (List Nat)
  | 0 => fun a => [List.replicate a 0]
  | b + 1 => tupN (b + 1) (tup b)
def dnN (f : Nat → Nat) : Nat → Nat
  | 0 => 1
  | a + 1 => f (a + 1) + dnN f a
def DN : Nat → Nat → Nat
  | 0 => fun _ => 1
  | b + 1 => dnN (DN b)
theorem tup_len : ∀ b a, (tup b a).length = DN b a
  | 0, a => rfl
  | b + 1, 0 => rfl
  | b + 1, a + 1 => by
    show (tup b (a + 1) ++ (tup (b + 1) a).map _).length = DN b (a + 1) + DN (b + 1) a
    rw [List.length_append, List.length_map, tup_len b (a + 1), tup_len (b + 1) a]
/-- the product of what co says of a list's members -/
def lp (co : Nat → Rat) : List Nat → Rat
  | [] => 1
  | e :: l => co e * lp co l
theorem lp_take {x : Nat} : ∀ {l : List Nat}, x ∈ l → ∃ l1 : List Nat, l1.length + 1 = l.length ∧ (∀ y, y ∈ l1 → y ∈ l) ∧ ∀ co, lp co l = co x * lp co l1
  | [], h => by simp at h
  | e :: l, h => by
    by_cases q : x = e
    · subst q
      exact ⟨l, rfl, fun y hy => List.mem_cons_of_mem _ hy, fun co => rfl⟩
    · have h1 : x ∈ l := by
        rcases List.mem_cons.mp h with q2 | q2
        · exact absurd q2 q
        · exact q2
      obtain ⟨l1, e1, e2, e3⟩ := lp_take h1
      refine ⟨e :: l1, by simp only [List.length_cons]; omega, fun y hy => ?_, fun co => ?_⟩
      · rcases List.mem_cons.mp hy with q2 | q2
        · rw [q2]; exact List.mem_cons_self
        · exact List.mem_cons_of_mem _ (e2 y q2)
      · show co e * lp co l = co x * (co e * lp co l1)
        rw [e3 co]; grind
theorem lp_zero (co : Nat → Rat) : ∀ l : List Nat, (∀ y, y ∈ l → y ≤ 0) → lp co l = lp co (List.replicate l.length 0)
  | [], _ => rfl
  | e :: l, h => by
    have : e = 0 := by have := h e List.mem_cons_self; omega
    subst this
    show co 0 * lp co l = co 0 * lp co (List.replicate l.length 0)
    rw [← lp_zero co l (fun y hy => h y (List.mem_cons_of_mem _ hy))]
theorem tup_has : ∀ (b a : Nat) (l : List Nat), l.length = a → (∀ y, y ∈ l → y ≤ b) → ∃ l', l' ∈ tup b a ∧ ∀ co, lp co l' = lp co l
  | 0, a, l, hl, h => ⟨List.replicate a 0, List.mem_singleton.mpr rfl, fun co => by rw [lp_zero co l h, hl]⟩
  | b + 1, 0, l, hl, _ => by
    have : l = [] := List.eq_nil_of_length_eq_zero hl
    subst this
    exact ⟨[], List.mem_singleton.mpr rfl, fun _ => rfl⟩
  | b + 1, a + 1, l, hl, h => by
    by_cases q : b + 1 ∈ l
    · obtain ⟨l1, e1, e2, e3⟩ := lp_take q
      obtain ⟨l2, f1, f2⟩ := tup_has (b + 1) a l1 (by omega) (fun y hy => h y (e2 y hy))
      refine ⟨(b + 1) :: l2, ?_, fun co => ?_⟩
      · show _ ∈ tup b (a + 1) ++ (tup (b + 1) a).map _
        exact List.mem_append_right _ (List.mem_map.mpr ⟨l2, f1, rfl⟩)
      · rw [e3 co, ← f2 co]; rfl
    · obtain ⟨l2, f1, f2⟩ := tup_has b (a + 1) l hl (fun y hy => by
        have h1 := h y hy
        have h2 : y ≠ b + 1 := fun e => by subst e; exact q hy
        omega)
      exact ⟨l2, List.mem_append_left _ f1, f2⟩
/-- z - x for every x of a set, multiplied -/
def gp (B : Nat → Bool) (z : Rat) : Nat → Rat
  | 0 => 1
  | n + 1 => gp B z n * (if B n then z - (n : Rat) else 1)
theorem gp_poly (B : Nat → Bool) : ∀ n, ∃ co : Nat → Rat, ∀ z : Rat, gp B z n = sm (ct B n + 1) (fun e => co e * z ^ e)
  | 0 => ⟨fun _ => 1, fun z => by simp only [gp, ct, sm]; grind⟩
  | n + 1 => by
    obtain ⟨co, h⟩ := gp_poly B n
    by_cases q : B n = true
    · refine ⟨fun e => (if e = 0 then 0 else co (e - 1)) + (if e < ct B n + 1 then -(n : Rat) * co e else 0), fun z => ?_⟩
      simp only [gp, ct, q, if_true]
      rw [h z]
      have e1 : sm (ct B n + 1 + 1) (fun e => ((if e = 0 then 0 else co (e - 1)) + (if e < ct B n + 1 then -(n : Rat) * co e else 0)) * z ^ e) = sm (ct B n + 1 + 1) (fun e => (if e = 0 then 0 else co (e - 1)) * z ^ e) + sm (ct B n + 1 + 1) (fun e => (if e < ct B n + 1 then -(n : Rat) * co e else 0) * z ^ e) := by
        rw [← sm_add]; exact sm_congr (fun e _ => by grind)
      have e2 : ∀ m, sm (m + 1) (fun e => (if e = 0 then 0 else co (e - 1)) * z ^ e) = z * sm m (fun e => co e * z ^ e) := by
        intro m
        induction m with
        | zero => simp only [sm]; grind
        | succ m ih =>
          have e9 : sm (m + 1 + 1) (fun e => (if e = 0 then 0 else co (e - 1)) * z ^ e) = sm (m + 1) (fun e => (if e = 0 then 0 else co (e - 1)) * z ^ e) + co m * z ^ (m + 1) := by
            show _ + (if m + 1 = 0 then 0 else co (m + 1 - 1)) * z ^ (m + 1) = _
            rw [if_neg (by omega), show m + 1 - 1 = m by omega]
          rw [e9, ih, Rat.pow_succ]
          show _ = z * (sm m _ + co m * z ^ m)
          grind
      have e3 : sm (ct B n + 1 + 1) (fun e => (if e < ct B n + 1 then -(n : Rat) * co e else 0) * z ^ e) = -(n : Rat) * sm (ct B n + 1) (fun e => co e * z ^ e) := by
        show sm (ct B n + 1) _ + (if ct B n + 1 < ct B n + 1 then -(n : Rat) * co (ct B n + 1) else 0) * z ^ (ct B n + 1) = _
        rw [if_neg (show ¬ ct B n + 1 < ct B n + 1 by omega), ← sm_mul, sm_congr (g := fun e => -(n : Rat) * (co e * z ^ e)) (fun e he => by rw [if_pos he]; grind)]
        grind
      rw [e1, e2, e3]
      grind
    · refine ⟨co, fun z => ?_⟩
      simp only [gp, ct, q]
      simp
      rw [h z]
theorem gp_ne {B : Nat → Bool} {z : Nat} : ∀ {n : Nat}, (∀ x, x < n → B x = true → x ≠ z) → gp B (z : Rat) n ≠ 0
  | 0, _ => by simp only [gp]; grind
  | n + 1, h => by
    simp only [gp]
    intro q
    rcases Rat.mul_eq_zero.mp q with q | q
    · exact gp_ne (fun x hx => h x (by omega)) q
    · split at q
      · rename_i hb
        have h1 := h n (by omega) hb
        have h2 : (z : Rat) = (n : Rat) := by grind
        exact h1 (Rat.natCast_inj.mp h2).symm
      · grind
theorem gp_z {B : Nat → Bool} {z : Nat} : ∀ {n : Nat}, z < n → B z = true → gp B (z : Rat) n = 0
  | 0, h, _ => by omega
  | n + 1, h, hb => by
    simp only [gp]
    by_cases q : z = n
    · subst q
      rw [hb]; simp; grind
    · rw [gp_z (by omega) hb]; grind
/-- the members of a set below n -/
def els (R : Nat → Bool) : Nat → List Nat
  | 0 => []
  | n + 1 => if R n then n :: els R n else els R n
theorem els_len (R : Nat → Bool) : ∀ n, (els R n).length = ct R n
  | 0 => rfl
  | n + 1 => by
    simp only [els, ct]
    split
    · rw [List.length_cons, els_len R n]
    · rw [els_len R n]; rfl
theorem els_mem {R : Nat → Bool} {x : Nat} : ∀ {n : Nat}, x ∈ els R n ↔ x < n ∧ R x = true
  | 0 => by simp [els]
  | n + 1 => by
    simp only [els]
    split
    · rename_i h
      rw [List.mem_cons, els_mem]
      constructor
      · rintro (q | q)
        · subst q; exact ⟨by omega, h⟩
        · exact ⟨by omega, q.2⟩
      · rintro ⟨q1, q2⟩
        by_cases e : x = n
        · exact Or.inl e
        · exact Or.inr ⟨by omega, q2⟩
    · rename_i h
      rw [els_mem]
      constructor
      · rintro ⟨q1, q2⟩; exact ⟨by omega, q2⟩
      · rintro ⟨q1, q2⟩
        refine ⟨?_, q2⟩
        have : x ≠ n := fun e => by subst e; exact h q2
        omega
/-- the product of what g makes of a list's members -/
def lq (g : Nat → Rat) : List Nat → Rat
  | [] => 1
  | z :: l => g z * lq g l
theorem lq_ne {g : Nat → Rat} : ∀ {l : List Nat}, (∀ z, z ∈ l → g z ≠ 0) → lq g l ≠ 0
  | [], _ => by simp only [lq]; grind
  | z :: l, h => by
    intro q
    rcases Rat.mul_eq_zero.mp q with q | q
    · exact h z List.mem_cons_self q
    · exact lq_ne (fun y hy => h y (List.mem_cons_of_mem _ hy)) q
theorem lq_z {g : Nat → Rat} {z : Nat} (hg : g z = 0) : ∀ {l : List Nat}, z ∈ l → lq g l = 0
  | [], h => by simp at h
  | y :: l, h => by
    show g y * lq g l = 0
    rcases List.mem_cons.mp h with q | q
    · rw [← q, hg]; grind
    · rw [lq_z hg q]; grind
/-- the last of those that are such, by a strict order that is total on them -/
theorem last_of (lt : Nat → Nat → Prop) (htr : ∀ a b c, lt a b → lt b c → lt a c) (P : Nat → Prop) : ∀ c : Nat, (∀ a b, a < c → b < c → P a → P b → a ≠ b → lt a b ∨ lt b a) → (∃ k, k < c ∧ P k) → ∃ k, k < c ∧ P k ∧ ∀ j, j < c → P j → j ≠ k → lt j k
  | 0, _, ⟨k, hk, _⟩ => by omega
  | c + 1, htot, hx => by
    by_cases q : ∃ k, k < c ∧ P k
    · obtain ⟨k, hk, hp, hm⟩ := last_of lt htr P c (fun a b ha hb => htot a b (by omega) (by omega)) q
      by_cases hc : P c ∧ lt k c
      · refine ⟨c, by omega, hc.1, fun j hj hjp hjc => ?_⟩
        by_cases e : j = k
        · subst e; exact hc.2
        · exact htr j k c (hm j (by omega) hjp e) hc.2
      · refine ⟨k, by omega, hp, fun j hj hjp hjk => ?_⟩
        by_cases e : j = c
        · subst e
          rcases htot j k (by omega) (by omega) hjp hp hjk with q2 | q2
          · exact q2
          · exact absurd ⟨hjp, q2⟩ hc
        · exact hm j (by omega) hjp hjk
    · obtain ⟨k, hk, hp⟩ := hx
      have e : k = c := by
        apply Classical.byContradiction
        intro q2
        exact q ⟨k, by omega, hp⟩
      subst e
      exact ⟨k, hk, hp, fun j hj hjp hjk => absurd ⟨j, by omega, hjp⟩ q⟩
theorem boll (n a b c : Nat) (R B : Nat → Nat → Bool) (P : Nat → Bool) (lt : Nat → Nat → Prop) (htr : ∀ x y z, lt x y → lt y z → lt x z) (htot : ∀ x y, x < c → y < c → x ≠ y → lt x y ∨ lt y x)
    (hR : ∀ r, r < c → P r = true → ct (R r) n = a) (hB : ∀ r, r < c → P r = true → ct (B r) n = b)
    (hdis : ∀ r, r < c → P r = true → ∀ x, x < n → R r x = true → B r x = false)
    (hmeet : ∀ r r', r < c → r' < c → P r = true → P r' = true → lt r r' → ∃ x, x < n ∧ R r' x = true ∧ B r x = true) : ct P c ≤ DN b a := by
  apply Classical.byContradiction
  intro hq
  have hco : ∀ r, ∃ co : Nat → Rat, ∀ z : Rat, gp (B r) z n = sm (ct (B r) n + 1) (fun e => co e * z ^ e) := fun r => gp_poly (B r) n
  obtain ⟨co, hco⟩ := Classical.axiomOfChoice hco
  obtain ⟨y, ⟨i, hi, hyi⟩, hyP, hs⟩ := dependP (DN b a) c P (by omega) (fun r j => lp (co r) ((tup b a).getD j []))
  have hyP' : ∀ r, y r ≠ 0 → P r = true := fun r q => by
    apply Classical.byContradiction
    intro q2
    exact q (hyP r (by simpa using q2))
  -- all lists of length a
  have h1 : ∀ l : List Nat, l.length = a → (∀ e, e ∈ l → e ≤ b) → sm c (fun r => y r * lp (co r) l) = 0 := by
    intro l hl hle
    obtain ⟨l', m1, m2⟩ := tup_has b a l hl hle
    obtain ⟨j, hj⟩ := List.getElem?_of_mem m1
    have hjl : j < (tup b a).length := (List.getElem?_eq_some_iff.mp hj).1
    have h2 := hs j (by rw [← tup_len]; exact hjl)
    rw [← h2]
    refine sm_congr (fun r _ => ?_)
    rw [← m2 (co r)]
    rw [List.getD_eq_getElem?_getD, hj]
    rfl
  -- some of them made to values
  have h2 : ∀ (zs : List Nat) (l : List Nat), l.length + zs.length = a → (∀ e, e ∈ l → e ≤ b) → sm c (fun r => y r * (lp (co r) l * lq (fun z => gp (B r) (z : Rat) n) zs)) = 0 := by
    intro zs
    induction zs with
    | nil =>
      intro l hl hle
      rw [← h1 l (by simpa using hl) hle]
      exact sm_congr (fun r _ => by simp only [lq]; grind)
    | cons z zs ih =>
      intro l hl hle
      have e1 : sm c (fun r => y r * (lp (co r) l * lq (fun z => gp (B r) (z : Rat) n) (z :: zs))) = sm c (fun r => sm (b + 1) (fun e => (z : Rat) ^ e * (y r * (lp (co r) (e :: l) * lq (fun z => gp (B r) (z : Rat) n) zs)))) := by
        refine sm_congr (fun r hr => ?_)
        by_cases hyr : y r = 0
        · rw [hyr, sm_zero (fun e _ => by grind)]; grind
        · have hb := hB r hr (hyP' r hyr)
          show y r * (lp (co r) l * (gp (B r) (z : Rat) n * lq (fun z => gp (B r) (z : Rat) n) zs)) = _
          rw [hco r (z : Rat), hb]
          rw [show sm (b + 1) (fun e => (z : Rat) ^ e * (y r * (lp (co r) (e :: l) * lq (fun z => gp (B r) (z : Rat) n) zs))) = sm (b + 1) (fun e => (y r * (lp (co r) l * lq (fun z => gp (B r) (z : Rat) n) zs)) * (co r e * (z : Rat) ^ e)) from sm_congr (fun e _ => by
            show _ * (y r * (co r e * lp (co r) l * _)) = _
            grind)]
          rw [sm_mul]
          grind
      rw [e1, sm_swap]
      refine sm_zero (fun e he => ?_)
      rw [sm_mul, ih (e :: l) (by simp only [List.length_cons] at *; omega) (fun x hx => by
        rcases List.mem_cons.mp hx with q | q
        · omega
        · exact hle x q)]
      grind
  obtain ⟨k, hk, hyk, hlast⟩ := last_of lt htr (fun r => y r ≠ 0) c (fun a b ha hb _ _ hab => htot a b ha hb hab) ⟨i, hi, hyi⟩
  have h3 := h2 (els (R k) n) [] (by rw [els_len, hR k hk (hyP' k hyk)]; simp) (fun e he => by simp at he)
  rw [sm_one hk (fun j hj hjk => by
    by_cases hyj : y j = 0
    · rw [hyj]; grind
    · obtain ⟨x, hx, hx1, hx2⟩ := hmeet j k hj hk (hyP' j hyj) (hyP' k hyk) (hlast j hj hyj hjk)
      rw [lq_z (g := fun z => gp (B j) (z : Rat) n) (z := x) (gp_z hx hx2) (els_mem.mpr ⟨hx, hx1⟩)]
      grind)] at h3
  have h4 : lq (fun z => gp (B k) (z : Rat) n) (els (R k) n) ≠ 0 := lq_ne (fun z hz => by
    obtain ⟨z1, z2⟩ := els_mem.mp hz
    refine gp_ne (fun x hx hb e => ?_)
    subst e
    have := hdis k hk (hyP' k hyk) x hx z2
    rw [hb] at this
    cases this)
  rcases Rat.mul_eq_zero.mp h3 with q | q
  · exact hyk q
  · rcases Rat.mul_eq_zero.mp q with q | q
    · simp only [lp] at q; grind
    · exact h4 q
end
section
/-! ===== PURE: how many of least support there are ===== -/
/-- the space of the weights of any sign -/
def Ks (n : Nat) (A : Nat → Nat → Rat) (t : Nat) (w : Nat → Rat) : Prop := ∀ j, j < t → sm n (fun k => w k * A k j) = 0
theorem Ks.lin {n : Nat} {A : Nat → Nat → Rat} {t : Nat} {w w' : Nat → Rat} (h : Ks n A t w) (h' : Ks n A t w') (a b : Rat) : Ks n A t (fun k => a * w k + b * w' k) := fun j hj => by
  rw [show sm n (fun k => (a * w k + b * w' k) * A k j) = sm n (fun k => a * (w k * A k j) + b * (w' k * A k j)) from sm_congr (fun k _ => by grind), sm_add, sm_mul, sm_mul, h j hj, h' j hj]
  grind
theorem Ks.sum {n : Nat} {A : Nat → Nat → Rat} {t : Nat} {x : Nat → Rat} {w : Nat → Nat → Rat} {c : Nat} (h : ∀ r, r < c → x r ≠ 0 → Ks n A t (w r)) : Ks n A t (fun k => sm c (fun r => x r * w r k)) := fun j hj => by
  rw [show sm n (fun k => sm c (fun r => x r * w r k) * A k j) = sm n (fun k => sm c (fun r => x r * (w r k * A k j))) from sm_congr (fun k _ => by rw [← sm_mulr]; exact sm_congr (fun r _ => by grind)), sm_swap]
  refine sm_zero (fun r hr => ?_)
  rw [sm_mul]
  by_cases q : x r = 0
  · rw [q]; grind
  · rw [h r hr q j hj]; grind
/-- within a least support there is nothing else, of any sign -/
theorem Mn.propK {n : Nat} {A : Nat → Nat → Rat} {t : Nat} {w v : Nat → Rat} (h : Mn n A t w) (hv : Ks n A t v) (hs : ∀ k, k < n → ¬ 0 < w k → v k = 0) : ∃ a : Rat, ∀ k, k < n → v k = a * w k := by
  have key : ∀ u : Nat → Rat, Ks n A t u → (∀ k, k < n → ¬ 0 < w k → u k = 0) → (∃ i, i < n ∧ 0 < u i) → ∃ a : Rat, ∀ k, k < n → u k = a * w k := by
    intro u hu hus hup
    obtain ⟨k, hk, hp, hm⟩ := qmin w u n hup
    have hwk : 0 < w k := by
      apply Classical.byContradiction
      intro q9
      have := hus k hk q9
      grind
    have hi : 0 < (u k)⁻¹ := Rat.inv_pos.mpr hp
    have hii : u k * (u k)⁻¹ = 1 := Rat.mul_inv_cancel _ (by grind)
    have hr : 0 < w k * (u k)⁻¹ := Rat.mul_pos hwk hi
    have hC : Cn n A t (fun j => w j - w k * (u k)⁻¹ * u j) := by
      refine ⟨fun j hj => ?_, fun j hj => ?_⟩
      · have hw := h.1.1 j hj
        by_cases q : 0 < u j
        · have h1 := hm j hj q
          have h2 := Rat.mul_le_mul_of_nonneg_right h1 (Rat.le_of_lt hi)
          have h3 : w j * u k * (u k)⁻¹ = w j := by rw [Rat.mul_assoc, hii, Rat.mul_one]
          grind
        · have := Rat.mul_nonneg (Rat.le_of_lt hr) (show 0 ≤ -u j by grind)
          grind
      · rw [show sm n (fun i => (w i - w k * (u k)⁻¹ * u i) * A i j) = sm n (fun i => w i * A i j + (-(w k * (u k)⁻¹)) * (u i * A i j)) from sm_congr (fun i _ => by grind), sm_add, sm_mul, h.1.2 j hj, hu j hj]
        grind
    have hsub : Sb n (fun j => w j - w k * (u k)⁻¹ * u j) w := fun j hj q9 => by
      apply Classical.byContradiction
      intro q8
      have e1 := hus j hj q8
      have q7 : 0 < w j - w k * (u k)⁻¹ * u j := q9
      rw [e1] at q7
      exact q8 (rq_4 q7)
    by_cases hz : Nz n (fun j => w j - w k * (u k)⁻¹ * u j)
    · have q6 : 0 < w k - w k * (u k)⁻¹ * u k := h.2.2 _ hC hz hsub k hk hwk
      exact (rq_6 hii q6).elim
    · refine ⟨(w k * (u k)⁻¹)⁻¹, fun j hj => ?_⟩
      have h1 : 0 ≤ w j - w k * (u k)⁻¹ * u j := hC.1 j hj
      have h2 : ¬ 0 < w j - w k * (u k)⁻¹ * u j := fun q => hz ⟨j, hj, q⟩
      have h3 : w j = w k * (u k)⁻¹ * u j := by grind
      have h4 : (w k * (u k)⁻¹) * (w k * (u k)⁻¹)⁻¹ = 1 := Rat.mul_inv_cancel _ (by grind)
      rw [h3]
      generalize w k * (u k)⁻¹ = x at h4 ⊢
      grind
  by_cases hp : ∃ i, i < n ∧ 0 < v i
  · exact key v hv hs hp
  · by_cases hp2 : ∃ i, i < n ∧ 0 < -v i
    · obtain ⟨a, ha⟩ := key (fun k => -v k) (fun j hj => by
        rw [show sm n (fun k => -v k * A k j) = sm n (fun k => (-1) * (v k * A k j)) from sm_congr (fun k _ => by grind), sm_mul, hv j hj]; grind) (fun k hk q => by rw [hs k hk q]; grind) hp2
      exact ⟨-a, fun k hk => by have := ha k hk; grind⟩
    · exact ⟨0, fun k hk => by
        have h1 : ¬ 0 < v k := fun q => hp ⟨k, hk, q⟩
        have h2 : ¬ 0 < -v k := fun q => hp2 ⟨k, hk, q⟩
        grind⟩
/-- places outside the support of w that tell the space's vectors apart, but for multiples of w; each may be moved alone -/
def Cob (n : Nat) (A : Nat → Nat → Rat) (t : Nat) (w : Nat → Rat) (N : Nat → Bool) (dl : Nat → Nat → Rat) : Prop :=
  (∀ k, N k = true → k < n ∧ w k = 0) ∧ (∀ k, N k = true → Ks n A t (dl k) ∧ ∀ k', N k' = true → dl k k' = if k' = k then 1 else 0) ∧
  ∀ v, Ks n A t v → (∀ k, N k = true → v k = 0) → ∃ a : Rat, ∀ k, k < n → v k = a * w k
theorem ct_le (P : Nat → Bool) : ∀ n, ct P n ≤ n
  | 0 => Nat.le_refl _
  | n + 1 => by have := ct_le P n; simp only [ct]; split <;> omega
theorem Mn.cob {n : Nat} {A : Nat → Nat → Rat} {t : Nat} {w : Nat → Rat} (h : Mn n A t w) : ∃ (N : Nat → Bool) (dl : Nat → Nat → Rat), Cob n A t w N dl := by
  have go : ∀ d (N : Nat → Bool) (dl : Nat → Nat → Rat), n ≤ ct N n + d → (∀ k, N k = true → k < n ∧ w k = 0) → (∀ k, N k = true → Ks n A t (dl k) ∧ ∀ k', N k' = true → dl k k' = if k' = k then 1 else 0) → ∃ (N : Nat → Bool) (dl : Nat → Nat → Rat), Cob n A t w N dl := by
    intro d
    induction d with
    | zero =>
      intro N dl hd h1 h2
      -- every place is one: but w has one above 0
      exfalso
      obtain ⟨k, hk, hp⟩ := h.2.1
      have hN : N k = false := by
        apply Classical.byContradiction
        intro q
        have := (h1 k (by simpa using q)).2
        grind
      have := ct_without (P := fun j => N j || j == k) hk (by simp)
      have h3 : ct (fun j => (N j || j == k) && !(j == k)) n = ct N n := ct_congr (fun j _ => by
        by_cases e : j = k
        · subst e; simp [hN]
        · have e9 : (j == k) = false := beq_false_of_ne e
          show ((N j || j == k) && !(j == k)) = N j
          rw [e9]; simp)
      have := ct_le (fun j => N j || j == k) n
      omega
    | succ d ih =>
      intro N dl hd h1 h2
      by_cases hx : ∀ v, Ks n A t v → (∀ k, N k = true → v k = 0) → ∃ a : Rat, ∀ k, k < n → v k = a * w k
      · exact ⟨N, dl, h1, h2, hx⟩
      · obtain ⟨v, q⟩ := Classical.not_forall.mp hx
        have v1 : Ks n A t v := Classical.byContradiction fun q9 => q fun a => absurd a q9
        have v2 : ∀ k, N k = true → v k = 0 := Classical.byContradiction fun q9 => q fun _ a => absurd a q9
        have v3 : ¬ ∃ a : Rat, ∀ k, k < n → v k = a * w k := fun q9 => q fun _ _ => q9
        obtain ⟨k0, hk0, hw0, hv0⟩ : ∃ k, k < n ∧ ¬ 0 < w k ∧ v k ≠ 0 := by
          apply Classical.byContradiction
          intro q9
          exact v3 (h.propK v1 fun k hk hq => Classical.byContradiction fun q8 => q9 ⟨k, hk, hq, q8⟩)
        have hw00 : w k0 = 0 := by have := h.1.1 k0 hk0; grind
        have hN0 : N k0 = false := by
          apply Classical.byContradiction
          intro q9
          exact hv0 (v2 k0 (by simpa using q9))
        have hii : v k0 * (v k0)⁻¹ = 1 := Rat.mul_inv_cancel _ hv0
        refine ih (fun k => N k || k == k0) (fun k j => if k = k0 then (v k0)⁻¹ * v j else dl k j - dl k k0 * ((v k0)⁻¹ * v j)) ?_ ?_ ?_
        · have h3 := ct_without (P := fun j => N j || j == k0) hk0 (by simp)
          have h4 : ct (fun j => (N j || j == k0) && !(j == k0)) n = ct N n := ct_congr (fun j _ => by
            by_cases e : j = k0
            · subst e; simp [hN0]
            · have e9 : (j == k0) = false := beq_false_of_ne e
              show ((N j || j == k0) && !(j == k0)) = N j
              rw [e9]; simp)
          omega
        · intro k hk
          by_cases e : k = k0
          · subst e; exact ⟨hk0, hw00⟩
          · exact h1 k (by simpa [e] using hk)
        · intro k hk
          by_cases e : k = k0
          · subst e
            simp only [if_true]
            refine ⟨?_, fun k' hk' => ?_⟩
            · have := Ks.lin v1 v1 (v k)⁻¹ 0
              rw [show (fun j => (v k)⁻¹ * v j) = (fun j => (v k)⁻¹ * v j + 0 * v j) from funext fun j => by grind]
              exact this
            · by_cases e' : k' = k
              · subst e'; simp; grind
              · rw [v2 k' (by simpa [e'] using hk'), if_neg e']; grind
          · have hNk : N k = true := by simpa [e] using hk
            simp only [if_neg e]
            obtain ⟨d1, d2⟩ := h2 k hNk
            refine ⟨?_, fun k' hk' => ?_⟩
            · have := Ks.lin d1 v1 1 (-(dl k k0 * (v k0)⁻¹))
              rw [show (fun j => dl k j - dl k k0 * ((v k0)⁻¹ * v j)) = (fun j => 1 * dl k j + (-(dl k k0 * (v k0)⁻¹)) * v j) from funext fun j => by grind]
              exact this
            · by_cases e' : k' = k0
              · subst e'
                rw [if_neg (fun q : k' = k => e q.symm)]
                grind
              · have hNk' : N k' = true := by simpa [e'] using hk'
                rw [v2 k' hNk', d2 k' hNk']
                grind
  refine go n (fun _ => false) (fun _ _ => 0) (by omega) (fun k hk => by simp at hk) (fun k hk => by simp at hk)
/-- the members of a set, counted through -/
theorem enum (P : Nat → Bool) : ∀ n, ∃ en : Nat → Nat, (∀ j, j < ct P n → en j < n ∧ P (en j) = true) ∧ ∀ k, k < n → P k = true → ∃ j, j < ct P n ∧ en j = k
  | 0 => ⟨fun _ => 0, fun j hj => by simp [ct] at hj, fun k hk => by omega⟩
  | n + 1 => by
    obtain ⟨en, h1, h2⟩ := enum P n
    by_cases q : P n = true
    · refine ⟨fun j => if j = ct P n then n else en j, fun j hj => ?_, fun k hk hp => ?_⟩
      · simp only [ct, q, if_true] at hj
        by_cases e : j = ct P n
        · subst e; simp; exact q
        · have := h1 j (by omega)
          simp only [if_neg e]
          exact ⟨by omega, this.2⟩
      · simp only [ct, q, if_true]
        by_cases e : k = n
        · exact ⟨ct P n, by omega, by simp [e]⟩
        · obtain ⟨j, hj, e2⟩ := h2 k (by omega) hp
          exact ⟨j, by omega, by rw [if_neg (by omega)]; exact e2⟩
    · refine ⟨en, fun j hj => ?_, fun k hk hp => ?_⟩
      · simp [ct, q] at hj
        have := h1 j hj
        exact ⟨by omega, this.2⟩
      · have e : k ≠ n := fun e => by subst e; exact q hp
        obtain ⟨j, hj, e2⟩ := h2 k (by omega) hp
        exact ⟨j, by simp [ct, q]; exact hj, e2⟩
/-- they are of one number, whichever least support they belong to -/
theorem Cob.le {n : Nat} {A : Nat → Nat → Rat} {t : Nat} {w w' : Nat → Rat} {N N' : Nat → Bool} {dl dl' : Nat → Nat → Rat} (hw : Cn n A t w) (hw' : Cn n A t w') (hz : Nz n w) (hz' : Nz n w') (h : Cob n A t w N dl) (h' : Cob n A t w' N' dl') : ct N' n ≤ ct N n := by
  apply Classical.byContradiction
  intro q
  obtain ⟨en, e1, e2⟩ := enum N n
  obtain ⟨k0, hk0, hp0⟩ := hz
  -- the vectors: those of N', and at n the vector w'; their places: those of N, and what is left at k0
  let V : Nat → Nat → Rat := fun i => if i = n then w' else dl' i
  let P : Nat → Bool := fun i => N' i || i == n
  have hNn : N' n = false := by
    apply Classical.byContradiction
    intro q9
    have := (h'.1 n (by simpa using q9)).1
    omega
  have hct : ct P (n + 1) = ct N' n + 1 := by
    simp only [ct, P]
    rw [ct_congr (P := fun i => N' i || i == n) (Q := N') (fun k hk => by simp [show k ≠ n by omega])]
    simp
  have hVK : ∀ i, P i = true → Ks n A t (V i) := fun i hi => by
    by_cases e : i = n
    · subst e; simp only [V, if_true]; exact hw'.2
    · simp only [V, if_neg e]
      exact (h'.2.1 i (by simpa [P, e] using hi)).1
  -- what is left of v when its places of N are taken away, at k0
  have hrest : ∀ v, Ks n A t v → Ks n A t (fun k => v k - sm n (fun i => (if N i then v i else 0) * dl i k)) := fun v hv => by
    have h1 := Ks.sum (n := n) (A := A) (t := t) (x := fun i => if N i then v i else 0) (w := dl) (c := n) (fun r _ hr => by
      by_cases q9 : N r = true
      · exact (h.2.1 r q9).1
      · simp [q9] at hr)
    have h2 := Ks.lin hv h1 1 (-1)
    rw [show (fun k => v k - sm n (fun i => (if N i then v i else 0) * dl i k)) = (fun k => 1 * v k + (-1) * sm n (fun i => (if N i then v i else 0) * dl i k)) from funext fun k => by grind]
    exact h2
  obtain ⟨c, ⟨i0, hi0, hci0⟩, hcP, hs⟩ := dependP (ct N n + 1) (n + 1) P (by omega) (fun i j => if j < ct N n then V i (en j) else V i k0)
  let u : Nat → Rat := fun k => sm (n + 1) (fun i => c i * V i k)
  have huK : Ks n A t u := Ks.sum (fun r hr hcr => hVK r (by
    apply Classical.byContradiction
    intro q9
    exact hcr (hcP r (by simpa using q9))))
  have huN : ∀ k, N k = true → u k = 0 := fun k hk => by
    obtain ⟨j, hj, ej⟩ := e2 k (h.1 k hk).1 hk
    have := hs j (by omega)
    rw [show sm (n + 1) (fun i => c i * (if j < ct N n then V i (en j) else V i k0)) = u k from sm_congr (fun i _ => by rw [if_pos hj, ej])] at this
    exact this
  have hu0 : u k0 = 0 := by
    have := hs (ct N n) (by omega)
    rw [show sm (n + 1) (fun i => c i * (if ct N n < ct N n then V i (en (ct N n)) else V i k0)) = u k0 from sm_congr (fun i _ => by rw [if_neg (by omega)])] at this
    exact this
  obtain ⟨a, ha⟩ := h.2.2 u huK huN
  have ha0 : a = 0 := by
    have h1 := ha k0 hk0
    rw [hu0] at h1
    rcases Rat.mul_eq_zero.mp h1.symm with q9 | q9
    · exact q9
    · grind
  have hu : ∀ k, k < n → u k = 0 := fun k hk => by rw [ha k hk, ha0]; grind
  -- so each share is 0
  have hc1 : ∀ i, i < n → c i = 0 := fun i hi => by
    by_cases hNi : N' i = true
    · have h1 := hu i hi
      have h2 : u i = c i := by
        show sm (n + 1) (fun r => c r * V r i) = c i
        rw [sm_one (i := i) (by omega) (fun r hr hri => by
          by_cases e : r = n
          · subst e
            simp only [V, if_true]
            rw [(h'.1 i hNi).2]; grind
          · by_cases hNr : N' r = true
            · simp only [V, if_neg e]
              rw [(h'.2.1 r hNr).2 i hNi, if_neg (fun q9 : i = r => hri q9.symm)]; grind
            · rw [hcP r (by simp [P, hNr, e])]; grind)]
        simp only [V, if_neg (show i ≠ n by omega)]
        rw [(h'.2.1 i hNi).2 i hNi, if_pos rfl]; grind
      rw [← h2, h1]
    · exact hcP i (by simp [P, hNi]; omega)
  have hc2 : c n = 0 := by
    obtain ⟨k, hk, hp⟩ := hz'
    have h1 := hu k hk
    have h2 : u k = c n * w' k := by
      show sm n (fun r => c r * V r k) + c n * V n k = _
      rw [sm_zero (fun r hr => by rw [hc1 r hr]; grind)]
      simp only [V, if_true]; grind
    rw [h1] at h2
    rcases Rat.mul_eq_zero.mp h2.symm with q9 | q9
    · exact q9
    · grind
  by_cases e : i0 = n
  · subst e; exact hci0 hc2
  · exact hci0 (hc1 i0 (by omega))
end
section
/-! ===== PURE: the order of the least supports, and the bound on their number ===== -/
/-- first a place above 0, nothing before it -/
def lx (n : Nat) (v : Nat → Rat) : Prop := ∃ i, i < n ∧ 0 < v i ∧ ∀ j, j < i → v j = 0
theorem lx_tri (v : Nat → Rat) : ∀ n : Nat, (∀ k, k < n → v k = 0) ∨ lx n v ∨ lx n (fun k => -v k)
  | 0 => Or.inl fun k hk => by omega
  | n + 1 => by
    rcases lx_tri v n with h | ⟨i, hi, hp, hz⟩ | ⟨i, hi, hp, hz⟩
    · by_cases q : v n = 0
      · exact Or.inl fun k hk => by
          by_cases e : k = n
          · subst e; exact q
          · exact h k (by omega)
      · by_cases q2 : 0 < v n
        · exact Or.inr (Or.inl ⟨n, by omega, q2, h⟩)
        · exact Or.inr (Or.inr ⟨n, by omega, by grind, fun j hj => by show -v j = 0; rw [h j hj]; grind⟩)
    · exact Or.inr (Or.inl ⟨i, by omega, hp, hz⟩)
    · exact Or.inr (Or.inr ⟨i, by omega, hp, hz⟩)
theorem lx_add {n : Nat} {v w : Nat → Rat} (h : lx n v) (h2 : lx n w) : lx n (fun k => v k + w k) := by
  obtain ⟨i, hi, hp, hz⟩ := h
  obtain ⟨j, hj, hp2, hz2⟩ := h2
  rcases Nat.lt_trichotomy i j with q | q | q
  · exact ⟨i, hi, by show 0 < v i + w i; rw [hz2 i q]; grind, fun k hk => by show v k + w k = 0; rw [hz k hk, hz2 k (by omega)]; grind⟩
  · subst q
    exact ⟨i, hi, by show 0 < v i + w i; grind, fun k hk => by show v k + w k = 0; rw [hz k hk, hz2 k hk]; grind⟩
  · exact ⟨j, hj, by show 0 < v j + w j; rw [hz j q]; grind, fun k hk => by show v k + w k = 0; rw [hz k (by omega), hz2 k hk]; grind⟩
theorem lx_mul {n : Nat} {v : Nat → Rat} (h : lx n v) {a : Rat} (ha : 0 < a) : lx n (fun k => a * v k) := by
  obtain ⟨i, hi, hp, hz⟩ := h
  exact ⟨i, hi, Rat.mul_pos ha hp, fun k hk => by show a * v k = 0; rw [hz k hk]; grind⟩
theorem lx_no {n : Nat} {v : Nat → Rat} (h : lx n v) (h2 : lx n (fun k => -v k)) : False := by
  obtain ⟨i, hi, hp, hz⟩ := lx_add h h2
  have : 0 < v i + -v i := hp
  grind
/-- a sum of those that come first a place above 0, with shares of 0 or more: nothing, or such a one -/
theorem lx_sum {n : Nat} {x : Nat → Rat} {w : Nat → Nat → Rat} : ∀ {c : Nat}, (∀ r, r < c → 0 ≤ x r ∧ (0 < x r → lx n (w r))) → (∀ r, r < c → x r = 0) ∨ lx n (fun k => sm c (fun r => x r * w r k))
  | 0, _ => Or.inl fun r hr => by omega
  | c + 1, h => by
    obtain ⟨h1, h2⟩ := h c (by omega)
    rcases lx_sum (fun r hr => h r (by omega) : ∀ r, r < c → 0 ≤ x r ∧ (0 < x r → lx n (w r))) with q | q
    · by_cases q2 : x c = 0
      · exact Or.inl fun r hr => by
          by_cases e : r = c
          · subst e; exact q2
          · exact q r (by omega)
      · have h3 := lx_mul (h2 (by grind)) (show 0 < x c by grind)
        refine Or.inr ?_
        rw [show (fun k => sm (c + 1) (fun r => x r * w r k)) = (fun k => x c * w c k) from funext fun k => by
          show sm c _ + x c * w c k = _
          rw [sm_zero (fun r hr => by rw [q r hr]; grind)]; grind]
        exact h3
    · refine Or.inr ?_
      by_cases q2 : x c = 0
      · rw [show (fun k => sm (c + 1) (fun r => x r * w r k)) = (fun k => sm c (fun r => x r * w r k)) from funext fun k => by
          show sm c _ + x c * w c k = _
          rw [q2]; grind]
        exact q
      · exact lx_add q (lx_mul (h2 (by grind)) (show 0 < x c by grind))
/-- the bound: least supports of n weights whose cobases have d places -/
def UB (n d : Nat) : Nat → Nat
  | 0 => 0
  | a + 1 => UB n d a + ((if 2 * a ≤ d then DN (n - d) a else 0) + (if 2 * a < d then DN (n - d) a else 0))
theorem UB_le : ∀ n, n < 17 → ∀ d, d < n → UB n d 16 ≤ 1200 := by decide +kernel
theorem ct_or {P Q1 Q2 : Nat → Bool} : ∀ {n : Nat}, (∀ k, k < n → P k = true → Q1 k = true ∨ Q2 k = true) → ct P n ≤ ct Q1 n + ct Q2 n
  | 0, _ => by simp [ct]
  | n + 1, h => by
    have h1 := ct_or (fun k hk => h k (by omega) : ∀ k, k < n → P k = true → Q1 k = true ∨ Q2 k = true)
    have h2 := h n (by omega)
    simp only [ct]
    split
    · rename_i q
      rcases h2 q with q2 | q2
      · rw [q2]; simp; omega
      · rw [q2]; simp; omega
    · omega
theorem ct_compl {P : Nat → Bool} : ∀ n, ct P n + ct (fun k => !P k) n = n
  | 0 => rfl
  | n + 1 => by
    have := ct_compl (P := P) n
    simp only [ct]
    by_cases q : P n = true
    · simp [q]; omega
    · simp [q]; omega
theorem ct_two {P Q1 Q2 : Nat → Bool} : ∀ {n : Nat}, (∀ k, k < n → P k = (Q1 k || Q2 k)) → (∀ k, k < n → Q1 k = true → Q2 k = false) → ct P n = ct Q1 n + ct Q2 n
  | 0, _, _ => rfl
  | n + 1, h, h' => by
    have h1 := ct_two (fun k hk => h k (by omega)) (fun k hk => h' k (by omega)) (n := n)
    have h2 := h n (by omega)
    have h3 := h' n (by omega)
    simp only [ct]
    rw [h1, h2]
    cases q1 : Q1 n <;> cases q2 : Q2 n <;> simp [q1, q2] at h3 ⊢ <;> omega
theorem ct_true : ∀ c, ct (fun _ => true) c = c
  | 0 => rfl
  | c + 1 => by simp only [ct]; rw [ct_true c]; rfl
theorem DD.count {n : Nat} {A : Nat → Nat → Rat} {t c : Nat} {W : Nat → Nat → Rat} (h : DD n A t c W) (hn : n < 17) : c ≤ 1200 := by
  by_cases hc : c = 0
  · omega
  -- one sum for all
  have hsp : ∀ r, r < c → 0 < sm n (W r) := fun r hr => by
    obtain ⟨k, hk, hp⟩ := (h.1 r hr).2.1
    have h1 : ∀ i, i < n → 0 ≤ W r i := (h.1 r hr).1.1
    apply Classical.byContradiction
    intro q
    have := sm_nil h1 (by grind) k hk
    grind
  have hch : ∀ r, ∃ z : (Nat → Bool) × (Nat → Nat → Rat), r < c → Cob n A t (W r) z.1 z.2 := fun r => by
    by_cases hr : r < c
    · obtain ⟨N, dl, q⟩ := (h.1 r hr).cob
      exact ⟨(N, dl), fun _ => q⟩
    · exact ⟨(fun _ => false, fun _ _ => 0), fun q => absurd q hr⟩
  obtain ⟨z, hz⟩ := Classical.axiomOfChoice hch
  -- the number of places is one number d
  obtain ⟨d, hd⟩ : ∃ d, ∀ r, r < c → ct (z r).1 n = d := ⟨ct (z 0).1 n, fun r hr => Nat.le_antisymm (Cob.le (h.1 0 (by omega)).1 (h.1 r hr).1 (h.1 0 (by omega)).2.1 (h.1 r hr).2.1 (hz 0 (by omega)) (hz r hr)) (Cob.le (h.1 r hr).1 (h.1 0 (by omega)).1 (h.1 r hr).2.1 (h.1 0 (by omega)).2.1 (hz r hr) (hz 0 (by omega)))⟩
  have hdn : d < n := by
    obtain ⟨k, hk, hp⟩ := (h.1 0 (by omega)).2.1
    have hNk : (z 0).1 k = false := by
      apply Classical.byContradiction
      intro q
      have := ((hz 0 (by omega)).1 k (by simpa using q)).2
      grind
    have h1 := ct_without (P := fun j => (z 0).1 j || j == k) hk (by simp)
    have h3 : ct (fun j => ((z 0).1 j || j == k) && !(j == k)) n = ct (z 0).1 n := ct_congr (fun j _ => by
      by_cases e : j = k
      · subst e; simp [hNk]
      · have e9 : (j == k) = false := beq_false_of_ne e
        show (((z 0).1 j || j == k) && !(j == k)) = (z 0).1 j
        rw [e9]; simp)
    have h4 := ct_le (fun j => (z 0).1 j || j == k) n
    have h5 := hd 0 (by omega)
    omega
  -- of sum 1
  let U : Nat → Nat → Rat := fun r k => W r k * (sm n (W r))⁻¹
  have hU0 : ∀ r, r < c → ∀ k, k < n → 0 ≤ U r k := fun r hr k hk => Rat.mul_nonneg ((h.1 r hr).1.1 k hk) (Rat.le_of_lt (Rat.inv_pos.mpr (hsp r hr)))
  have hU1 : ∀ r, r < c → sm n (U r) = 1 := fun r hr => by
    show sm n (fun k => W r k * (sm n (W r))⁻¹) = 1
    rw [sm_mulr]
    exact Rat.mul_inv_cancel _ (by have := hsp r hr; grind)
  have hUp : ∀ r, r < c → ∀ k, 0 < U r k → 0 < W r k := fun r hr k q => by
    have h1 := Rat.inv_pos.mpr (hsp r hr)
    exact (Rat.mul_pos_iff_of_pos_right h1).mp q
  have hUK : ∀ r, r < c → Ks n A t (U r) := fun r hr j hj => by
    show sm n (fun k => W r k * (sm n (W r))⁻¹ * A k j) = 0
    rw [show sm n (fun k => W r k * (sm n (W r))⁻¹ * A k j) = sm n (fun k => (sm n (W r))⁻¹ * (W r k * A k j)) from sm_congr (fun k _ => by grind), sm_mul, (h.1 r hr).1.2 j hj]
    grind
  -- how a place of the cobasis moves, the sum kept
  let ep : Nat → Nat → Nat → Rat := fun r k j => (z r).2 k j - sm n ((z r).2 k) * U r j
  have hUN : ∀ r, r < c → ∀ k, (z r).1 k = true → U r k = 0 := fun r hr k hk => by
    show W r k * _ = 0
    rw [((hz r hr).1 k hk).2]; grind
  -- another one is the first, moved
  have hmove : ∀ r r', r < c → r' < c → ∀ j, j < n → U r' j - U r j = sm n (fun k => (if (z r).1 k then U r' k else 0) * ep r k j) := by
    intro r r' hr hr'
    obtain ⟨c1, c2, c3⟩ := hz r hr
    have g1 : Ks n A t (fun j => sm n (fun k => (if (z r).1 k then U r' k else 0) * (z r).2 k j)) := Ks.sum (fun k _ hk => by
      by_cases q : (z r).1 k = true
      · exact (c2 k q).1
      · simp [q] at hk)
    have g2 := Ks.lin (hUK r' hr') g1 1 (-1)
    obtain ⟨a, ha⟩ := c3 _ g2 (fun k hk => by
      show 1 * U r' k + (-1) * sm n (fun i => (if (z r).1 i then U r' i else 0) * (z r).2 i k) = 0
      rw [sm_one (c1 k hk).1 (fun i hi hik => by
        by_cases q : (z r).1 i = true
        · rw [(c2 i q).2 k hk, if_neg (fun q9 : k = i => hik q9.symm)]; grind
        · rw [if_neg q]; grind)]
      rw [if_pos hk, (c2 k hk).2 k hk, if_pos rfl]; grind)
    have ha' : ∀ j, j < n → U r' j = sm n (fun k => (if (z r).1 k then U r' k else 0) * (z r).2 k j) + a * sm n (W r) * U r j := fun j hj => by
      have h1 := ha j hj
      have h2 : sm n (W r) * U r j = W r j := by
        show sm n (W r) * (W r j * (sm n (W r))⁻¹) = W r j
        have := Rat.mul_inv_cancel (sm n (W r)) (by have := hsp r hr; grind)
        generalize (sm n (W r))⁻¹ = y at this ⊢
        grind
      rw [Rat.mul_assoc, h2]
      grind
    have hs : a * sm n (W r) = 1 - sm n (fun k => (if (z r).1 k then U r' k else 0) * sm n ((z r).2 k)) := by
      have h1 := hU1 r' hr'
      rw [show sm n (U r') = sm n (fun j => sm n (fun k => (if (z r).1 k then U r' k else 0) * (z r).2 k j) + a * sm n (W r) * U r j) from sm_congr (fun j hj => ha' j hj), sm_add, sm_mul, hU1 r hr, sm_swap] at h1
      rw [show sm n (fun k => sm n (fun j => (if (z r).1 k then U r' k else 0) * (z r).2 k j)) = sm n (fun k => (if (z r).1 k then U r' k else 0) * sm n ((z r).2 k)) from sm_congr (fun k _ => by rw [sm_mul])] at h1
      grind
    intro j hj
    have h1 := ha' j hj
    rw [hs] at h1
    rw [show sm n (fun k => (if (z r).1 k then U r' k else 0) * ep r k j) = sm n (fun k => (if (z r).1 k then U r' k else 0) * (z r).2 k j + (-U r j) * ((if (z r).1 k then U r' k else 0) * sm n ((z r).2 k))) from sm_congr (fun k _ => by simp only [ep]; grind), sm_add, sm_mul]
    grind
  have hep : ∀ r, r < c → ∀ k, (z r).1 k = true → ep r k k = 1 := fun r hr k hk => by
    show (z r).2 k k - _ * U r k = 1
    rw [((hz r hr).2.1 k hk).2 k hk, if_pos rfl, hUN r hr k hk]; grind
  -- different ones differ
  have hdiff : ∀ r r', r < c → r' < c → (∀ j, j < n → U r' j = U r j) → r' = r := fun r r' hr hr' e => by
    refine h.2.1 r' r hr' hr fun k hk q => ?_
    have h1 : 0 < U r' k := Rat.mul_pos q (Rat.inv_pos.mpr (hsp r' hr'))
    rw [e k hk] at h1
    exact hUp r hr k h1
  -- the order
  let lt : Nat → Nat → Prop := fun r r' => lx n (fun j => U r' j - U r j)
  have htr : ∀ x y z, lt x y → lt y z → lt x z := fun x y z h1 h2 => by
    have := lx_add h1 h2
    show lx n (fun j => U z j - U x j)
    rw [show (fun j => U z j - U x j) = (fun j => U y j - U x j + (U z j - U y j)) from funext fun j => by grind]
    exact this
  have htot : ∀ x y, x < c → y < c → x ≠ y → lt x y ∨ lt y x := fun x y hx hy hxy => by
    rcases lx_tri (fun j => U y j - U x j) n with q | q | q
    · exact absurd (hdiff x y hx hy (fun j hj => by have := q j hj; grind)).symm hxy
    · exact Or.inl q
    · refine Or.inr ?_
      show lx n (fun j => U x j - U y j)
      rw [show (fun j => U x j - U y j) = (fun k => -(U y k - U x k)) from funext fun j => by grind]
      exact q
  have hirr : ∀ x y, lt x y → lt y x → False := fun x y h1 h2 => lx_no h1 (by
    show lx n (fun k => -(U y k - U x k))
    rw [show (fun k => -(U y k - U x k)) = (fun j => U x j - U y j) from funext fun j => by grind]
    exact h2)
  -- the two kinds of places
  let dec : ∀ r k, Decidable (lx n (fun j => -ep r k j)) := fun r k => Classical.propDecidable _
  let R1 : Nat → Nat → Bool := fun r k => (z r).1 k && @decide _ (dec r k)
  let R2 : Nat → Nat → Bool := fun r k => (z r).1 k && !@decide _ (dec r k)
  have hR1 : ∀ r k, R1 r k = true → (z r).1 k = true ∧ lx n (fun j => -ep r k j) := fun r k q => by
    simp only [R1, Bool.and_eq_true] at q
    exact ⟨q.1, @of_decide_eq_true _ (dec r k) q.2⟩
  have hR2 : ∀ r k, r < c → R2 r k = true → (z r).1 k = true ∧ lx n (ep r k) := fun r k hr q => by
    simp only [R2, Bool.and_eq_true, Bool.not_eq_true'] at q
    have q2 : ¬ lx n (fun j => -ep r k j) := @of_decide_eq_false _ (dec r k) q.2
    refine ⟨q.1, ?_⟩
    rcases lx_tri (ep r k) n with q3 | q3 | q3
    · have := q3 k ((hz r hr).1 k q.1).1
      rw [hep r hr k q.1] at this
      grind
    · exact q3
    · exact absurd q3 q2
  have hN12 : ∀ r k, (z r).1 k = (R1 r k || R2 r k) := fun r k => by
    simp only [R1, R2]
    cases (z r).1 k <;> cases @decide _ (dec r k) <;> rfl
  have hNd : ∀ r k, R1 r k = true → R2 r k = false := fun r k q => by
    simp only [R1, R2, Bool.and_eq_true] at q ⊢
    rw [q.2]; simp
  have hsum : ∀ r, r < c → ct (R1 r) n + ct (R2 r) n = d := fun r hr => by
    rw [← hd r hr]
    exact (ct_two (fun k _ => hN12 r k) (fun k _ => hNd r k)).symm
  -- who has nothing at the first kind of r comes behind r
  have hB1 : ∀ r r', r < c → r' < c → lt r r' → ∃ x, x < n ∧ R1 r' x = true ∧ (!(z r).1 x) = true := fun r r' hr hr' hlt => by
    apply Classical.byContradiction
    intro q
    have h0 : ∀ x, x < n → R1 r' x = true → U r x = 0 := fun x hx hq => by
      have h1 : (z r).1 x = true := by
        apply Classical.byContradiction
        intro q2
        exact q ⟨x, hx, hq, by simpa using q2⟩
      exact hUN r hr x h1
    have hne : r ≠ r' := fun e => by subst e; exact hirr _ _ hlt hlt
    rcases lx_sum (n := n) (x := fun k => if (z r').1 k then U r k else 0) (w := ep r') (c := n) (fun k hk => by
      refine ⟨?_, fun q3 => ?_⟩
      · show (0 : Rat) ≤ if _ then _ else _
        split
        · exact hU0 r hr k hk
        · grind
      · by_cases q4 : (z r').1 k = true
        · simp only [q4, if_true] at q3
          have q5 : R2 r' k = true := by
            have := hN12 r' k
            rw [q4] at this
            cases q6 : R1 r' k
            · rw [q6] at this; simpa using this.symm
            · rw [h0 k hk q6] at q3; grind
          exact (hR2 r' k hr' q5).2
        · simp [q4] at q3) with q2 | q2
    · refine hne (hdiff r' r hr' hr fun j hj => ?_)
      have := hmove r' r hr' hr j hj
      rw [sm_zero (fun k hk => by rw [q2 k hk]; grind)] at this
      grind
    · refine hirr r r' hlt ?_
      obtain ⟨i, hi, hp, hz9⟩ := q2
      refine ⟨i, hi, ?_, fun j hj => ?_⟩
      · show 0 < U r i - U r' i
        rw [hmove r' r hr' hr i hi]; exact hp
      · show U r j - U r' j = 0
        rw [hmove r' r hr' hr j (by omega)]; exact hz9 j hj
  have hB2 : ∀ r r', r < c → r' < c → lt r' r → ∃ x, x < n ∧ R2 r' x = true ∧ (!(z r).1 x) = true := fun r r' hr hr' hlt => by
    apply Classical.byContradiction
    intro q
    have h0 : ∀ x, x < n → R2 r' x = true → U r x = 0 := fun x hx hq => by
      have h1 : (z r).1 x = true := by
        apply Classical.byContradiction
        intro q2
        exact q ⟨x, hx, hq, by simpa using q2⟩
      exact hUN r hr x h1
    have hne : r ≠ r' := fun e => by subst e; exact hirr _ _ hlt hlt
    rcases lx_sum (n := n) (x := fun k => if (z r').1 k then U r k else 0) (w := fun k j => -ep r' k j) (c := n) (fun k hk => by
      refine ⟨?_, fun q3 => ?_⟩
      · show (0 : Rat) ≤ if _ then _ else _
        split
        · exact hU0 r hr k hk
        · grind
      · by_cases q4 : (z r').1 k = true
        · simp only [q4, if_true] at q3
          have q5 : R1 r' k = true := by
            have := hN12 r' k
            rw [q4] at this
            cases q6 : R1 r' k
            · rw [q6] at this
              have q7 : R2 r' k = true := by simpa using this.symm
              rw [h0 k hk q7] at q3; grind
            · rfl
          exact (hR1 r' k q5).2
        · simp [q4] at q3) with q2 | q2
    · refine hne (hdiff r' r hr' hr fun j hj => ?_)
      have := hmove r' r hr' hr j hj
      rw [sm_zero (fun k hk => by rw [q2 k hk]; grind)] at this
      grind
    · refine hirr r r' ?_ hlt
      obtain ⟨i, hi, hp, hz9⟩ := q2
      have e : ∀ j, j < n → U r' j - U r j = sm n (fun k => (if (z r').1 k then U r k else 0) * -ep r' k j) := fun j hj => by
        have := hmove r' r hr' hr j hj
        rw [show sm n (fun k => (if (z r').1 k then U r k else 0) * -ep r' k j) = sm n (fun k => (-1) * ((if (z r').1 k then U r k else 0) * ep r' k j)) from sm_congr (fun k _ => by grind), sm_mul, ← this]
        grind
      refine ⟨i, hi, ?_, fun j hj => ?_⟩
      · show 0 < U r' i - U r i
        rw [e i hi]; exact hp
      · show U r' j - U r j = 0
        rw [e j (by omega)]; exact hz9 j hj
  have hBc : ∀ r, r < c → ct (fun x => !(z r).1 x) n = n - d := fun r hr => by
    have := ct_compl (P := (z r).1) n
    have := hd r hr
    omega
  -- the classes
  have cl1 : ∀ a, ct (fun r => ct (R1 r) n == a) c ≤ DN (n - d) a := fun a => boll n a (n - d) c R1 (fun r x => !(z r).1 x) _ lt htr htot (fun r _ q => by simpa using q) (fun r hr _ => hBc r hr) (fun r _ _ x _ q => by simp [(hR1 r x q).1]) (fun r r' hr hr' _ _ hlt => hB1 r r' hr hr' hlt)
  have cl2 : ∀ a, ct (fun r => ct (R2 r) n == a) c ≤ DN (n - d) a := fun a => boll n a (n - d) c R2 (fun r x => !(z r).1 x) _ (fun x y => lt y x) (fun x y z h1 h2 => htr z y x h2 h1) (fun x y hx hy hxy => (htot x y hx hy hxy).symm) (fun r _ q => by simpa using q) (fun r hr _ => hBc r hr) (fun r hr _ x _ q => by simp [(hR2 r x hr q).1]) (fun r r' hr hr' _ _ hlt => hB2 r r' hr hr' hlt)
  have hall : ∀ m, ct (fun r => (decide (ct (R1 r) n < m) && decide (2 * ct (R1 r) n ≤ d)) || (decide (ct (R2 r) n < m) && decide (2 * ct (R2 r) n < d))) c ≤ UB n d m := by
    intro m
    induction m with
    | zero =>
      have : ct (fun r => (decide (ct (R1 r) n < 0) && decide (2 * ct (R1 r) n ≤ d)) || (decide (ct (R2 r) n < 0) && decide (2 * ct (R2 r) n < d))) c = ct (fun _ => false) c := ct_congr (fun r _ => by simp)
      rw [this]
      have h0 : ∀ c, ct (fun _ => false) c = 0 := fun c => by
        induction c with
        | zero => rfl
        | succ c ih => simp only [ct]; rw [ih]; rfl
      rw [h0]; exact Nat.zero_le _
    | succ m ih =>
      have g1 := ct_or (P := fun r => (decide (ct (R1 r) n < m + 1) && decide (2 * ct (R1 r) n ≤ d)) || (decide (ct (R2 r) n < m + 1) && decide (2 * ct (R2 r) n < d))) (Q1 := fun r => (decide (ct (R1 r) n < m) && decide (2 * ct (R1 r) n ≤ d)) || (decide (ct (R2 r) n < m) && decide (2 * ct (R2 r) n < d))) (Q2 := fun r => (decide (2 * m ≤ d) && (ct (R1 r) n == m)) || (decide (2 * m < d) && (ct (R2 r) n == m))) (n := c) (fun r _ q => by
        simp only [Bool.or_eq_true, Bool.and_eq_true, decide_eq_true_eq, beq_iff_eq] at q ⊢
        omega)
      have g2 := ct_or (P := fun r => (decide (2 * m ≤ d) && (ct (R1 r) n == m)) || (decide (2 * m < d) && (ct (R2 r) n == m))) (Q1 := fun r => decide (2 * m ≤ d) && (ct (R1 r) n == m)) (Q2 := fun r => decide (2 * m < d) && (ct (R2 r) n == m)) (n := c) (fun r _ q => by simpa using q)
      have h0 : ∀ c, ct (fun _ => false) c = 0 := fun c => by
        induction c with
        | zero => rfl
        | succ c ih => simp only [ct]; rw [ih]; rfl
      have g3 : ct (fun r => decide (2 * m ≤ d) && (ct (R1 r) n == m)) c ≤ if 2 * m ≤ d then DN (n - d) m else 0 := by
        by_cases q : 2 * m ≤ d
        · rw [if_pos q, show (fun r => decide (2 * m ≤ d) && (ct (R1 r) n == m)) = (fun r => ct (R1 r) n == m) from funext fun r => by simp [q]]
          exact cl1 m
        · rw [if_neg q, show (fun r => decide (2 * m ≤ d) && (ct (R1 r) n == m)) = (fun _ => false) from funext fun r => by simp [q], h0]
          exact Nat.le_refl _
      have g4 : ct (fun r => decide (2 * m < d) && (ct (R2 r) n == m)) c ≤ if 2 * m < d then DN (n - d) m else 0 := by
        by_cases q : 2 * m < d
        · rw [if_pos q, show (fun r => decide (2 * m < d) && (ct (R2 r) n == m)) = (fun r => ct (R2 r) n == m) from funext fun r => by simp [q]]
          exact cl2 m
        · rw [if_neg q, show (fun r => decide (2 * m < d) && (ct (R2 r) n == m)) = (fun _ => false) from funext fun r => by simp [q], h0]
          exact Nat.le_refl _
      simp only [UB]
      omega
  have hfin := hall 16
  rw [ct_congr (Q := fun _ => true) (fun r hr => by
    have h1 := hsum r hr
    simp only [Bool.or_eq_true, Bool.and_eq_true, decide_eq_true_eq]
    omega), ct_true] at hfin
  have := UB_le n hn d hdn
  omega
end
section
/-! ===== rows of my own: places told by naturals; arrays of arrays; grids; the Weighing's world ===== -/
theorem gG_get {X : va_W} {g : Nat → Nat × va_E} {N i k : Nat} (hi : i < N) (hk : k = X.length + i) : (X ++ (List.range N).map g)[k]? = some (g i) := by
  subst hk
  rw [List.getElem?_append_right (by omega), show X.length + i - X.length = i by omega, List.getElem?_map, List.getElem?_range hi]
  rfl
theorem gG_set {X : va_W} {g : Nat → Nat × va_E} {N i k : Nat} (hi : i < N) (hk : k = X.length + i) (e : Nat × va_E) : (X ++ (List.range N).map g).set k e = X ++ (List.range N).map (fup g i e) := by
  subst hk
  apply List.ext_getElem?
  intro j
  rw [List.getElem?_set]
  by_cases h : X.length + i = j
  · subst h
    rw [if_pos rfl, List.getElem?_append_right (by omega), show X.length + i - X.length = i by omega, List.getElem?_map, List.getElem?_range hi]
    simp [fup, hi]
  · rw [if_neg h]
    by_cases hj : j < X.length
    · rw [List.getElem?_append_left hj, List.getElem?_append_left hj]
    · rw [List.getElem?_append_right (by omega), List.getElem?_append_right (by omega), List.getElem?_map, List.getElem?_map]
      by_cases hj2 : j - X.length < N
      · rw [List.getElem?_range hj2]
        simp [fup, show j - X.length ≠ i by omega]
      · rw [List.getElem?_eq_none (by simp; omega)]
        rfl
section RU
variable {p : Program} {l : Launch} {e : Env} {R : Room} {s : State} {m : MethodId} {args : Array Value} {below : List Frame} {meth : Method} {c : Code} {H : Heap} {locs : List Loc} {cells slots : Nat} {Q : State → Prop}
variable {cc : ByteArray} {pc : Nat} {ls : Array Slot} {rest : List Value} {D : va_G} {cl : List vw_C} {A : Nat → Prop} {a : Nat} {tys : List (ClassId × FieldType)} {ws : va_W} {H0 : Heap}
theorem na_iald (hexec : p.tables.exec = Jvm.exec) (hb : c.code = cc) (hK : va_K D cl tys s) (hP : va_P D cl ws H) (q0 t0 : Nat) {cA : ClassId} {n : Nat} {f : Nat → Int32} (ha : ws[q0]? = some (a, .inl (cA, n, .inl f))) (ht : tys[t0]? = some (cA, .int)) {k : Nat} (hk : k < n) (hn : n < 2 ^ 31) (hdg : decode cc pc = .ok (.iaload, 1))
    (kk : W p l e R s m args below meth c H locs cells slots Q (F0 m (pc + 1) ls (.int (f k) :: rest))) : W p l e R s m args below meth c H locs cells slots Q (F0 m pc ls (.int (nI k) :: .ref a :: rest)) := by
  refine va_iald hexec hb hK hP q0 t0 ha ht (vp_in_nI hk hn) hdg ?_
  rw [nI_clamp (by omega)]
  exact kk
theorem na_lald (hexec : p.tables.exec = Jvm.exec) (hb : c.code = cc) (hK : va_K D cl tys s) (hP : va_P D cl ws H) (q0 t0 : Nat) {cA : ClassId} {n : Nat} {f : Nat → Int64} (ha : ws[q0]? = some (a, .inl (cA, n, .inr (.inl f)))) (ht : tys[t0]? = some (cA, .long)) {k : Nat} (hk : k < n) (hn : n < 2 ^ 31) (hdg : decode cc pc = .ok (.laload, 1))
    (kk : W p l e R s m args below meth c H locs cells slots Q (F0 m (pc + 1) ls (.long (f k) :: rest))) : W p l e R s m args below meth c H locs cells slots Q (F0 m pc ls (.int (nI k) :: .ref a :: rest)) := by
  refine va_lald hexec hb hK hP q0 t0 ha ht (vp_in_nI hk hn) hdg ?_
  rw [nI_clamp (by omega)]
  exact kk
theorem na_iast (hexec : p.tables.exec = Jvm.exec) (hb : c.code = cc) (hK : va_K D cl tys s) (hP : va_P D cl ws H) (hD : va_D A ws) (hS : va_S A H0 H locs) (q0 t0 : Nat) {cA : ClassId} {n : Nat} {f : Nat → Int32} (ha : ws[q0]? = some (a, .inl (cA, n, .inl f))) (ht : tys[t0]? = some (cA, .int)) {k : Nat} {x : Int32} (hk : k < n) (hn : n < 2 ^ 31) (hdg : decode cc pc = .ok (.iastore, 1))
    (kk : ∀ (H1 : Heap) (locs1 : List Loc), va_P D cl (ws.set q0 (a, .inl (cA, n, .inl (upd f k x)))) H1 → va_D A (ws.set q0 (a, .inl (cA, n, .inl (upd f k x)))) → va_S A H0 H1 locs1 → W p l e R s m args below meth c H1 locs1 cells slots Q (F0 m (pc + 1) ls rest)) : W p l e R s m args below meth c H locs cells slots Q (F0 m pc ls (.int x :: .int (nI k) :: .ref a :: rest)) := by
  refine va_iast hexec hb hK hP hD hS q0 t0 ha ht (vp_in_nI hk hn) hdg ?_
  rw [nI_clamp (by omega)]
  exact kk
theorem na_last (hexec : p.tables.exec = Jvm.exec) (hb : c.code = cc) (hK : va_K D cl tys s) (hP : va_P D cl ws H) (hD : va_D A ws) (hS : va_S A H0 H locs) (q0 t0 : Nat) {cA : ClassId} {n : Nat} {f : Nat → Int64} (ha : ws[q0]? = some (a, .inl (cA, n, .inr (.inl f)))) (ht : tys[t0]? = some (cA, .long)) {k : Nat} {x : Int64} (hk : k < n) (hn : n < 2 ^ 31) (hdg : decode cc pc = .ok (.lastore, 1))
    (kk : ∀ (H1 : Heap) (locs1 : List Loc), va_P D cl (ws.set q0 (a, .inl (cA, n, .inr (.inl (vp_updL f k x))))) H1 → va_D A (ws.set q0 (a, .inl (cA, n, .inr (.inl (vp_updL f k x))))) → va_S A H0 H1 locs1 → W p l e R s m args below meth c H1 locs1 cells slots Q (F0 m (pc + 1) ls rest)) : W p l e R s m args below meth c H locs cells slots Q (F0 m pc ls (.long x :: .int (nI k) :: .ref a :: rest)) := by
  refine va_last hexec hb hK hP hD hS q0 t0 ha ht (vp_in_nI hk hn) hdg ?_
  rw [nI_clamp (by omega)]
  exact kk
/-- an array of arrays -/
theorem na_aald (hexec : p.tables.exec = Jvm.exec) (hb : c.code = cc) (hK : va_K D cl tys s) (hP : va_P D cl ws H) (q0 t0 : Nat) {cA : ClassId} {ty : FieldType} {n : Nat} {f : Nat → Option Nat} (ha : ws[q0]? = some (a, .inl (cA, n, .inr (.inr (.inr (.inr f)))))) (ht : tys[t0]? = some (cA, .array ty)) {k y : Nat} (hk : k < n) (hn : n < 2 ^ 31) (hy : f k = some y) (hdg : decode cc pc = .ok (.aaload, 1))
    (kk : W p l e R s m args below meth c H locs cells slots Q (F0 m (pc + 1) ls (.ref y :: rest))) : W p l e R s m args below meth c H locs cells slots Q (F0 m pc ls (.int (nI k) :: .ref a :: rest)) := by
  exact W.aald (v := va_rf (f k)) (ty := .array ty) hexec hb (hP q0 _ ha) ((hK.2 t0 _ ht).1 n (fun j => va_rf (f j))) rfl (fun q => by cases q) (by show ¬ (nI k < 0 ∨ (arrV _ _ _).slots.size ≤ _); rw [arrV_size]; exact vp_in_nI hk hn) (by show (arrV _ _ _).slots[_]? = _; rw [nI_clamp (by omega), arrV_read _ _ hk]) rfl rfl hdg (by rw [hy]; exact kk)
end RU
abbrev vwCl : List vw_C := [(RX0, TX0, 7), (RX1, TX1, 7), (RX2, TX2, 19)]
/-- the Weighing's cells -/
abbrev wgW (h0 qc qh : Nat) (r : Nat → Nat) (cA cI cJ : ClassId) (m n : Nat) (u : Int64) (tw : Int32) (iv : Int64) (hd : Nat → Int32) (M : Nat → Nat → Int64) : va_W :=
  [(h0, .inr (0, [.ref qc, .ref qh, .int (nI m), .int (nI n), .long u, .int tw, .long iv])), (qc, .inl (cA, 10, .inr (.inr (.inr (.inr (fun i => if i < 10 then some (r i) else none)))))), (qh, .inl (cI, 9, .inl hd))] ++ (List.range 10).map (fun i => (r i, .inl (cJ, 17, .inr (.inl (M i)))))
abbrev wgT (cA cI cJ : ClassId) : List (ClassId × FieldType) := [(cA, .array .long), (cI, .int), (cJ, .long)]
/-- one cell put anew -/
def mup (M : Nat → Nat → Int64) (i j : Nat) (x : Int64) : Nat → Nat → Int64 := fup M i (vp_updL (M i) j x)
theorem wgW_set {h0 qc qh : Nat} {r : Nat → Nat} {cA cI cJ : ClassId} {m n : Nat} {u : Int64} {tw : Int32} {iv : Int64} {hd : Nat → Int32} {M : Nat → Nat → Int64} {i j : Nat} (hi : i < 10) (x : Int64) : (wgW h0 qc qh r cA cI cJ m n u tw iv hd M).set (3 + i) (r i, .inl (cJ, 17, .inr (.inl (vp_updL (M i) j x)))) = wgW h0 qc qh r cA cI cJ m n u tw iv hd (mup M i j x) := by
  refine (gG_set (k := 3 + i) hi rfl _).trans ?_
  refine congrArg (fun g => _ ++ (List.range 10).map g) ?_
  funext k
  by_cases e : k = i
  · subst e; simp [fup, mup]
  · simp [fup, mup, e]
end
section
/-! ===== Weighing: the small methods ===== -/
theorem va_fall {A0 : Nat → Prop} {ws : va_W} {H0 H : Heap} {locs : List Loc} (hD : va_D A0 ws) (hS : va_S A0 H0 H locs) (hA : ∀ q, H0.size ≤ q → A0 q) : ∀ q, va_A ws H.size q → A0 q := fun q h => by
  rcases h with ⟨k, e, h⟩ | h
  · exact hD.2 k (q, e) h
  · exact hA q (Nat.le_trans hS.1 h)
set_option maxHeartbeats 4000000 in
set_option maxRecDepth 100000 in
/-- put(i, j, x) -/
theorem c_X0_put (l : Launch) (dC : Nat → ClassId) (dI : Nat → Nat → Nat) (h0 qc qh : Nat) (r : Nat → Nat) (cA cI cJ : ClassId) (sz : Nat) (me nw : Nat) (u : Int64) (tw : Int32) (iv : Int64) (hd : Nat → Int32) (M : Nat → Nat → Int64) (i j : Nat) (x : Int32) (hi : i < 10) (hj : j < 17) : Met l yX0_put wsX0_put ({ frames := 0, cells := 0, slots := 0, locals := 0 }) (va_Pc [.ref h0, .int (nI i), .int (nI j), .int x] (fun U => U.heap.size = sz ∧ va_P (dC, dI) vwCl (wgW h0 qc qh r cA cI cJ me nw u tw iv hd M) U.heap ∧ va_K (dC, dI) vwCl (wgT cA cI cJ) U ∧ va_D (fun _ => True) (wgW h0 qc qh r cA cI cJ me nw u tw iv hd M))) (va_Qv (fun v : Unit => True) (fun v t => va_P (dC, dI) vwCl (wgW h0 qc qh r cA cI cJ me nw u tw iv hd (mup M i j x.toInt64)) t.heap ∧ va_K (dC, dI) vwCl (wgT cA cI cJ) t ∧ va_D (va_A (wgW h0 qc qh r cA cI cJ me nw u tw iv hd M) sz) (wgW h0 qc qh r cA cI cJ me nw u tw iv hd (mup M i j x.toInt64))) (va_A (wgW h0 qc qh r cA cI cJ me nw u tw iv hd M) sz)) 0 0 (va_A (wgW h0 qc qh r cA cI cJ me nw u tw iv hd M) sz) := by
  refine Met.ofW (cc := cX0_put) (maxL := 4) (ret := none) (by decide) rfl ?_
  intro p e s m args below meth c s₁ B hml hv
  obtain ⟨rfl, hsz, hP, hK, hD0⟩ := hv
  have hx := B.exec
  have hb := B.bytes
  have hr := B.returns
  have hts := atoms_spec (ws := wsX0_put) B.pre
  have hown : s.vm.findClass RX0 = some m.cls := findClass_of_methodNamed B.named
  subst hsz
  have hD := hD0.self (sz := s.heap.size)
  clear hD0
  generalize hAe : va_A (wgW h0 qc qh r cA cI cJ me nw u tw iv hd M) s.heap.size = A at hD ⊢
  have hA : ∀ q : Nat, s.heap.size ≤ q → A q := fun q h => by rw [← hAe]; exact Or.inr h
  have hl := lv_entry ([.ref h0, .int (nI i), .int (nI j), .int x]) (n := 4) (Nat.le_of_ble_eq_true rfl)
  rw [lg_entry_eq]
  generalize (lg_sl ([.ref h0, .int (nI i), .int (nI j), .int x]) ++ List.replicate (4 - (lg_sl ([.ref h0, .int (nI i), .int (nI j), .int x])).length) Slot.unset).toArray = ls at hl ⊢
  have hl : lv_has ls 4 [(0, .ref h0), (1, .int (nI i)), (2, .int (nI j)), (3, .int x)] := hl
  have hP : va_P (dC, dI) vwCl (wgW h0 qc qh r cA cI cJ me nw u tw iv hd M) s.heap := hP
  obtain ⟨H, hH⟩ : ∃ H, H = s.heap := ⟨_, rfl⟩
  have hS : va_S A s.heap H [] := by rw [hH]; exact va_S.rf
  rw [← hH] at hP ⊢
  refine lv_aload_n hx hb dX0_put_0 rfl (lv_at hl 0 rfl) ?_
  refine va_get (D := (dC, dI)) (ci := 0) (v := .ref qc) (C := RX0) (T := TX0) (N := 7) hx hb hts (fun _ h => List.mem_cons_of_mem _ (List.mem_append_right _ h)) hown hK hP 0 rfl rfl 0 (by decide) (hts (.fieldLink RX0 13 "RankFinder$Weighing" "cell" "[[J") (List.mem_of_getElem? (i := 1) rfl)) (fun _ h9 => h9) rfl dX0_put_1 ?_
  refine lv_iload_n hx hb dX0_put_4 rfl (lv_at hl 1 rfl) ?_
  refine na_aald (y := r i) hx hb hK hP 1 0 rfl rfl hi (by decide) (if_pos hi) dX0_put_5 ?_
  refine lv_iload_n hx hb dX0_put_6 rfl (lv_at hl 2 rfl) ?_
  refine lv_iload_n hx hb dX0_put_7 rfl (lv_at hl 3 rfl) ?_
  refine lv_i2l hx hb dX0_put_8 rfl ?_
  refine na_last hx hb hK hP hD hS (3 + i) 2 (gG_get hi rfl) rfl hj (by decide) dX0_put_9 (fun H locs hP hD hS => ?_)
  rw [wgW_set hi] at hP hD
  have hP : va_P (dC, dI) vwCl (wgW h0 qc qh r cA cI cJ me nw u tw iv hd (mup M i j (Int32.toInt64 x))) H := hP
  have hD : va_D A (wgW h0 qc qh r cA cI cJ me nw u tw iv hd (mup M i j (Int32.toInt64 x))) := hD
  exact W.vret hx hb hr (fun t ht hW => ⟨⟨(), rfl, trivial, by rw [ht]; exact hP, va_K.moved hW.alike hK, hD⟩, hS.F ht⟩) hS.2.2 dX0_put_10
set_option maxHeartbeats 4000000 in
set_option maxRecDepth 100000 in
/-- putRightSide(i, x) -/
theorem c_X0_putRightSide (l : Launch) (dC : Nat → ClassId) (dI : Nat → Nat → Nat) (h0 qc qh : Nat) (r : Nat → Nat) (cA cI cJ : ClassId) (sz : Nat) (me nw : Nat) (u : Int64) (tw : Int32) (iv : Int64) (hd : Nat → Int32) (M : Nat → Nat → Int64) (i : Nat) (x : Int32) (hi : i < 10) (hn : nw < 17) : Met l yX0_putRightSide wsX0_putRightSide ({ frames := 0, cells := 0, slots := 0, locals := 0 }) (va_Pc [.ref h0, .int (nI i), .int x] (fun U => U.heap.size = sz ∧ va_P (dC, dI) vwCl (wgW h0 qc qh r cA cI cJ me nw u tw iv hd M) U.heap ∧ va_K (dC, dI) vwCl (wgT cA cI cJ) U ∧ va_D (fun _ => True) (wgW h0 qc qh r cA cI cJ me nw u tw iv hd M))) (va_Qv (fun v : Unit => True) (fun v t => va_P (dC, dI) vwCl (wgW h0 qc qh r cA cI cJ me nw u tw iv hd (mup M i nw x.toInt64)) t.heap ∧ va_K (dC, dI) vwCl (wgT cA cI cJ) t ∧ va_D (va_A (wgW h0 qc qh r cA cI cJ me nw u tw iv hd M) sz) (wgW h0 qc qh r cA cI cJ me nw u tw iv hd (mup M i nw x.toInt64))) (va_A (wgW h0 qc qh r cA cI cJ me nw u tw iv hd M) sz)) 0 0 (va_A (wgW h0 qc qh r cA cI cJ me nw u tw iv hd M) sz) := by
  refine Met.ofW (cc := cX0_putRightSide) (maxL := 3) (ret := none) (by decide) rfl ?_
  intro p e s m args below meth c s₁ B hml hv
  obtain ⟨rfl, hsz, hP, hK, hD0⟩ := hv
  have hx := B.exec
  have hb := B.bytes
  have hr := B.returns
  have hts := atoms_spec (ws := wsX0_putRightSide) B.pre
  have hown : s.vm.findClass RX0 = some m.cls := findClass_of_methodNamed B.named
  subst hsz
  have hD := hD0.self (sz := s.heap.size)
  clear hD0
  generalize hAe : va_A (wgW h0 qc qh r cA cI cJ me nw u tw iv hd M) s.heap.size = A at hD ⊢
  have hA : ∀ q : Nat, s.heap.size ≤ q → A q := fun q h => by rw [← hAe]; exact Or.inr h
  have hl := lv_entry ([.ref h0, .int (nI i), .int x]) (n := 3) (Nat.le_of_ble_eq_true rfl)
  rw [lg_entry_eq]
  generalize (lg_sl ([.ref h0, .int (nI i), .int x]) ++ List.replicate (3 - (lg_sl ([.ref h0, .int (nI i), .int x])).length) Slot.unset).toArray = ls at hl ⊢
  have hl : lv_has ls 3 [(0, .ref h0), (1, .int (nI i)), (2, .int x)] := hl
  have hP : va_P (dC, dI) vwCl (wgW h0 qc qh r cA cI cJ me nw u tw iv hd M) s.heap := hP
  obtain ⟨H, hH⟩ : ∃ H, H = s.heap := ⟨_, rfl⟩
  have hS : va_S A s.heap H [] := by rw [hH]; exact va_S.rf
  rw [← hH] at hP ⊢
  refine lv_aload_n hx hb dX0_putRightSide_0 rfl (lv_at hl 0 rfl) ?_
  refine va_get (D := (dC, dI)) (ci := 0) (v := .ref qc) (C := RX0) (T := TX0) (N := 7) hx hb hts (fun _ h => List.mem_cons_of_mem _ (List.mem_append_right _ h)) hown hK hP 0 rfl rfl 0 (by decide) (hts (.fieldLink RX0 13 "RankFinder$Weighing" "cell" "[[J") (List.mem_of_getElem? (i := 1) rfl)) (fun _ h9 => h9) rfl dX0_putRightSide_1 ?_
  refine lv_iload_n hx hb dX0_putRightSide_4 rfl (lv_at hl 1 rfl) ?_
  refine na_aald (y := r i) hx hb hK hP 1 0 rfl rfl hi (by decide) (if_pos hi) dX0_putRightSide_5 ?_
  refine lv_aload_n hx hb dX0_putRightSide_6 rfl (lv_at hl 0 rfl) ?_
  refine va_get (D := (dC, dI)) (ci := 0) (v := .int (nI nw)) (C := RX0) (T := TX0) (N := 7) hx hb hts (fun _ h => List.mem_cons_of_mem _ (List.mem_append_right _ h)) hown hK hP 0 rfl rfl 3 (by decide) (hts (.fieldLink RX0 24 "RankFinder$Weighing" "weights" "I") (List.mem_of_getElem? (i := 2) rfl)) (fun _ h9 => h9) rfl dX0_putRightSide_7 ?_
  refine lv_iload_n hx hb dX0_putRightSide_10 rfl (lv_at hl 2 rfl) ?_
  refine lv_i2l hx hb dX0_putRightSide_11 rfl ?_
  refine na_last hx hb hK hP hD hS (3 + i) 2 (gG_get hi rfl) rfl hn (by decide) dX0_putRightSide_12 (fun H locs hP hD hS => ?_)
  rw [wgW_set hi] at hP hD
  have hP : va_P (dC, dI) vwCl (wgW h0 qc qh r cA cI cJ me nw u tw iv hd (mup M i nw (Int32.toInt64 x))) H := hP
  have hD : va_D A (wgW h0 qc qh r cA cI cJ me nw u tw iv hd (mup M i nw (Int32.toInt64 x))) := hD
  exact W.vret hx hb hr (fun t ht hW => ⟨⟨(), rfl, trivial, by rw [ht]; exact hP, va_K.moved hW.alike hK, hD⟩, hS.F ht⟩) hS.2.2 dX0_putRightSide_13
set_option maxHeartbeats 4000000 in
set_option maxRecDepth 100000 in
/-- putCost(j, x) -/
theorem c_X0_putCost (l : Launch) (dC : Nat → ClassId) (dI : Nat → Nat → Nat) (h0 qc qh : Nat) (r : Nat → Nat) (cA cI cJ : ClassId) (sz : Nat) (me nw : Nat) (u : Int64) (tw : Int32) (iv : Int64) (hd : Nat → Int32) (M : Nat → Nat → Int64) (j : Nat) (x : Int32) (hm : me < 10) (hj : j < 17) : Met l yX0_putCost wsX0_putCost ({ frames := 0, cells := 0, slots := 0, locals := 0 }) (va_Pc [.ref h0, .int (nI j), .int x] (fun U => U.heap.size = sz ∧ va_P (dC, dI) vwCl (wgW h0 qc qh r cA cI cJ me nw u tw iv hd M) U.heap ∧ va_K (dC, dI) vwCl (wgT cA cI cJ) U ∧ va_D (fun _ => True) (wgW h0 qc qh r cA cI cJ me nw u tw iv hd M))) (va_Qv (fun v : Unit => True) (fun v t => va_P (dC, dI) vwCl (wgW h0 qc qh r cA cI cJ me nw u tw iv hd (mup M me j x.toInt64)) t.heap ∧ va_K (dC, dI) vwCl (wgT cA cI cJ) t ∧ va_D (va_A (wgW h0 qc qh r cA cI cJ me nw u tw iv hd M) sz) (wgW h0 qc qh r cA cI cJ me nw u tw iv hd (mup M me j x.toInt64))) (va_A (wgW h0 qc qh r cA cI cJ me nw u tw iv hd M) sz)) 0 0 (va_A (wgW h0 qc qh r cA cI cJ me nw u tw iv hd M) sz) := by
  refine Met.ofW (cc := cX0_putCost) (maxL := 3) (ret := none) (by decide) rfl ?_
  intro p e s m args below meth c s₁ B hml hv
  obtain ⟨rfl, hsz, hP, hK, hD0⟩ := hv
  have hx := B.exec
  have hb := B.bytes
  have hr := B.returns
  have hts := atoms_spec (ws := wsX0_putCost) B.pre
  have hown : s.vm.findClass RX0 = some m.cls := findClass_of_methodNamed B.named
  subst hsz
  have hD := hD0.self (sz := s.heap.size)
  clear hD0
  generalize hAe : va_A (wgW h0 qc qh r cA cI cJ me nw u tw iv hd M) s.heap.size = A at hD ⊢
  have hA : ∀ q : Nat, s.heap.size ≤ q → A q := fun q h => by rw [← hAe]; exact Or.inr h
  have hl := lv_entry ([.ref h0, .int (nI j), .int x]) (n := 3) (Nat.le_of_ble_eq_true rfl)
  rw [lg_entry_eq]
  generalize (lg_sl ([.ref h0, .int (nI j), .int x]) ++ List.replicate (3 - (lg_sl ([.ref h0, .int (nI j), .int x])).length) Slot.unset).toArray = ls at hl ⊢
  have hl : lv_has ls 3 [(0, .ref h0), (1, .int (nI j)), (2, .int x)] := hl
  have hP : va_P (dC, dI) vwCl (wgW h0 qc qh r cA cI cJ me nw u tw iv hd M) s.heap := hP
  obtain ⟨H, hH⟩ : ∃ H, H = s.heap := ⟨_, rfl⟩
  have hS : va_S A s.heap H [] := by rw [hH]; exact va_S.rf
  rw [← hH] at hP ⊢
  refine lv_aload_n hx hb dX0_putCost_0 rfl (lv_at hl 0 rfl) ?_
  refine va_get (D := (dC, dI)) (ci := 0) (v := .ref qc) (C := RX0) (T := TX0) (N := 7) hx hb hts (fun _ h => List.mem_cons_of_mem _ (List.mem_append_right _ h)) hown hK hP 0 rfl rfl 0 (by decide) (hts (.fieldLink RX0 13 "RankFinder$Weighing" "cell" "[[J") (List.mem_of_getElem? (i := 1) rfl)) (fun _ h9 => h9) rfl dX0_putCost_1 ?_
  refine lv_aload_n hx hb dX0_putCost_4 rfl (lv_at hl 0 rfl) ?_
  refine va_get (D := (dC, dI)) (ci := 0) (v := .int (nI me)) (C := RX0) (T := TX0) (N := 7) hx hb hts (fun _ h => List.mem_cons_of_mem _ (List.mem_append_right _ h)) hown hK hP 0 rfl rfl 2 (by decide) (hts (.fieldLink RX0 20 "RankFinder$Weighing" "equations" "I") (List.mem_of_getElem? (i := 2) rfl)) (fun _ h9 => h9) rfl dX0_putCost_5 ?_
  refine na_aald (y := r me) hx hb hK hP 1 0 rfl rfl hm (by decide) (if_pos hm) dX0_putCost_8 ?_
  refine lv_iload_n hx hb dX0_putCost_9 rfl (lv_at hl 1 rfl) ?_
  refine lv_iload_n hx hb dX0_putCost_10 rfl (lv_at hl 2 rfl) ?_
  refine lv_i2l hx hb dX0_putCost_11 rfl ?_
  refine na_last hx hb hK hP hD hS (3 + me) 2 (gG_get hm rfl) rfl hj (by decide) dX0_putCost_12 (fun H locs hP hD hS => ?_)
  rw [wgW_set hm] at hP hD
  have hP : va_P (dC, dI) vwCl (wgW h0 qc qh r cA cI cJ me nw u tw iv hd (mup M me j (Int32.toInt64 x))) H := hP
  have hD : va_D A (wgW h0 qc qh r cA cI cJ me nw u tw iv hd (mup M me j (Int32.toInt64 x))) := hD
  exact W.vret hx hb hr (fun t ht hW => ⟨⟨(), rfl, trivial, by rw [ht]; exact hP, va_K.moved hW.alike hK, hD⟩, hS.F ht⟩) hS.2.2 dX0_putCost_13
set_option maxHeartbeats 4000000 in
set_option maxRecDepth 100000 in
/-- leastTop() -/
theorem c_X0_leastTop (l : Launch) (dC : Nat → ClassId) (dI : Nat → Nat → Nat) (h0 qc qh : Nat) (r : Nat → Nat) (cA cI cJ : ClassId) (sz : Nat) (me nw : Nat) (u : Int64) (tw : Int32) (iv : Int64) (hd : Nat → Int32) (M : Nat → Nat → Int64) (hm : me < 10) (hn : nw < 17) : Met l yX0_leastTop wsX0_leastTop ({ frames := 0, cells := 0, slots := 0, locals := 0 }) (va_Pc [.ref h0] (fun U => U.heap.size = sz ∧ va_P (dC, dI) vwCl (wgW h0 qc qh r cA cI cJ me nw u tw iv hd M) U.heap ∧ va_K (dC, dI) vwCl (wgT cA cI cJ) U ∧ va_D (fun _ => True) (wgW h0 qc qh r cA cI cJ me nw u tw iv hd M))) (va_Ql (fun (x : Int64) (v : Unit) => x = M me nw) (fun v t => va_P (dC, dI) vwCl (wgW h0 qc qh r cA cI cJ me nw u tw iv hd M) t.heap ∧ va_K (dC, dI) vwCl (wgT cA cI cJ) t ∧ va_D (va_A (wgW h0 qc qh r cA cI cJ me nw u tw iv hd M) sz) (wgW h0 qc qh r cA cI cJ me nw u tw iv hd M)) (va_A (wgW h0 qc qh r cA cI cJ me nw u tw iv hd M) sz)) 0 0 (va_A (wgW h0 qc qh r cA cI cJ me nw u tw iv hd M) sz) := by
  refine Met.ofW (cc := cX0_leastTop) (maxL := 1) (ret := (some .long)) (by decide) rfl ?_
  intro p e s m args below meth c s₁ B hml hv
  obtain ⟨rfl, hsz, hP, hK, hD0⟩ := hv
  have hx := B.exec
  have hb := B.bytes
  have hr := B.returns
  have hts := atoms_spec (ws := wsX0_leastTop) B.pre
  have hown : s.vm.findClass RX0 = some m.cls := findClass_of_methodNamed B.named
  subst hsz
  have hD := hD0.self (sz := s.heap.size)
  clear hD0
  generalize hAe : va_A (wgW h0 qc qh r cA cI cJ me nw u tw iv hd M) s.heap.size = A at hD ⊢
  have hA : ∀ q : Nat, s.heap.size ≤ q → A q := fun q h => by rw [← hAe]; exact Or.inr h
  have hl := lv_entry ([.ref h0]) (n := 1) (Nat.le_of_ble_eq_true rfl)
  rw [lg_entry_eq]
  generalize (lg_sl ([.ref h0]) ++ List.replicate (1 - (lg_sl ([.ref h0])).length) Slot.unset).toArray = ls at hl ⊢
  have hl : lv_has ls 1 [(0, .ref h0)] := hl
  have hP : va_P (dC, dI) vwCl (wgW h0 qc qh r cA cI cJ me nw u tw iv hd M) s.heap := hP
  obtain ⟨H, hH⟩ : ∃ H, H = s.heap := ⟨_, rfl⟩
  have hS : va_S A s.heap H [] := by rw [hH]; exact va_S.rf
  rw [← hH] at hP ⊢
  refine lv_aload_n hx hb dX0_leastTop_0 rfl (lv_at hl 0 rfl) ?_
  refine va_get (D := (dC, dI)) (ci := 0) (v := .ref qc) (C := RX0) (T := TX0) (N := 7) hx hb hts (fun _ h => List.mem_cons_of_mem _ (List.mem_append_right _ h)) hown hK hP 0 rfl rfl 0 (by decide) (hts (.fieldLink RX0 13 "RankFinder$Weighing" "cell" "[[J") (List.mem_of_getElem? (i := 1) rfl)) (fun _ h9 => h9) rfl dX0_leastTop_1 ?_
  refine lv_aload_n hx hb dX0_leastTop_4 rfl (lv_at hl 0 rfl) ?_
  refine va_get (D := (dC, dI)) (ci := 0) (v := .int (nI me)) (C := RX0) (T := TX0) (N := 7) hx hb hts (fun _ h => List.mem_cons_of_mem _ (List.mem_append_right _ h)) hown hK hP 0 rfl rfl 2 (by decide) (hts (.fieldLink RX0 20 "RankFinder$Weighing" "equations" "I") (List.mem_of_getElem? (i := 2) rfl)) (fun _ h9 => h9) rfl dX0_leastTop_5 ?_
  refine na_aald (y := r me) hx hb hK hP 1 0 rfl rfl hm (by decide) (if_pos hm) dX0_leastTop_8 ?_
  refine lv_aload_n hx hb dX0_leastTop_9 rfl (lv_at hl 0 rfl) ?_
  refine va_get (D := (dC, dI)) (ci := 0) (v := .int (nI nw)) (C := RX0) (T := TX0) (N := 7) hx hb hts (fun _ h => List.mem_cons_of_mem _ (List.mem_append_right _ h)) hown hK hP 0 rfl rfl 3 (by decide) (hts (.fieldLink RX0 24 "RankFinder$Weighing" "weights" "I") (List.mem_of_getElem? (i := 3) rfl)) (fun _ h9 => h9) rfl dX0_leastTop_10 ?_
  refine na_lald hx hb hK hP (3 + me) 2 (gG_get hm rfl) rfl hn (by decide) dX0_leastTop_13 ?_
  exact W.lret (v := (M me nw)) hx hb hr (fun t ht hW => ⟨⟨(M me nw), (), rfl, rfl, by rw [ht]; exact hP, va_K.moved hW.alike hK, hD⟩, hS.F ht⟩) hS.2.2 dX0_leastTop_14
set_option maxHeartbeats 4000000 in
set_option maxRecDepth 100000 in
/-- leastBottom() -/
theorem c_X0_leastBottom (l : Launch) (dC : Nat → ClassId) (dI : Nat → Nat → Nat) (h0 qc qh : Nat) (r : Nat → Nat) (cA cI cJ : ClassId) (sz : Nat) (me nw : Nat) (u : Int64) (tw : Int32) (iv : Int64) (hd : Nat → Int32) (M : Nat → Nat → Int64) : Met l yX0_leastBottom wsX0_leastBottom ({ frames := 0, cells := 0, slots := 0, locals := 0 }) (va_Pc [.ref h0] (fun U => U.heap.size = sz ∧ va_P (dC, dI) vwCl (wgW h0 qc qh r cA cI cJ me nw u tw iv hd M) U.heap ∧ va_K (dC, dI) vwCl (wgT cA cI cJ) U ∧ va_D (fun _ => True) (wgW h0 qc qh r cA cI cJ me nw u tw iv hd M))) (va_Ql (fun (x : Int64) (v : Unit) => x = u) (fun v t => va_P (dC, dI) vwCl (wgW h0 qc qh r cA cI cJ me nw u tw iv hd M) t.heap ∧ va_K (dC, dI) vwCl (wgT cA cI cJ) t ∧ va_D (va_A (wgW h0 qc qh r cA cI cJ me nw u tw iv hd M) sz) (wgW h0 qc qh r cA cI cJ me nw u tw iv hd M)) (va_A (wgW h0 qc qh r cA cI cJ me nw u tw iv hd M) sz)) 0 0 (va_A (wgW h0 qc qh r cA cI cJ me nw u tw iv hd M) sz) := by
  refine Met.ofW (cc := cX0_leastBottom) (maxL := 1) (ret := (some .long)) (by decide) rfl ?_
  intro p e s m args below meth c s₁ B hml hv
  obtain ⟨rfl, hsz, hP, hK, hD0⟩ := hv
  have hx := B.exec
  have hb := B.bytes
  have hr := B.returns
  have hts := atoms_spec (ws := wsX0_leastBottom) B.pre
  have hown : s.vm.findClass RX0 = some m.cls := findClass_of_methodNamed B.named
  subst hsz
  have hD := hD0.self (sz := s.heap.size)
  clear hD0
  generalize hAe : va_A (wgW h0 qc qh r cA cI cJ me nw u tw iv hd M) s.heap.size = A at hD ⊢
  have hA : ∀ q : Nat, s.heap.size ≤ q → A q := fun q h => by rw [← hAe]; exact Or.inr h
  have hl := lv_entry ([.ref h0]) (n := 1) (Nat.le_of_ble_eq_true rfl)
  rw [lg_entry_eq]
  generalize (lg_sl ([.ref h0]) ++ List.replicate (1 - (lg_sl ([.ref h0])).length) Slot.unset).toArray = ls at hl ⊢
  have hl : lv_has ls 1 [(0, .ref h0)] := hl
  have hP : va_P (dC, dI) vwCl (wgW h0 qc qh r cA cI cJ me nw u tw iv hd M) s.heap := hP
  obtain ⟨H, hH⟩ : ∃ H, H = s.heap := ⟨_, rfl⟩
  have hS : va_S A s.heap H [] := by rw [hH]; exact va_S.rf
  rw [← hH] at hP ⊢
  refine lv_aload_n hx hb dX0_leastBottom_0 rfl (lv_at hl 0 rfl) ?_
  refine va_get (D := (dC, dI)) (ci := 0) (v := .long u) (C := RX0) (T := TX0) (N := 7) hx hb hts (fun _ h => List.mem_cons_of_mem _ (List.mem_append_right _ h)) hown hK hP 0 rfl rfl 4 (by decide) (hts (.fieldLink RX0 27 "RankFinder$Weighing" "unit" "J") (List.mem_of_getElem? (i := 1) rfl)) (fun _ h9 => h9) rfl dX0_leastBottom_1 ?_
  exact W.lret (v := u) hx hb hr (fun t ht hW => ⟨⟨u, (), rfl, rfl, by rw [ht]; exact hP, va_K.moved hW.alike hK, hD⟩, hS.F ht⟩) hS.2.2 dX0_leastBottom_4
end
section
/-! ===== Weighing: the methods that look for a row or a column ===== -/
set_option maxHeartbeats 4000000 in
set_option maxRecDepth 100000 in
/-- firstColumnOf(i): the first column that is not 0, or -1 -/
theorem c_X0_firstColumnOf (l : Launch) (dC : Nat → ClassId) (dI : Nat → Nat → Nat) (h0 qc qh : Nat) (r : Nat → Nat) (cA cI cJ : ClassId) (sz : Nat) (me nw : Nat) (u : Int64) (tw : Int32) (iv : Int64) (hd : Nat → Int32) (M : Nat → Nat → Int64) (i : Nat) (hi : i < 10) (hn : nw < 17) : Met l yX0_firstColumnOf wsX0_firstColumnOf ({ frames := 0, cells := 0, slots := 0, locals := 0 }) (va_Pc [.ref h0, .int (nI i)] (fun U => U.heap.size = sz ∧ va_P (dC, dI) vwCl (wgW h0 qc qh r cA cI cJ me nw u tw iv hd M) U.heap ∧ va_K (dC, dI) vwCl (wgT cA cI cJ) U ∧ va_D (fun _ => True) (wgW h0 qc qh r cA cI cJ me nw u tw iv hd M))) (va_Qi (fun (x : Int32) (v : Unit) => (∃ k, k < nw ∧ x = nI k ∧ M i k ≠ 0 ∧ ∀ j, j < k → M i j = 0) ∨ (x = -1 ∧ ∀ j, j < nw → M i j = 0)) (fun v t => va_P (dC, dI) vwCl (wgW h0 qc qh r cA cI cJ me nw u tw iv hd M) t.heap ∧ va_K (dC, dI) vwCl (wgT cA cI cJ) t ∧ va_D (va_A (wgW h0 qc qh r cA cI cJ me nw u tw iv hd M) sz) (wgW h0 qc qh r cA cI cJ me nw u tw iv hd M)) (va_A (wgW h0 qc qh r cA cI cJ me nw u tw iv hd M) sz)) 0 0 (va_A (wgW h0 qc qh r cA cI cJ me nw u tw iv hd M) sz) := by
  refine Met.ofW (cc := cX0_firstColumnOf) (maxL := 3) (ret := (some .int)) (by decide) rfl ?_
  intro p e s m args below meth c s₁ B hml hv
  obtain ⟨rfl, hsz, hP, hK, hD0⟩ := hv
  have hx := B.exec
  have hb := B.bytes
  have hr := B.returns
  have hts := atoms_spec (ws := wsX0_firstColumnOf) B.pre
  have hown : s.vm.findClass RX0 = some m.cls := findClass_of_methodNamed B.named
  subst hsz
  have hD := hD0.self (sz := s.heap.size)
  clear hD0
  generalize hAe : va_A (wgW h0 qc qh r cA cI cJ me nw u tw iv hd M) s.heap.size = A at hD ⊢
  have hA : ∀ q : Nat, s.heap.size ≤ q → A q := fun q h => by rw [← hAe]; exact Or.inr h
  have hl := lv_entry ([.ref h0, .int (nI i)]) (n := 3) (Nat.le_of_ble_eq_true rfl)
  rw [lg_entry_eq]
  generalize (lg_sl ([.ref h0, .int (nI i)]) ++ List.replicate (3 - (lg_sl ([.ref h0, .int (nI i)])).length) Slot.unset).toArray = ls at hl ⊢
  have hl : lv_has ls 3 [(0, .ref h0), (1, .int (nI i))] := hl
  have hP : va_P (dC, dI) vwCl (wgW h0 qc qh r cA cI cJ me nw u tw iv hd M) s.heap := hP
  obtain ⟨H, hH⟩ : ∃ H, H = s.heap := ⟨_, rfl⟩
  have hS : va_S A s.heap H [] := by rw [hH]; exact va_S.rf
  rw [← hH] at hP ⊢
  refine lv_iconst (v := nI 0) hx hb dX0_firstColumnOf_0 (by decide) ?_
  refine lv_istore_n (lv' := [(2, .int (nI 0)), (0, .ref h0), (1, .int (nI i))]) hx hb dX0_firstColumnOf_1 rfl hl (by decide) rfl (fun ls hl => ?_)
  have loop : ∀ (d k : Nat) (ls : Array Slot), k + d = nw → (∀ j, j < k → M i j = 0) → lv_has ls 3 [(2, .int (nI k)), (0, .ref h0), (1, .int (nI i))] → W p l e (headSpec wsX0_firstColumnOf ({ frames := 0, cells := 0, slots := 0, locals := 0 })).room s m #[.ref h0, .int (nI i)] below meth c H [] 0 0 (MQ below (va_Qi (fun (x : Int32) (v : Unit) => (∃ k, k < nw ∧ x = nI k ∧ M i k ≠ 0 ∧ ∀ j, j < k → M i j = 0) ∨ (x = -1 ∧ ∀ j, j < nw → M i j = 0)) (fun v t => va_P (dC, dI) vwCl (wgW h0 qc qh r cA cI cJ me nw u tw iv hd M) t.heap ∧ va_K (dC, dI) vwCl (wgT cA cI cJ) t ∧ va_D A (wgW h0 qc qh r cA cI cJ me nw u tw iv hd M)) A) #[.ref h0, .int (nI i)] s 0 0 A) (F0 m 2 ls []) := by
    intro d
    induction d with
    | zero =>
      intro k ls hk hz hl
      refine lv_iload_n hx hb dX0_firstColumnOf_2 rfl (lv_at hl 0 rfl) ?_
      refine lv_aload_n hx hb dX0_firstColumnOf_3 rfl (lv_at hl 1 rfl) ?_
      refine va_get (D := (dC, dI)) (ci := 0) (v := .int (nI nw)) (C := RX0) (T := TX0) (N := 7) hx hb hts (fun _ h => List.mem_cons_of_mem _ (List.mem_append_right _ h)) hown hK hP 0 rfl rfl 3 (by decide) (hts (.fieldLink RX0 24 "RankFinder$Weighing" "weights" "I") (List.mem_of_getElem? (i := 1) rfl)) (fun _ h9 => h9) rfl dX0_firstColumnOf_4 ?_
      refine lv_icmp_ge (tgt := 31) hx hb dX0_firstColumnOf_7 (by decide) (fun c1 => ?_) (fun c1 => ?_)
      · refine lv_iconst (v := (-1)) hx hb dX0_firstColumnOf_31 (by decide) ?_
        exact W.iret (v := (-1)) hx hb hr (fun t ht hW => ⟨⟨(-1), (), rfl, Or.inr ⟨rfl, fun j hj => hz j (by omega)⟩, by rw [ht]; exact hP, va_K.moved hW.alike hK, hD⟩, hS.F ht⟩) hS.2.2 dX0_firstColumnOf_32
      · exact absurd (nI_le (by omega) (by omega)) c1
    | succ d ih =>
      intro k ls hk hz hl
      refine lv_iload_n hx hb dX0_firstColumnOf_2 rfl (lv_at hl 0 rfl) ?_
      refine lv_aload_n hx hb dX0_firstColumnOf_3 rfl (lv_at hl 1 rfl) ?_
      refine va_get (D := (dC, dI)) (ci := 0) (v := .int (nI nw)) (C := RX0) (T := TX0) (N := 7) hx hb hts (fun _ h => List.mem_cons_of_mem _ (List.mem_append_right _ h)) hown hK hP 0 rfl rfl 3 (by decide) (hts (.fieldLink RX0 24 "RankFinder$Weighing" "weights" "I") (List.mem_of_getElem? (i := 1) rfl)) (fun _ h9 => h9) rfl dX0_firstColumnOf_4 ?_
      refine lv_icmp_ge (tgt := 31) hx hb dX0_firstColumnOf_7 (by decide) (fun c1 => ?_) (fun c1 => ?_)
      · exact absurd c1 (nI_ge (by omega) (by omega))
      · refine lv_aload_n hx hb dX0_firstColumnOf_10 rfl (lv_at hl 1 rfl) ?_
        refine va_get (D := (dC, dI)) (ci := 0) (v := .ref qc) (C := RX0) (T := TX0) (N := 7) hx hb hts (fun _ h => List.mem_cons_of_mem _ (List.mem_append_right _ h)) hown hK hP 0 rfl rfl 0 (by decide) (hts (.fieldLink RX0 13 "RankFinder$Weighing" "cell" "[[J") (List.mem_of_getElem? (i := 2) rfl)) (fun _ h9 => h9) rfl dX0_firstColumnOf_11 ?_
        refine lv_iload_n hx hb dX0_firstColumnOf_14 rfl (lv_at hl 2 rfl) ?_
        refine na_aald (y := r i) hx hb hK hP 1 0 rfl rfl hi (by decide) (if_pos hi) dX0_firstColumnOf_15 ?_
        refine lv_iload_n hx hb dX0_firstColumnOf_16 rfl (lv_at hl 0 rfl) ?_
        refine na_lald hx hb hK hP (3 + i) 2 (gG_get hi rfl) rfl (show k < 17 by omega) (by decide) dX0_firstColumnOf_17 ?_
        refine lv_lconst (v := 0) hx hb dX0_firstColumnOf_18 (by decide) ?_
        refine W.lcmp hx hb dX0_firstColumnOf_19 ?_
        refine lv_if_eq (tgt := 25) hx hb dX0_firstColumnOf_20 (by decide) (fun c2 => ?_) (fun c2 => ?_)
        · rw [lg_cmp_eq] at c2
          refine lv_iinc (v := nI (k + 1)) (lv' := [(2, .int (nI (k + 1))), (0, .ref h0), (1, .int (nI i))]) hx hb dX0_firstColumnOf_25 hl (k := 0) rfl (nI_1 _) (by decide) rfl (fun ls hl => ?_)
          refine lv_goto (tgt := 2) hx hb dX0_firstColumnOf_28 (by decide) ?_
          exact ih (k + 1) ls (by omega) (fun j hj => by
            by_cases e9 : j = k
            · subst e9; exact c2
            · exact hz j (by omega)) (lv_sub hl [0, 1, 2] rfl)
        · rw [lg_cmp_eq] at c2
          refine lv_iload_n hx hb dX0_firstColumnOf_23 rfl (lv_at hl 0 rfl) ?_
          exact W.iret (v := (nI k)) hx hb hr (fun t ht hW => ⟨⟨(nI k), (), rfl, Or.inl ⟨k, by omega, rfl, c2, hz⟩, by rw [ht]; exact hP, va_K.moved hW.alike hK, hD⟩, hS.F ht⟩) hS.2.2 dX0_firstColumnOf_24
  exact loop nw 0 ls (by omega) (fun j hj => by omega) hl
end
section
/-! ===== Weighing: rows and columns that are looked for, further ===== -/
theorem i32_lt_tr {a b c : Int32} (h : ¬ a < b) (h2 : c < b) : ¬ a < c := fun q => by
  rw [Int32.lt_iff_toInt_lt] at *; omega
theorem i32_irr {a : Int32} : ¬ a < a := fun q => by
  rw [Int32.lt_iff_toInt_lt] at q; omega
theorem nI_m1 {k : Nat} (h : k < 2 ^ 31) : nI k ≠ -1 := fun q => by
  have := nI_pos h
  rw [q] at this
  exact this (by decide)
theorem nI_inj {a b : Nat} (ha : a < 2 ^ 31) (hb : b < 2 ^ 31) (h : nI a = nI b) : a = b := (nI_eq ha hb).mp h
set_option maxHeartbeats 4000000 in
set_option maxRecDepth 100000 in
/-- columnThatSaves(): the first column whose cost is below 0, or -1 -/
theorem c_X0_columnThatSaves (l : Launch) (dC : Nat → ClassId) (dI : Nat → Nat → Nat) (h0 qc qh : Nat) (r : Nat → Nat) (cA cI cJ : ClassId) (sz : Nat) (me nw : Nat) (u : Int64) (tw : Int32) (iv : Int64) (hd : Nat → Int32) (M : Nat → Nat → Int64) (hm : me < 10) (hn : nw < 17) : Met l yX0_columnThatSaves wsX0_columnThatSaves ({ frames := 0, cells := 0, slots := 0, locals := 0 }) (va_Pc [.ref h0] (fun U => U.heap.size = sz ∧ va_P (dC, dI) vwCl (wgW h0 qc qh r cA cI cJ me nw u tw iv hd M) U.heap ∧ va_K (dC, dI) vwCl (wgT cA cI cJ) U ∧ va_D (fun _ => True) (wgW h0 qc qh r cA cI cJ me nw u tw iv hd M))) (va_Qi (fun (x : Int32) (v : Unit) => (∃ k, k < nw ∧ x = nI k ∧ M me k < 0 ∧ ∀ j, j < k → ¬ M me j < 0) ∨ (x = -1 ∧ ∀ j, j < nw → ¬ M me j < 0)) (fun v t => va_P (dC, dI) vwCl (wgW h0 qc qh r cA cI cJ me nw u tw iv hd M) t.heap ∧ va_K (dC, dI) vwCl (wgT cA cI cJ) t ∧ va_D (va_A (wgW h0 qc qh r cA cI cJ me nw u tw iv hd M) sz) (wgW h0 qc qh r cA cI cJ me nw u tw iv hd M)) (va_A (wgW h0 qc qh r cA cI cJ me nw u tw iv hd M) sz)) 0 0 (va_A (wgW h0 qc qh r cA cI cJ me nw u tw iv hd M) sz) := by
  refine Met.ofW (cc := cX0_columnThatSaves) (maxL := 2) (ret := (some .int)) (by decide) rfl ?_
  intro p e s m args below meth c s₁ B hml hv
  obtain ⟨rfl, hsz, hP, hK, hD0⟩ := hv
  have hx := B.exec
  have hb := B.bytes
  have hr := B.returns
  have hts := atoms_spec (ws := wsX0_columnThatSaves) B.pre
  have hown : s.vm.findClass RX0 = some m.cls := findClass_of_methodNamed B.named
  subst hsz
  have hD := hD0.self (sz := s.heap.size)
  clear hD0
  generalize hAe : va_A (wgW h0 qc qh r cA cI cJ me nw u tw iv hd M) s.heap.size = A at hD ⊢
  have hA : ∀ q : Nat, s.heap.size ≤ q → A q := fun q h => by rw [← hAe]; exact Or.inr h
  have hl := lv_entry ([.ref h0]) (n := 2) (Nat.le_of_ble_eq_true rfl)
  rw [lg_entry_eq]
  generalize (lg_sl ([.ref h0]) ++ List.replicate (2 - (lg_sl ([.ref h0])).length) Slot.unset).toArray = ls at hl ⊢
  have hl : lv_has ls 2 [(0, .ref h0)] := hl
  have hP : va_P (dC, dI) vwCl (wgW h0 qc qh r cA cI cJ me nw u tw iv hd M) s.heap := hP
  obtain ⟨H, hH⟩ : ∃ H, H = s.heap := ⟨_, rfl⟩
  have hS : va_S A s.heap H [] := by rw [hH]; exact va_S.rf
  rw [← hH] at hP ⊢
  refine lv_iconst (v := nI 0) hx hb dX0_columnThatSaves_0 (by decide) ?_
  refine lv_istore_n (lv' := [(1, .int (nI 0)), (0, .ref h0)]) hx hb dX0_columnThatSaves_1 rfl hl (by decide) rfl (fun ls hl => ?_)
  have loop : ∀ (d k : Nat) (ls : Array Slot), k + d = nw → (∀ j, j < k → ¬ M me j < 0) → lv_has ls 2 [(1, .int (nI k)), (0, .ref h0)] → W p l e (headSpec wsX0_columnThatSaves ({ frames := 0, cells := 0, slots := 0, locals := 0 })).room s m #[.ref h0] below meth c H [] 0 0 (MQ below (va_Qi (fun (x : Int32) (v : Unit) => (∃ k, k < nw ∧ x = nI k ∧ M me k < 0 ∧ ∀ j, j < k → ¬ M me j < 0) ∨ (x = -1 ∧ ∀ j, j < nw → ¬ M me j < 0)) (fun v t => va_P (dC, dI) vwCl (wgW h0 qc qh r cA cI cJ me nw u tw iv hd M) t.heap ∧ va_K (dC, dI) vwCl (wgT cA cI cJ) t ∧ va_D A (wgW h0 qc qh r cA cI cJ me nw u tw iv hd M)) A) #[.ref h0] s 0 0 A) (F0 m 2 ls []) := by
    intro d
    induction d with
    | zero =>
      intro k ls hk hz hl
      refine lv_iload_n hx hb dX0_columnThatSaves_2 rfl (lv_at hl 0 rfl) ?_
      refine lv_aload_n hx hb dX0_columnThatSaves_3 rfl (lv_at hl 1 rfl) ?_
      refine va_get (D := (dC, dI)) (ci := 0) (v := .int (nI nw)) (C := RX0) (T := TX0) (N := 7) hx hb hts (fun _ h => List.mem_cons_of_mem _ (List.mem_append_right _ h)) hown hK hP 0 rfl rfl 3 (by decide) (hts (.fieldLink RX0 24 "RankFinder$Weighing" "weights" "I") (List.mem_of_getElem? (i := 1) rfl)) (fun _ h9 => h9) rfl dX0_columnThatSaves_4 ?_
      refine lv_icmp_ge (tgt := 34) hx hb dX0_columnThatSaves_7 (by decide) (fun c1 => ?_) (fun c1 => ?_)
      · refine lv_iconst (v := (-1)) hx hb dX0_columnThatSaves_34 (by decide) ?_
        exact W.iret (v := (-1)) hx hb hr (fun t ht hW => ⟨⟨(-1), (), rfl, Or.inr ⟨rfl, fun j hj => hz j (by omega)⟩, by rw [ht]; exact hP, va_K.moved hW.alike hK, hD⟩, hS.F ht⟩) hS.2.2 dX0_columnThatSaves_35
      · exact absurd (nI_le (by omega) (by omega)) c1
    | succ d ih =>
      intro k ls hk hz hl
      refine lv_iload_n hx hb dX0_columnThatSaves_2 rfl (lv_at hl 0 rfl) ?_
      refine lv_aload_n hx hb dX0_columnThatSaves_3 rfl (lv_at hl 1 rfl) ?_
      refine va_get (D := (dC, dI)) (ci := 0) (v := .int (nI nw)) (C := RX0) (T := TX0) (N := 7) hx hb hts (fun _ h => List.mem_cons_of_mem _ (List.mem_append_right _ h)) hown hK hP 0 rfl rfl 3 (by decide) (hts (.fieldLink RX0 24 "RankFinder$Weighing" "weights" "I") (List.mem_of_getElem? (i := 1) rfl)) (fun _ h9 => h9) rfl dX0_columnThatSaves_4 ?_
      refine lv_icmp_ge (tgt := 34) hx hb dX0_columnThatSaves_7 (by decide) (fun c1 => ?_) (fun c1 => ?_)
      · exact absurd c1 (nI_ge (by omega) (by omega))
      · refine lv_aload_n hx hb dX0_columnThatSaves_10 rfl (lv_at hl 1 rfl) ?_
        refine va_get (D := (dC, dI)) (ci := 0) (v := .ref qc) (C := RX0) (T := TX0) (N := 7) hx hb hts (fun _ h => List.mem_cons_of_mem _ (List.mem_append_right _ h)) hown hK hP 0 rfl rfl 0 (by decide) (hts (.fieldLink RX0 13 "RankFinder$Weighing" "cell" "[[J") (List.mem_of_getElem? (i := 2) rfl)) (fun _ h9 => h9) rfl dX0_columnThatSaves_11 ?_
        refine lv_aload_n hx hb dX0_columnThatSaves_14 rfl (lv_at hl 1 rfl) ?_
        refine va_get (D := (dC, dI)) (ci := 0) (v := .int (nI me)) (C := RX0) (T := TX0) (N := 7) hx hb hts (fun _ h => List.mem_cons_of_mem _ (List.mem_append_right _ h)) hown hK hP 0 rfl rfl 2 (by decide) (hts (.fieldLink RX0 20 "RankFinder$Weighing" "equations" "I") (List.mem_of_getElem? (i := 3) rfl)) (fun _ h9 => h9) rfl dX0_columnThatSaves_15 ?_
        refine na_aald (y := r me) hx hb hK hP 1 0 rfl rfl hm (by decide) (if_pos hm) dX0_columnThatSaves_18 ?_
        refine lv_iload_n hx hb dX0_columnThatSaves_19 rfl (lv_at hl 0 rfl) ?_
        refine na_lald hx hb hK hP (3 + me) 2 (gG_get hm rfl) rfl (show k < 17 by omega) (by decide) dX0_columnThatSaves_20 ?_
        refine lv_lconst (v := 0) hx hb dX0_columnThatSaves_21 (by decide) ?_
        refine W.lcmp hx hb dX0_columnThatSaves_22 ?_
        refine lv_if_ge (tgt := 28) hx hb dX0_columnThatSaves_23 (by decide) (fun c2 => ?_) (fun c2 => ?_)
        · rw [lg_cmp_ge] at c2
          refine lv_iinc (v := nI (k + 1)) (lv' := [(1, .int (nI (k + 1))), (0, .ref h0)]) hx hb dX0_columnThatSaves_28 hl (k := 0) rfl (nI_1 _) (by decide) rfl (fun ls hl => ?_)
          refine lv_goto (tgt := 2) hx hb dX0_columnThatSaves_31 (by decide) ?_
          exact ih (k + 1) ls (by omega) (fun j hj => by
            by_cases e9 : j = k
            · subst e9; exact Int64.not_lt.mpr c2
            · exact hz j (by omega)) (lv_sub hl [0, 1] rfl)
        · rw [lg_cmp_ge] at c2
          refine lv_iload_n hx hb dX0_columnThatSaves_26 rfl (lv_at hl 0 rfl) ?_
          exact W.iret (v := (nI k)) hx hb hr (fun t ht hW => ⟨⟨(nI k), (), rfl, Or.inl ⟨k, by omega, rfl, Int64.not_le.mp c2, hz⟩, by rw [ht]; exact hP, va_K.moved hW.alike hK, hD⟩, hS.F ht⟩) hS.2.2 dX0_columnThatSaves_27
  exact loop nw 0 ls (by omega) (fun j hj => by omega) hl
set_option maxHeartbeats 4000000 in
set_option maxRecDepth 100000 in
/-- holdsLess(i, best) -/
theorem c_X0_holdsLess (l : Launch) (dC : Nat → ClassId) (dI : Nat → Nat → Nat) (h0 qc qh : Nat) (r : Nat → Nat) (cA cI cJ : ClassId) (sz : Nat) (me nw : Nat) (u : Int64) (tw : Int32) (iv : Int64) (hd : Nat → Int32) (M : Nat → Nat → Int64) (i : Nat) (bst : Int32) (hi : i < 9) (hbs : bst = -1 ∨ ∃ b, b < 9 ∧ bst = nI b) : Met l yX0_holdsLess wsX0_holdsLess ({ frames := 0, cells := 0, slots := 0, locals := 0 }) (va_Pc [.ref h0, .int (nI i), .int bst] (fun U => U.heap.size = sz ∧ va_P (dC, dI) vwCl (wgW h0 qc qh r cA cI cJ me nw u tw iv hd M) U.heap ∧ va_K (dC, dI) vwCl (wgT cA cI cJ) U ∧ va_D (fun _ => True) (wgW h0 qc qh r cA cI cJ me nw u tw iv hd M))) (va_Qi (fun (x : Int32) (v : Unit) => (x = 1 ∧ hd i ≠ -1 ∧ (bst = -1 ∨ ∃ b, b < 9 ∧ bst = nI b ∧ hd i < hd b)) ∨ (x = 0 ∧ (hd i = -1 ∨ ∃ b, b < 9 ∧ bst = nI b ∧ ¬ hd i < hd b))) (fun v t => va_P (dC, dI) vwCl (wgW h0 qc qh r cA cI cJ me nw u tw iv hd M) t.heap ∧ va_K (dC, dI) vwCl (wgT cA cI cJ) t ∧ va_D (va_A (wgW h0 qc qh r cA cI cJ me nw u tw iv hd M) sz) (wgW h0 qc qh r cA cI cJ me nw u tw iv hd M)) (va_A (wgW h0 qc qh r cA cI cJ me nw u tw iv hd M) sz)) 0 0 (va_A (wgW h0 qc qh r cA cI cJ me nw u tw iv hd M) sz) := by
  refine Met.ofW (cc := cX0_holdsLess) (maxL := 3) (ret := (some .boolean)) (by decide) rfl ?_
  intro p e s m args below meth c s₁ B hml hv
  obtain ⟨rfl, hsz, hP, hK, hD0⟩ := hv
  have hx := B.exec
  have hb := B.bytes
  have hr := B.returns
  have hts := atoms_spec (ws := wsX0_holdsLess) B.pre
  have hown : s.vm.findClass RX0 = some m.cls := findClass_of_methodNamed B.named
  subst hsz
  have hD := hD0.self (sz := s.heap.size)
  clear hD0
  generalize hAe : va_A (wgW h0 qc qh r cA cI cJ me nw u tw iv hd M) s.heap.size = A at hD ⊢
  have hA : ∀ q : Nat, s.heap.size ≤ q → A q := fun q h => by rw [← hAe]; exact Or.inr h
  have hl := lv_entry ([.ref h0, .int (nI i), .int bst]) (n := 3) (Nat.le_of_ble_eq_true rfl)
  rw [lg_entry_eq]
  generalize (lg_sl ([.ref h0, .int (nI i), .int bst]) ++ List.replicate (3 - (lg_sl ([.ref h0, .int (nI i), .int bst])).length) Slot.unset).toArray = ls at hl ⊢
  have hl : lv_has ls 3 [(0, .ref h0), (1, .int (nI i)), (2, .int bst)] := hl
  have hP : va_P (dC, dI) vwCl (wgW h0 qc qh r cA cI cJ me nw u tw iv hd M) s.heap := hP
  obtain ⟨H, hH⟩ : ∃ H, H = s.heap := ⟨_, rfl⟩
  have hS : va_S A s.heap H [] := by rw [hH]; exact va_S.rf
  rw [← hH] at hP ⊢
  refine lv_aload_n hx hb dX0_holdsLess_0 rfl (lv_at hl 0 rfl) ?_
  refine va_get (D := (dC, dI)) (ci := 0) (v := .ref qh) (C := RX0) (T := TX0) (N := 7) hx hb hts (fun _ h => List.mem_cons_of_mem _ (List.mem_append_right _ h)) hown hK hP 0 rfl rfl 1 (by decide) (hts (.fieldLink RX0 16 "RankFinder$Weighing" "held" "[I") (List.mem_of_getElem? (i := 1) rfl)) (fun _ h9 => h9) rfl dX0_holdsLess_1 ?_
  refine lv_iload_n hx hb dX0_holdsLess_4 rfl (lv_at hl 1 rfl) ?_
  refine na_iald hx hb hK hP 2 1 rfl rfl hi (by decide) dX0_holdsLess_5 ?_
  refine lv_iconst (v := (-1)) hx hb dX0_holdsLess_6 (by decide) ?_
  refine lv_icmp_eq (tgt := 34) hx hb dX0_holdsLess_7 (by decide) (fun c1 => ?_) (fun c1 => ?_)
  · refine lv_iconst (v := nI 0) hx hb dX0_holdsLess_34 (by decide) ?_
    exact W.zret (v := (nI 0)) hx hb hr (by rfl) (fun t ht hW => ⟨⟨(nI 0), (), rfl, Or.inr ⟨rfl, Or.inl c1⟩, by rw [ht]; exact hP, va_K.moved hW.alike hK, hD⟩, hS.F ht⟩) hS.2.2 dX0_holdsLess_35
  · refine lv_iload_n hx hb dX0_holdsLess_10 rfl (lv_at hl 2 rfl) ?_
    refine lv_iconst (v := (-1)) hx hb dX0_holdsLess_11 (by decide) ?_
    refine lv_icmp_eq (tgt := 30) hx hb dX0_holdsLess_12 (by decide) (fun c2 => ?_) (fun c2 => ?_)
    · refine lv_iconst (v := nI 1) hx hb dX0_holdsLess_30 (by decide) ?_
      refine lv_goto (tgt := 35) hx hb dX0_holdsLess_31 (by decide) ?_
      exact W.zret (v := (nI 1)) hx hb hr (by rfl) (fun t ht hW => ⟨⟨(nI 1), (), rfl, Or.inl ⟨rfl, c1, Or.inl c2⟩, by rw [ht]; exact hP, va_K.moved hW.alike hK, hD⟩, hS.F ht⟩) hS.2.2 dX0_holdsLess_35
    · obtain ⟨b, hb9, rfl⟩ : ∃ b, b < 9 ∧ bst = nI b := hbs.resolve_left c2
      refine lv_aload_n hx hb dX0_holdsLess_15 rfl (lv_at hl 0 rfl) ?_
      refine va_get (D := (dC, dI)) (ci := 0) (v := .ref qh) (C := RX0) (T := TX0) (N := 7) hx hb hts (fun _ h => List.mem_cons_of_mem _ (List.mem_append_right _ h)) hown hK hP 0 rfl rfl 1 (by decide) (hts (.fieldLink RX0 16 "RankFinder$Weighing" "held" "[I") (List.mem_of_getElem? (i := 1) rfl)) (fun _ h9 => h9) rfl dX0_holdsLess_16 ?_
      refine lv_iload_n hx hb dX0_holdsLess_19 rfl (lv_at hl 1 rfl) ?_
      refine na_iald hx hb hK hP 2 1 rfl rfl hi (by decide) dX0_holdsLess_20 ?_
      refine lv_aload_n hx hb dX0_holdsLess_21 rfl (lv_at hl 0 rfl) ?_
      refine va_get (D := (dC, dI)) (ci := 0) (v := .ref qh) (C := RX0) (T := TX0) (N := 7) hx hb hts (fun _ h => List.mem_cons_of_mem _ (List.mem_append_right _ h)) hown hK hP 0 rfl rfl 1 (by decide) (hts (.fieldLink RX0 16 "RankFinder$Weighing" "held" "[I") (List.mem_of_getElem? (i := 1) rfl)) (fun _ h9 => h9) rfl dX0_holdsLess_22 ?_
      refine lv_iload_n hx hb dX0_holdsLess_25 rfl (lv_at hl 2 rfl) ?_
      refine na_iald hx hb hK hP 2 1 rfl rfl hb9 (by decide) dX0_holdsLess_26 ?_
      refine lv_icmp_ge (tgt := 34) hx hb dX0_holdsLess_27 (by decide) (fun c3 => ?_) (fun c3 => ?_)
      · refine lv_iconst (v := nI 0) hx hb dX0_holdsLess_34 (by decide) ?_
        exact W.zret (v := (nI 0)) hx hb hr (by rfl) (fun t ht hW => ⟨⟨(nI 0), (), rfl, Or.inr ⟨rfl, Or.inr ⟨b, hb9, rfl, Int32.not_lt.mpr c3⟩⟩, by rw [ht]; exact hP, va_K.moved hW.alike hK, hD⟩, hS.F ht⟩) hS.2.2 dX0_holdsLess_35
      · refine lv_iconst (v := nI 1) hx hb dX0_holdsLess_30 (by decide) ?_
        refine lv_goto (tgt := 35) hx hb dX0_holdsLess_31 (by decide) ?_
        exact W.zret (v := (nI 1)) hx hb hr (by rfl) (fun t ht hW => ⟨⟨(nI 1), (), rfl, Or.inl ⟨rfl, c1, Or.inr ⟨b, hb9, rfl, Int32.not_le.mp c3⟩⟩, by rw [ht]; exact hP, va_K.moved hW.alike hK, hD⟩, hS.F ht⟩) hS.2.2 dX0_holdsLess_35
set_option maxHeartbeats 4000000 in
set_option maxRecDepth 100000 in
/-- rowThatLimits(cl) -/
theorem c_X0_rowThatLimits (l : Launch) (dC : Nat → ClassId) (dI : Nat → Nat → Nat) (h0 qc qh : Nat) (r : Nat → Nat) (cA cI cJ : ClassId) (sz : Nat) (me nw : Nat) (u : Int64) (tw : Int32) (iv : Int64) (hd : Nat → Int32) (M : Nat → Nat → Int64) (cl : Nat) (hm : me < 10) (hn : nw < 17) (hc : cl < nw) : Met l yX0_rowThatLimits wsX0_rowThatLimits ({ frames := 1, cells := 0, slots := 0, locals := 22 }) (va_Pc [.ref h0, .int (nI cl)] (fun U => U.heap.size = sz ∧ va_P (dC, dI) vwCl (wgW h0 qc qh r cA cI cJ me nw u tw iv hd M) U.heap ∧ va_K (dC, dI) vwCl (wgT cA cI cJ) U ∧ va_D (fun _ => True) (wgW h0 qc qh r cA cI cJ me nw u tw iv hd M))) (va_Qi (fun (x : Int32) (v : Unit) => (x = -1 ∧ ∀ i, i < me → 0 < M i cl → hd i = -1) ∨ (∃ b, b < me ∧ x = nI b ∧ 0 < M b cl ∧ hd b ≠ -1 ∧ ∀ i, i < me → 0 < M i cl → hd i ≠ -1 → ¬ hd i < hd b)) (fun v t => va_P (dC, dI) vwCl (wgW h0 qc qh r cA cI cJ me nw u tw iv hd M) t.heap ∧ va_K (dC, dI) vwCl (wgT cA cI cJ) t ∧ va_D (va_A (wgW h0 qc qh r cA cI cJ me nw u tw iv hd M) sz) (wgW h0 qc qh r cA cI cJ me nw u tw iv hd M)) (va_A (wgW h0 qc qh r cA cI cJ me nw u tw iv hd M) sz)) 0 0 (va_A (wgW h0 qc qh r cA cI cJ me nw u tw iv hd M) sz) := by
  refine Met.ofW (cc := cX0_rowThatLimits) (maxL := 4) (ret := (some .int)) (by decide) rfl ?_
  intro p e s m args below meth c s₁ B hml hv
  obtain ⟨rfl, hsz, hP, hK, hD0⟩ := hv
  have hx := B.exec
  have hb := B.bytes
  have hr := B.returns
  have hts := atoms_spec (ws := wsX0_rowThatLimits) B.pre
  have hown : s.vm.findClass RX0 = some m.cls := findClass_of_methodNamed B.named
  subst hsz
  have hD := hD0.self (sz := s.heap.size)
  clear hD0
  generalize hAe : va_A (wgW h0 qc qh r cA cI cJ me nw u tw iv hd M) s.heap.size = A at hD ⊢
  have hA : ∀ q : Nat, s.heap.size ≤ q → A q := fun q h => by rw [← hAe]; exact Or.inr h
  have hl := lv_entry ([.ref h0, .int (nI cl)]) (n := 4) (Nat.le_of_ble_eq_true rfl)
  rw [lg_entry_eq]
  generalize (lg_sl ([.ref h0, .int (nI cl)]) ++ List.replicate (4 - (lg_sl ([.ref h0, .int (nI cl)])).length) Slot.unset).toArray = ls at hl ⊢
  have hl : lv_has ls 4 [(0, .ref h0), (1, .int (nI cl))] := hl
  have hP : va_P (dC, dI) vwCl (wgW h0 qc qh r cA cI cJ me nw u tw iv hd M) s.heap := hP
  obtain ⟨H, hH⟩ : ∃ H, H = s.heap := ⟨_, rfl⟩
  have hS : va_S A s.heap H [] := by rw [hH]; exact va_S.rf
  rw [← hH] at hP ⊢
  refine lv_iconst (v := (-1)) hx hb dX0_rowThatLimits_0 (by decide) ?_
  refine lv_istore_n (lv' := [(2, .int (-1)), (0, .ref h0), (1, .int (nI cl))]) hx hb dX0_rowThatLimits_1 rfl hl (by decide) rfl (fun ls hl => ?_)
  refine lv_iconst (v := nI 0) hx hb dX0_rowThatLimits_2 (by decide) ?_
  refine lv_istore_n (lv' := [(3, .int (nI 0)), (2, .int (-1)), (0, .ref h0), (1, .int (nI cl))]) hx hb dX0_rowThatLimits_3 rfl hl (by decide) rfl (fun ls hl => ?_)
  have loop : ∀ (d k : Nat) (bst : Int32) (H : Heap) (locs : List Loc) (ls : Array Slot), k + d = me → ((bst = -1 ∧ ∀ i, i < k → 0 < M i cl → hd i = -1) ∨ (∃ b, b < k ∧ bst = nI b ∧ 0 < M b cl ∧ hd b ≠ -1 ∧ ∀ i, i < k → 0 < M i cl → hd i ≠ -1 → ¬ hd i < hd b)) → va_P (dC, dI) vwCl (wgW h0 qc qh r cA cI cJ me nw u tw iv hd M) H → va_K (dC, dI) vwCl (wgT cA cI cJ) s → va_D A (wgW h0 qc qh r cA cI cJ me nw u tw iv hd M) → va_S A s.heap H locs → lv_has ls 4 [(3, .int (nI k)), (2, .int bst), (0, .ref h0), (1, .int (nI cl))] → W p l e (headSpec wsX0_rowThatLimits ({ frames := 1, cells := 0, slots := 0, locals := 22 })).room s m #[.ref h0, .int (nI cl)] below meth c H locs 0 0 (MQ below (va_Qi (fun (x : Int32) (v : Unit) => (x = -1 ∧ ∀ i, i < me → 0 < M i cl → hd i = -1) ∨ (∃ b, b < me ∧ x = nI b ∧ 0 < M b cl ∧ hd b ≠ -1 ∧ ∀ i, i < me → 0 < M i cl → hd i ≠ -1 → ¬ hd i < hd b)) (fun v t => va_P (dC, dI) vwCl (wgW h0 qc qh r cA cI cJ me nw u tw iv hd M) t.heap ∧ va_K (dC, dI) vwCl (wgT cA cI cJ) t ∧ va_D A (wgW h0 qc qh r cA cI cJ me nw u tw iv hd M)) A) #[.ref h0, .int (nI cl)] s 0 0 A) (F0 m 4 ls []) := by
    intro d
    induction d with
    | zero =>
      intro k bst H locs ls hk hz hP hK hD hS hl
      refine lv_iload_n hx hb dX0_rowThatLimits_4 rfl (lv_at hl 0 rfl) ?_
      refine lv_aload_n hx hb dX0_rowThatLimits_5 rfl (lv_at hl 2 rfl) ?_
      refine va_get (D := (dC, dI)) (ci := 0) (v := .int (nI me)) (C := RX0) (T := TX0) (N := 7) hx hb hts (fun _ h => List.mem_cons_of_mem _ (List.mem_append_right _ h)) hown hK hP 0 rfl rfl 2 (by decide) (hts (.fieldLink RX0 20 "RankFinder$Weighing" "equations" "I") (List.mem_of_getElem? (i := 1) rfl)) (fun _ h9 => h9) rfl dX0_rowThatLimits_6 ?_
      refine lv_icmp_ge (tgt := 42) hx hb dX0_rowThatLimits_9 (by decide) (fun c1 => ?_) (fun c1 => ?_)
      · refine lv_iload_n hx hb dX0_rowThatLimits_42 rfl (lv_at hl 1 rfl) ?_
        obtain rfl : k = me := by omega
        exact W.iret (v := bst) hx hb hr (fun t ht hW => ⟨⟨bst, (), rfl, hz, by rw [ht]; exact hP, va_K.moved hW.alike hK, hD⟩, hS.F ht⟩) hS.2.2 dX0_rowThatLimits_43
      · exact absurd (nI_le (by omega) (by omega)) c1
    | succ d ih =>
      intro k bst H locs ls hk hz hP hK hD hS hl
      refine lv_iload_n hx hb dX0_rowThatLimits_4 rfl (lv_at hl 0 rfl) ?_
      refine lv_aload_n hx hb dX0_rowThatLimits_5 rfl (lv_at hl 2 rfl) ?_
      refine va_get (D := (dC, dI)) (ci := 0) (v := .int (nI me)) (C := RX0) (T := TX0) (N := 7) hx hb hts (fun _ h => List.mem_cons_of_mem _ (List.mem_append_right _ h)) hown hK hP 0 rfl rfl 2 (by decide) (hts (.fieldLink RX0 20 "RankFinder$Weighing" "equations" "I") (List.mem_of_getElem? (i := 1) rfl)) (fun _ h9 => h9) rfl dX0_rowThatLimits_6 ?_
      refine lv_icmp_ge (tgt := 42) hx hb dX0_rowThatLimits_9 (by decide) (fun c1 => ?_) (fun c1 => ?_)
      · exact absurd c1 (nI_ge (by omega) (by omega))
      · refine lv_aload_n hx hb dX0_rowThatLimits_12 rfl (lv_at hl 2 rfl) ?_
        refine va_get (D := (dC, dI)) (ci := 0) (v := .ref qc) (C := RX0) (T := TX0) (N := 7) hx hb hts (fun _ h => List.mem_cons_of_mem _ (List.mem_append_right _ h)) hown hK hP 0 rfl rfl 0 (by decide) (hts (.fieldLink RX0 13 "RankFinder$Weighing" "cell" "[[J") (List.mem_of_getElem? (i := 2) rfl)) (fun _ h9 => h9) rfl dX0_rowThatLimits_13 ?_
        refine lv_iload_n hx hb dX0_rowThatLimits_16 rfl (lv_at hl 0 rfl) ?_
        refine na_aald (y := r k) hx hb hK hP 1 0 rfl rfl (show k < 10 by omega) (by decide) (if_pos (show k < 10 by omega)) dX0_rowThatLimits_17 ?_
        refine lv_iload_n hx hb dX0_rowThatLimits_18 rfl (lv_at hl 3 rfl) ?_
        refine na_lald hx hb hK hP (3 + k) 2 (gG_get (show k < 10 by omega) rfl) rfl (show cl < 17 by omega) (by decide) dX0_rowThatLimits_19 ?_
        refine lv_lconst (v := 0) hx hb dX0_rowThatLimits_20 (by decide) ?_
        refine W.lcmp hx hb dX0_rowThatLimits_21 ?_
        refine lv_if_le (tgt := 36) hx hb dX0_rowThatLimits_22 (by decide) (fun c2 => ?_) (fun c2 => ?_)
        · rw [lg_cmp_le] at c2
          replace c2 := Int64.not_lt.mpr c2
          refine lv_iinc (v := nI (k + 1)) (lv' := [(3, .int (nI (k + 1))), (2, .int bst), (0, .ref h0), (1, .int (nI cl))]) hx hb dX0_rowThatLimits_36 hl (k := 0) rfl (nI_1 _) (by decide) rfl (fun ls hl => ?_)
          refine lv_goto (tgt := 4) hx hb dX0_rowThatLimits_39 (by decide) ?_
          exact ih (k + 1) bst H _ ls (by omega) (by
            rcases hz with ⟨h1, h2⟩ | ⟨b, h1, h2, h3, h4, h5⟩
            · exact Or.inl ⟨h1, fun i hi q => by
                by_cases e9 : i = k
                · subst e9; exact absurd q c2
                · exact h2 i (by omega) q⟩
            · exact Or.inr ⟨b, by omega, h2, h3, h4, fun i hi q q2 => by
                by_cases e9 : i = k
                · subst e9; exact absurd q c2
                · exact h5 i (by omega) q q2⟩) hP hK hD hS (lv_sub hl [0, 1, 2, 3] rfl)
        · rw [lg_cmp_le] at c2
          replace c2 := Int64.not_le.mp c2
          have hbs : bst = -1 ∨ ∃ b, b < 9 ∧ bst = nI b := by
            rcases hz with ⟨h1, _⟩ | ⟨b, h1, h2, _⟩
            · exact Or.inl h1
            · exact Or.inr ⟨b, by omega, h2⟩
          refine lv_aload_n hx hb dX0_rowThatLimits_25 rfl (lv_at hl 2 rfl) ?_
          refine lv_iload_n hx hb dX0_rowThatLimits_26 rfl (lv_at hl 0 rfl) ?_
          refine lv_iload_n hx hb dX0_rowThatLimits_27 rfl (lv_at hl 1 rfl) ?_
          have hFc : ∀ q, va_A (wgW h0 qc qh r cA cI cJ me nw u tw iv hd M) H.size q → A q := va_fall hD hS hA
          refine va_calli (va_runV (As := [.int (nI k), .int bst]) (rest := []) ⟨hx, hb, hml, hown, hts⟩ (c_X0_holdsLess l dC dI h0 qc qh r cA cI cJ H.size me nw u tw iv hd M k bst (by omega) hbs) (cwV 2 hts gX0_rowThatLimits_X0_holdsLess rfl rfl rfl (by decide +kernel) ⟨Nat.le_of_ble_eq_true rfl, Nat.le_of_ble_eq_true rfl⟩) ⟨fun a U g mk q => by obtain ⟨q0, q1, qP, qK, qD⟩ := q; exact ⟨q0, q1, qP, va_K.moved (u := U) (U := U.calling g mk a) (Vm.Alike.refl U.vm) qK, qD⟩, va_recv hK hP (ci := 0) (q0 := 0) rfl rfl, fun U hU hW => ⟨rfl, by rw [hU], by rw [hU]; exact hP, va_K.moved hW.alike hK, hD.weaken (fun _ _ _ _ => trivial)⟩⟩ rfl rfl hl.1 rfl (lv_room (Nat.le_of_ble_eq_true rfl)) dX0_rowThatLimits_28 ⟨(Nat.zero_le _), (Nat.zero_le _)⟩) hS (fun q _ h => hFc q h) hFc (fun r_28 u t H1 locs ht hvm hw hB hz1 hk1 hS => ?_)
          obtain ⟨hP1, hK1, hD1⟩ := hB
          rw [ht] at hP1
          clear hP hD hK
          have hK := va_K.moved hvm.symm hK1
          have hP := hP1
          have hD := hD1.weaken (B := A) (fun _ q _ h => hFc q.1 h)
          clear hP1 hD1 hK1 hFc hk1 hz1 ht hvm
          generalize H1 = H at hP hS ⊢
          refine lv_if_eq (tgt := 36) hx hb dX0_rowThatLimits_31 (by decide) (fun c3 => ?_) (fun c3 => ?_)
          · rcases hw with ⟨q, _⟩ | ⟨q, hq⟩
            · rw [q] at c3; exact absurd c3 (by decide)
            · refine lv_iinc (v := nI (k + 1)) (lv' := [(3, .int (nI (k + 1))), (2, .int bst), (0, .ref h0), (1, .int (nI cl))]) hx hb dX0_rowThatLimits_36 hl (k := 0) rfl (nI_1 _) (by decide) rfl (fun ls hl => ?_)
              refine lv_goto (tgt := 4) hx hb dX0_rowThatLimits_39 (by decide) ?_
              exact ih (k + 1) bst H _ ls (by omega) (by
                rcases hz with ⟨h1, h2⟩ | ⟨b, h1, h2, h3, h4, h5⟩
                · exact Or.inl ⟨h1, fun i hi q => by
                    by_cases e9 : i = k
                    · subst e9; rcases hq with q5 | ⟨b, q5, q6, q7⟩
                      · exact q5
                      · rw [h1] at q6; exact absurd q6.symm (nI_m1 (by omega))
                    · exact h2 i (by omega) q⟩
                · exact Or.inr ⟨b, by omega, h2, h3, h4, fun i hi q q2 => by
                    by_cases e9 : i = k
                    · subst e9; rcases hq with q5 | ⟨b', q5, q6, q7⟩
                      · exact absurd q5 q2
                      · rw [h2] at q6
                        rw [nI_inj (by omega) (by omega) q6]; exact q7
                    · exact h5 i (by omega) q q2⟩) hP hK hD hS (lv_sub hl [0, 1, 2, 3] rfl)
          · rcases hw with ⟨q, hq1, hq2⟩ | ⟨q, hq⟩
            rotate_left
            · rw [q] at c3; exact absurd rfl c3
            refine lv_iload_n hx hb dX0_rowThatLimits_34 rfl (lv_at hl 0 rfl) ?_
            refine lv_istore_n (lv' := [(2, .int (nI k)), (3, .int (nI k)), (0, .ref h0), (1, .int (nI cl))]) hx hb dX0_rowThatLimits_35 rfl hl (by decide) rfl (fun ls hl => ?_)
            refine lv_iinc (v := nI (k + 1)) (lv' := [(3, .int (nI (k + 1))), (2, .int (nI k)), (0, .ref h0), (1, .int (nI cl))]) hx hb dX0_rowThatLimits_36 hl (k := 1) rfl (nI_1 _) (by decide) rfl (fun ls hl => ?_)
            refine lv_goto (tgt := 4) hx hb dX0_rowThatLimits_39 (by decide) ?_
            exact ih (k + 1) (nI k) H _ ls (by omega) (by
              refine Or.inr ⟨k, by omega, rfl, c2, hq1, fun i hi q5 q6 => ?_⟩
              by_cases e9 : i = k
              · subst e9; exact i32_irr
              · rcases hz with ⟨h1, h2⟩ | ⟨b, h1, h2, h3, h4, h5⟩
                · exact absurd (h2 i (by omega) q5) q6
                · rcases hq2 with q7 | ⟨b', q7, q8, q9⟩
                  · rw [h2] at q7; exact absurd q7 (nI_m1 (by omega))
                  · rw [h2] at q8
                    have := nI_inj (by omega) (by omega) q8
                    subst this
                    exact i32_lt_tr (h5 i (by omega) q5 q6) q9) hP hK hD hS (lv_sub hl [0, 1, 2, 3] rfl)
  exact loop me 0 (-1) H [] ls (by omega) (Or.inl ⟨rfl, fun i hi => by omega⟩) hP hK hD hS (lv_sub hl [0, 1, 2, 3] rfl)
set_option maxHeartbeats 4000000 in
set_option maxRecDepth 100000 in
/-- rowBelowZero() -/
theorem c_X0_rowBelowZero (l : Launch) (dC : Nat → ClassId) (dI : Nat → Nat → Nat) (h0 qc qh : Nat) (r : Nat → Nat) (cA cI cJ : ClassId) (sz : Nat) (me nw : Nat) (u : Int64) (tw : Int32) (iv : Int64) (hd : Nat → Int32) (M : Nat → Nat → Int64) (hm : me < 10) (hn : nw < 17) : Met l yX0_rowBelowZero wsX0_rowBelowZero ({ frames := 1, cells := 0, slots := 0, locals := 22 }) (va_Pc [.ref h0] (fun U => U.heap.size = sz ∧ va_P (dC, dI) vwCl (wgW h0 qc qh r cA cI cJ me nw u tw iv hd M) U.heap ∧ va_K (dC, dI) vwCl (wgT cA cI cJ) U ∧ va_D (fun _ => True) (wgW h0 qc qh r cA cI cJ me nw u tw iv hd M))) (va_Qi (fun (x : Int32) (v : Unit) => (x = -1 ∧ ∀ i, i < me → M i nw < 0 → hd i = -1) ∨ (∃ b, b < me ∧ x = nI b ∧ M b nw < 0 ∧ hd b ≠ -1 ∧ ∀ i, i < me → M i nw < 0 → hd i ≠ -1 → ¬ hd i < hd b)) (fun v t => va_P (dC, dI) vwCl (wgW h0 qc qh r cA cI cJ me nw u tw iv hd M) t.heap ∧ va_K (dC, dI) vwCl (wgT cA cI cJ) t ∧ va_D (va_A (wgW h0 qc qh r cA cI cJ me nw u tw iv hd M) sz) (wgW h0 qc qh r cA cI cJ me nw u tw iv hd M)) (va_A (wgW h0 qc qh r cA cI cJ me nw u tw iv hd M) sz)) 0 0 (va_A (wgW h0 qc qh r cA cI cJ me nw u tw iv hd M) sz) := by
  refine Met.ofW (cc := cX0_rowBelowZero) (maxL := 3) (ret := (some .int)) (by decide) rfl ?_
  intro p e s m args below meth c s₁ B hml hv
  obtain ⟨rfl, hsz, hP, hK, hD0⟩ := hv
  have hx := B.exec
  have hb := B.bytes
  have hr := B.returns
  have hts := atoms_spec (ws := wsX0_rowBelowZero) B.pre
  have hown : s.vm.findClass RX0 = some m.cls := findClass_of_methodNamed B.named
  subst hsz
  have hD := hD0.self (sz := s.heap.size)
  clear hD0
  generalize hAe : va_A (wgW h0 qc qh r cA cI cJ me nw u tw iv hd M) s.heap.size = A at hD ⊢
  have hA : ∀ q : Nat, s.heap.size ≤ q → A q := fun q h => by rw [← hAe]; exact Or.inr h
  have hl := lv_entry ([.ref h0]) (n := 3) (Nat.le_of_ble_eq_true rfl)
  rw [lg_entry_eq]
  generalize (lg_sl ([.ref h0]) ++ List.replicate (3 - (lg_sl ([.ref h0])).length) Slot.unset).toArray = ls at hl ⊢
  have hl : lv_has ls 3 [(0, .ref h0)] := hl
  have hP : va_P (dC, dI) vwCl (wgW h0 qc qh r cA cI cJ me nw u tw iv hd M) s.heap := hP
  obtain ⟨H, hH⟩ : ∃ H, H = s.heap := ⟨_, rfl⟩
  have hS : va_S A s.heap H [] := by rw [hH]; exact va_S.rf
  rw [← hH] at hP ⊢
  refine lv_iconst (v := (-1)) hx hb dX0_rowBelowZero_0 (by decide) ?_
  refine lv_istore_n (lv' := [(1, .int (-1)), (0, .ref h0)]) hx hb dX0_rowBelowZero_1 rfl hl (by decide) rfl (fun ls hl => ?_)
  refine lv_iconst (v := nI 0) hx hb dX0_rowBelowZero_2 (by decide) ?_
  refine lv_istore_n (lv' := [(2, .int (nI 0)), (1, .int (-1)), (0, .ref h0)]) hx hb dX0_rowBelowZero_3 rfl hl (by decide) rfl (fun ls hl => ?_)
  have loop : ∀ (d k : Nat) (bst : Int32) (H : Heap) (locs : List Loc) (ls : Array Slot), k + d = me → ((bst = -1 ∧ ∀ i, i < k → M i nw < 0 → hd i = -1) ∨ (∃ b, b < k ∧ bst = nI b ∧ M b nw < 0 ∧ hd b ≠ -1 ∧ ∀ i, i < k → M i nw < 0 → hd i ≠ -1 → ¬ hd i < hd b)) → va_P (dC, dI) vwCl (wgW h0 qc qh r cA cI cJ me nw u tw iv hd M) H → va_K (dC, dI) vwCl (wgT cA cI cJ) s → va_D A (wgW h0 qc qh r cA cI cJ me nw u tw iv hd M) → va_S A s.heap H locs → lv_has ls 3 [(2, .int (nI k)), (1, .int bst), (0, .ref h0)] → W p l e (headSpec wsX0_rowBelowZero ({ frames := 1, cells := 0, slots := 0, locals := 22 })).room s m #[.ref h0] below meth c H locs 0 0 (MQ below (va_Qi (fun (x : Int32) (v : Unit) => (x = -1 ∧ ∀ i, i < me → M i nw < 0 → hd i = -1) ∨ (∃ b, b < me ∧ x = nI b ∧ M b nw < 0 ∧ hd b ≠ -1 ∧ ∀ i, i < me → M i nw < 0 → hd i ≠ -1 → ¬ hd i < hd b)) (fun v t => va_P (dC, dI) vwCl (wgW h0 qc qh r cA cI cJ me nw u tw iv hd M) t.heap ∧ va_K (dC, dI) vwCl (wgT cA cI cJ) t ∧ va_D A (wgW h0 qc qh r cA cI cJ me nw u tw iv hd M)) A) #[.ref h0] s 0 0 A) (F0 m 4 ls []) := by
    intro d
    induction d with
    | zero =>
      intro k bst H locs ls hk hz hP hK hD hS hl
      refine lv_iload_n hx hb dX0_rowBelowZero_4 rfl (lv_at hl 0 rfl) ?_
      refine lv_aload_n hx hb dX0_rowBelowZero_5 rfl (lv_at hl 2 rfl) ?_
      refine va_get (D := (dC, dI)) (ci := 0) (v := .int (nI me)) (C := RX0) (T := TX0) (N := 7) hx hb hts (fun _ h => List.mem_cons_of_mem _ (List.mem_append_right _ h)) hown hK hP 0 rfl rfl 2 (by decide) (hts (.fieldLink RX0 20 "RankFinder$Weighing" "equations" "I") (List.mem_of_getElem? (i := 1) rfl)) (fun _ h9 => h9) rfl dX0_rowBelowZero_6 ?_
      refine lv_icmp_ge (tgt := 45) hx hb dX0_rowBelowZero_9 (by decide) (fun c1 => ?_) (fun c1 => ?_)
      · refine lv_iload_n hx hb dX0_rowBelowZero_45 rfl (lv_at hl 1 rfl) ?_
        obtain rfl : k = me := by omega
        exact W.iret (v := bst) hx hb hr (fun t ht hW => ⟨⟨bst, (), rfl, hz, by rw [ht]; exact hP, va_K.moved hW.alike hK, hD⟩, hS.F ht⟩) hS.2.2 dX0_rowBelowZero_46
      · exact absurd (nI_le (by omega) (by omega)) c1
    | succ d ih =>
      intro k bst H locs ls hk hz hP hK hD hS hl
      refine lv_iload_n hx hb dX0_rowBelowZero_4 rfl (lv_at hl 0 rfl) ?_
      refine lv_aload_n hx hb dX0_rowBelowZero_5 rfl (lv_at hl 2 rfl) ?_
      refine va_get (D := (dC, dI)) (ci := 0) (v := .int (nI me)) (C := RX0) (T := TX0) (N := 7) hx hb hts (fun _ h => List.mem_cons_of_mem _ (List.mem_append_right _ h)) hown hK hP 0 rfl rfl 2 (by decide) (hts (.fieldLink RX0 20 "RankFinder$Weighing" "equations" "I") (List.mem_of_getElem? (i := 1) rfl)) (fun _ h9 => h9) rfl dX0_rowBelowZero_6 ?_
      refine lv_icmp_ge (tgt := 45) hx hb dX0_rowBelowZero_9 (by decide) (fun c1 => ?_) (fun c1 => ?_)
      · exact absurd c1 (nI_ge (by omega) (by omega))
      · refine lv_aload_n hx hb dX0_rowBelowZero_12 rfl (lv_at hl 2 rfl) ?_
        refine va_get (D := (dC, dI)) (ci := 0) (v := .ref qc) (C := RX0) (T := TX0) (N := 7) hx hb hts (fun _ h => List.mem_cons_of_mem _ (List.mem_append_right _ h)) hown hK hP 0 rfl rfl 0 (by decide) (hts (.fieldLink RX0 13 "RankFinder$Weighing" "cell" "[[J") (List.mem_of_getElem? (i := 2) rfl)) (fun _ h9 => h9) rfl dX0_rowBelowZero_13 ?_
        refine lv_iload_n hx hb dX0_rowBelowZero_16 rfl (lv_at hl 0 rfl) ?_
        refine na_aald (y := r k) hx hb hK hP 1 0 rfl rfl (show k < 10 by omega) (by decide) (if_pos (show k < 10 by omega)) dX0_rowBelowZero_17 ?_
        refine lv_aload_n hx hb dX0_rowBelowZero_18 rfl (lv_at hl 2 rfl) ?_
        refine va_get (D := (dC, dI)) (ci := 0) (v := .int (nI nw)) (C := RX0) (T := TX0) (N := 7) hx hb hts (fun _ h => List.mem_cons_of_mem _ (List.mem_append_right _ h)) hown hK hP 0 rfl rfl 3 (by decide) (hts (.fieldLink RX0 24 "RankFinder$Weighing" "weights" "I") (List.mem_of_getElem? (i := 3) rfl)) (fun _ h9 => h9) rfl dX0_rowBelowZero_19 ?_
        refine na_lald hx hb hK hP (3 + k) 2 (gG_get (show k < 10 by omega) rfl) rfl hn (by decide) dX0_rowBelowZero_22 ?_
        refine lv_lconst (v := 0) hx hb dX0_rowBelowZero_23 (by decide) ?_
        refine W.lcmp hx hb dX0_rowBelowZero_24 ?_
        refine lv_if_ge (tgt := 39) hx hb dX0_rowBelowZero_25 (by decide) (fun c2 => ?_) (fun c2 => ?_)
        · rw [lg_cmp_ge] at c2
          replace c2 := Int64.not_lt.mpr c2
          refine lv_iinc (v := nI (k + 1)) (lv' := [(2, .int (nI (k + 1))), (1, .int bst), (0, .ref h0)]) hx hb dX0_rowBelowZero_39 hl (k := 0) rfl (nI_1 _) (by decide) rfl (fun ls hl => ?_)
          refine lv_goto (tgt := 4) hx hb dX0_rowBelowZero_42 (by decide) ?_
          exact ih (k + 1) bst H _ ls (by omega) (by
            rcases hz with ⟨h1, h2⟩ | ⟨b, h1, h2, h3, h4, h5⟩
            · exact Or.inl ⟨h1, fun i hi q => by
                by_cases e9 : i = k
                · subst e9; exact absurd q c2
                · exact h2 i (by omega) q⟩
            · exact Or.inr ⟨b, by omega, h2, h3, h4, fun i hi q q2 => by
                by_cases e9 : i = k
                · subst e9; exact absurd q c2
                · exact h5 i (by omega) q q2⟩) hP hK hD hS (lv_sub hl [0, 1, 2] rfl)
        · rw [lg_cmp_ge] at c2
          replace c2 := Int64.not_le.mp c2
          have hbs : bst = -1 ∨ ∃ b, b < 9 ∧ bst = nI b := by
            rcases hz with ⟨h1, _⟩ | ⟨b, h1, h2, _⟩
            · exact Or.inl h1
            · exact Or.inr ⟨b, by omega, h2⟩
          refine lv_aload_n hx hb dX0_rowBelowZero_28 rfl (lv_at hl 2 rfl) ?_
          refine lv_iload_n hx hb dX0_rowBelowZero_29 rfl (lv_at hl 0 rfl) ?_
          refine lv_iload_n hx hb dX0_rowBelowZero_30 rfl (lv_at hl 1 rfl) ?_
          have hFc : ∀ q, va_A (wgW h0 qc qh r cA cI cJ me nw u tw iv hd M) H.size q → A q := va_fall hD hS hA
          refine va_calli (va_runV (As := [.int (nI k), .int bst]) (rest := []) ⟨hx, hb, hml, hown, hts⟩ (c_X0_holdsLess l dC dI h0 qc qh r cA cI cJ H.size me nw u tw iv hd M k bst (by omega) hbs) (cwV 2 hts gX0_rowBelowZero_X0_holdsLess rfl rfl rfl (by decide +kernel) ⟨Nat.le_of_ble_eq_true rfl, Nat.le_of_ble_eq_true rfl⟩) ⟨fun a U g mk q => by obtain ⟨q0, q1, qP, qK, qD⟩ := q; exact ⟨q0, q1, qP, va_K.moved (u := U) (U := U.calling g mk a) (Vm.Alike.refl U.vm) qK, qD⟩, va_recv hK hP (ci := 0) (q0 := 0) rfl rfl, fun U hU hW => ⟨rfl, by rw [hU], by rw [hU]; exact hP, va_K.moved hW.alike hK, hD.weaken (fun _ _ _ _ => trivial)⟩⟩ rfl rfl hl.1 rfl (lv_room (Nat.le_of_ble_eq_true rfl)) dX0_rowBelowZero_31 ⟨(Nat.zero_le _), (Nat.zero_le _)⟩) hS (fun q _ h => hFc q h) hFc (fun r_31 u t H1 locs ht hvm hw hB hz1 hk1 hS => ?_)
          obtain ⟨hP1, hK1, hD1⟩ := hB
          rw [ht] at hP1
          clear hP hD hK
          have hK := va_K.moved hvm.symm hK1
          have hP := hP1
          have hD := hD1.weaken (B := A) (fun _ q _ h => hFc q.1 h)
          clear hP1 hD1 hK1 hFc hk1 hz1 ht hvm
          generalize H1 = H at hP hS ⊢
          refine lv_if_eq (tgt := 39) hx hb dX0_rowBelowZero_34 (by decide) (fun c3 => ?_) (fun c3 => ?_)
          · rcases hw with ⟨q, _⟩ | ⟨q, hq⟩
            · rw [q] at c3; exact absurd c3 (by decide)
            · refine lv_iinc (v := nI (k + 1)) (lv' := [(2, .int (nI (k + 1))), (1, .int bst), (0, .ref h0)]) hx hb dX0_rowBelowZero_39 hl (k := 0) rfl (nI_1 _) (by decide) rfl (fun ls hl => ?_)
              refine lv_goto (tgt := 4) hx hb dX0_rowBelowZero_42 (by decide) ?_
              exact ih (k + 1) bst H _ ls (by omega) (by
                rcases hz with ⟨h1, h2⟩ | ⟨b, h1, h2, h3, h4, h5⟩
                · exact Or.inl ⟨h1, fun i hi q => by
                    by_cases e9 : i = k
                    · subst e9; rcases hq with q5 | ⟨b, q5, q6, q7⟩
                      · exact q5
                      · rw [h1] at q6; exact absurd q6.symm (nI_m1 (by omega))
                    · exact h2 i (by omega) q⟩
                · exact Or.inr ⟨b, by omega, h2, h3, h4, fun i hi q q2 => by
                    by_cases e9 : i = k
                    · subst e9; rcases hq with q5 | ⟨b', q5, q6, q7⟩
                      · exact absurd q5 q2
                      · rw [h2] at q6
                        rw [nI_inj (by omega) (by omega) q6]; exact q7
                    · exact h5 i (by omega) q q2⟩) hP hK hD hS (lv_sub hl [0, 1, 2] rfl)
          · rcases hw with ⟨q, hq1, hq2⟩ | ⟨q, hq⟩
            rotate_left
            · rw [q] at c3; exact absurd rfl c3
            refine lv_iload_n hx hb dX0_rowBelowZero_37 rfl (lv_at hl 0 rfl) ?_
            refine lv_istore_n (lv' := [(1, .int (nI k)), (2, .int (nI k)), (0, .ref h0)]) hx hb dX0_rowBelowZero_38 rfl hl (by decide) rfl (fun ls hl => ?_)
            refine lv_iinc (v := nI (k + 1)) (lv' := [(2, .int (nI (k + 1))), (1, .int (nI k)), (0, .ref h0)]) hx hb dX0_rowBelowZero_39 hl (k := 1) rfl (nI_1 _) (by decide) rfl (fun ls hl => ?_)
            refine lv_goto (tgt := 4) hx hb dX0_rowBelowZero_42 (by decide) ?_
            exact ih (k + 1) (nI k) H _ ls (by omega) (by
              refine Or.inr ⟨k, by omega, rfl, c2, hq1, fun i hi q5 q6 => ?_⟩
              by_cases e9 : i = k
              · subst e9; exact i32_irr
              · rcases hz with ⟨h1, h2⟩ | ⟨b, h1, h2, h3, h4, h5⟩
                · exact absurd (h2 i (by omega) q5) q6
                · rcases hq2 with q7 | ⟨b', q7, q8, q9⟩
                  · rw [h2] at q7; exact absurd q7 (nI_m1 (by omega))
                  · rw [h2] at q8
                    have := nI_inj (by omega) (by omega) q8
                    subst this
                    exact i32_lt_tr (h5 i (by omega) q5 q6) q9) hP hK hD hS (lv_sub hl [0, 1, 2] rfl)
  exact loop me 0 (-1) H [] ls (by omega) (Or.inl ⟨rfl, fun i hi => by omega⟩) hP hK hD hS (lv_sub hl [0, 1, 2] rfl)
end
section
/-! ===== Weighing: what is left of the seeks; static methods; the unit ===== -/
set_option maxHeartbeats 4000000 in
set_option maxRecDepth 100000 in
/-- hasBareContradiction() -/
theorem c_X0_hasBareContradiction (l : Launch) (dC : Nat → ClassId) (dI : Nat → Nat → Nat) (h0 qc qh : Nat) (r : Nat → Nat) (cA cI cJ : ClassId) (sz : Nat) (me nw : Nat) (u : Int64) (tw : Int32) (iv : Int64) (hd : Nat → Int32) (M : Nat → Nat → Int64) (hm : me < 10) (hn : nw < 17) : Met l yX0_hasBareContradiction wsX0_hasBareContradiction ({ frames := 0, cells := 0, slots := 0, locals := 0 }) (va_Pc [.ref h0] (fun U => U.heap.size = sz ∧ va_P (dC, dI) vwCl (wgW h0 qc qh r cA cI cJ me nw u tw iv hd M) U.heap ∧ va_K (dC, dI) vwCl (wgT cA cI cJ) U ∧ va_D (fun _ => True) (wgW h0 qc qh r cA cI cJ me nw u tw iv hd M))) (va_Qi (fun (x : Int32) (v : Unit) => (x = 1 ∧ ∃ i, i < me ∧ hd i = -1 ∧ M i nw ≠ 0) ∨ (x = 0 ∧ ∀ i, i < me → hd i = -1 → M i nw = 0)) (fun v t => va_P (dC, dI) vwCl (wgW h0 qc qh r cA cI cJ me nw u tw iv hd M) t.heap ∧ va_K (dC, dI) vwCl (wgT cA cI cJ) t ∧ va_D (va_A (wgW h0 qc qh r cA cI cJ me nw u tw iv hd M) sz) (wgW h0 qc qh r cA cI cJ me nw u tw iv hd M)) (va_A (wgW h0 qc qh r cA cI cJ me nw u tw iv hd M) sz)) 0 0 (va_A (wgW h0 qc qh r cA cI cJ me nw u tw iv hd M) sz) := by
  refine Met.ofW (cc := cX0_hasBareContradiction) (maxL := 2) (ret := (some .boolean)) (by decide) rfl ?_
  intro p e s m args below meth c s₁ B hml hv
  obtain ⟨rfl, hsz, hP, hK, hD0⟩ := hv
  have hx := B.exec
  have hb := B.bytes
  have hr := B.returns
  have hts := atoms_spec (ws := wsX0_hasBareContradiction) B.pre
  have hown : s.vm.findClass RX0 = some m.cls := findClass_of_methodNamed B.named
  subst hsz
  have hD := hD0.self (sz := s.heap.size)
  clear hD0
  generalize hAe : va_A (wgW h0 qc qh r cA cI cJ me nw u tw iv hd M) s.heap.size = A at hD ⊢
  have hA : ∀ q : Nat, s.heap.size ≤ q → A q := fun q h => by rw [← hAe]; exact Or.inr h
  have hl := lv_entry ([.ref h0]) (n := 2) (Nat.le_of_ble_eq_true rfl)
  rw [lg_entry_eq]
  generalize (lg_sl ([.ref h0]) ++ List.replicate (2 - (lg_sl ([.ref h0])).length) Slot.unset).toArray = ls at hl ⊢
  have hl : lv_has ls 2 [(0, .ref h0)] := hl
  have hP : va_P (dC, dI) vwCl (wgW h0 qc qh r cA cI cJ me nw u tw iv hd M) s.heap := hP
  obtain ⟨H, hH⟩ : ∃ H, H = s.heap := ⟨_, rfl⟩
  have hS : va_S A s.heap H [] := by rw [hH]; exact va_S.rf
  rw [← hH] at hP ⊢
  refine lv_iconst (v := nI 0) hx hb dX0_hasBareContradiction_0 (by decide) ?_
  refine lv_istore_n (lv' := [(1, .int (nI 0)), (0, .ref h0)]) hx hb dX0_hasBareContradiction_1 rfl hl (by decide) rfl (fun ls hl => ?_)
  have loop : ∀ (d k : Nat) (ls : Array Slot), k + d = me → (∀ i, i < k → hd i = -1 → M i nw = 0) → lv_has ls 2 [(1, .int (nI k)), (0, .ref h0)] → W p l e (headSpec wsX0_hasBareContradiction ({ frames := 0, cells := 0, slots := 0, locals := 0 })).room s m #[.ref h0] below meth c H [] 0 0 (MQ below (va_Qi (fun (x : Int32) (v : Unit) => (x = 1 ∧ ∃ i, i < me ∧ hd i = -1 ∧ M i nw ≠ 0) ∨ (x = 0 ∧ ∀ i, i < me → hd i = -1 → M i nw = 0)) (fun v t => va_P (dC, dI) vwCl (wgW h0 qc qh r cA cI cJ me nw u tw iv hd M) t.heap ∧ va_K (dC, dI) vwCl (wgT cA cI cJ) t ∧ va_D A (wgW h0 qc qh r cA cI cJ me nw u tw iv hd M)) A) #[.ref h0] s 0 0 A) (F0 m 2 ls []) := by
    intro d
    induction d with
    | zero =>
      intro k ls hk hz hl
      refine lv_iload_n hx hb dX0_hasBareContradiction_2 rfl (lv_at hl 0 rfl) ?_
      refine lv_aload_n hx hb dX0_hasBareContradiction_3 rfl (lv_at hl 1 rfl) ?_
      refine va_get (D := (dC, dI)) (ci := 0) (v := .int (nI me)) (C := RX0) (T := TX0) (N := 7) hx hb hts (fun _ h => List.mem_cons_of_mem _ (List.mem_append_right _ h)) hown hK hP 0 rfl rfl 2 (by decide) (hts (.fieldLink RX0 20 "RankFinder$Weighing" "equations" "I") (List.mem_of_getElem? (i := 1) rfl)) (fun _ h9 => h9) rfl dX0_hasBareContradiction_4 ?_
      refine lv_icmp_ge (tgt := 44) hx hb dX0_hasBareContradiction_7 (by decide) (fun c1 => ?_) (fun c1 => ?_)
      · refine lv_iconst (v := nI 0) hx hb dX0_hasBareContradiction_44 (by decide) ?_
        exact W.zret (v := (nI 0)) hx hb hr (by rfl) (fun t ht hW => ⟨⟨(nI 0), (), rfl, Or.inr ⟨rfl, fun j hj => hz j (by omega)⟩, by rw [ht]; exact hP, va_K.moved hW.alike hK, hD⟩, hS.F ht⟩) hS.2.2 dX0_hasBareContradiction_45
      · exact absurd (nI_le (by omega) (by omega)) c1
    | succ d ih =>
      intro k ls hk hz hl
      refine lv_iload_n hx hb dX0_hasBareContradiction_2 rfl (lv_at hl 0 rfl) ?_
      refine lv_aload_n hx hb dX0_hasBareContradiction_3 rfl (lv_at hl 1 rfl) ?_
      refine va_get (D := (dC, dI)) (ci := 0) (v := .int (nI me)) (C := RX0) (T := TX0) (N := 7) hx hb hts (fun _ h => List.mem_cons_of_mem _ (List.mem_append_right _ h)) hown hK hP 0 rfl rfl 2 (by decide) (hts (.fieldLink RX0 20 "RankFinder$Weighing" "equations" "I") (List.mem_of_getElem? (i := 1) rfl)) (fun _ h9 => h9) rfl dX0_hasBareContradiction_4 ?_
      refine lv_icmp_ge (tgt := 44) hx hb dX0_hasBareContradiction_7 (by decide) (fun c1 => ?_) (fun c1 => ?_)
      · exact absurd c1 (nI_ge (by omega) (by omega))
      · refine lv_aload_n hx hb dX0_hasBareContradiction_10 rfl (lv_at hl 1 rfl) ?_
        refine va_get (D := (dC, dI)) (ci := 0) (v := .ref qh) (C := RX0) (T := TX0) (N := 7) hx hb hts (fun _ h => List.mem_cons_of_mem _ (List.mem_append_right _ h)) hown hK hP 0 rfl rfl 1 (by decide) (hts (.fieldLink RX0 16 "RankFinder$Weighing" "held" "[I") (List.mem_of_getElem? (i := 2) rfl)) (fun _ h9 => h9) rfl dX0_hasBareContradiction_11 ?_
        refine lv_iload_n hx hb dX0_hasBareContradiction_14 rfl (lv_at hl 0 rfl) ?_
        refine na_iald hx hb hK hP 2 1 rfl rfl (show k < 9 by omega) (by decide) dX0_hasBareContradiction_15 ?_
        refine lv_iconst (v := (-1)) hx hb dX0_hasBareContradiction_16 (by decide) ?_
        refine lv_icmp_ne (tgt := 38) hx hb dX0_hasBareContradiction_17 (by decide) (fun c2 => ?_) (fun c2 => ?_)
        · refine lv_iinc (v := nI (k + 1)) (lv' := [(1, .int (nI (k + 1))), (0, .ref h0)]) hx hb dX0_hasBareContradiction_38 hl (k := 0) rfl (nI_1 _) (by decide) rfl (fun ls hl => ?_)
          refine lv_goto (tgt := 2) hx hb dX0_hasBareContradiction_41 (by decide) ?_
          exact ih (k + 1) ls (by omega) (fun i hi q => by
            by_cases e9 : i = k
            · subst e9; exact absurd q c2
            · exact hz i (by omega) q) (lv_sub hl [0, 1] rfl)
        · have c2 : hd k = -1 := c2
          refine lv_aload_n hx hb dX0_hasBareContradiction_20 rfl (lv_at hl 1 rfl) ?_
          refine va_get (D := (dC, dI)) (ci := 0) (v := .ref qc) (C := RX0) (T := TX0) (N := 7) hx hb hts (fun _ h => List.mem_cons_of_mem _ (List.mem_append_right _ h)) hown hK hP 0 rfl rfl 0 (by decide) (hts (.fieldLink RX0 13 "RankFinder$Weighing" "cell" "[[J") (List.mem_of_getElem? (i := 3) rfl)) (fun _ h9 => h9) rfl dX0_hasBareContradiction_21 ?_
          refine lv_iload_n hx hb dX0_hasBareContradiction_24 rfl (lv_at hl 0 rfl) ?_
          refine na_aald (y := r k) hx hb hK hP 1 0 rfl rfl (show k < 10 by omega) (by decide) (if_pos (show k < 10 by omega)) dX0_hasBareContradiction_25 ?_
          refine lv_aload_n hx hb dX0_hasBareContradiction_26 rfl (lv_at hl 1 rfl) ?_
          refine va_get (D := (dC, dI)) (ci := 0) (v := .int (nI nw)) (C := RX0) (T := TX0) (N := 7) hx hb hts (fun _ h => List.mem_cons_of_mem _ (List.mem_append_right _ h)) hown hK hP 0 rfl rfl 3 (by decide) (hts (.fieldLink RX0 24 "RankFinder$Weighing" "weights" "I") (List.mem_of_getElem? (i := 4) rfl)) (fun _ h9 => h9) rfl dX0_hasBareContradiction_27 ?_
          refine na_lald hx hb hK hP (3 + k) 2 (gG_get (show k < 10 by omega) rfl) rfl hn (by decide) dX0_hasBareContradiction_30 ?_
          refine lv_lconst (v := 0) hx hb dX0_hasBareContradiction_31 (by decide) ?_
          refine W.lcmp hx hb dX0_hasBareContradiction_32 ?_
          refine lv_if_eq (tgt := 38) hx hb dX0_hasBareContradiction_33 (by decide) (fun c3 => ?_) (fun c3 => ?_)
          · rw [lg_cmp_eq] at c3
            refine lv_iinc (v := nI (k + 1)) (lv' := [(1, .int (nI (k + 1))), (0, .ref h0)]) hx hb dX0_hasBareContradiction_38 hl (k := 0) rfl (nI_1 _) (by decide) rfl (fun ls hl => ?_)
            refine lv_goto (tgt := 2) hx hb dX0_hasBareContradiction_41 (by decide) ?_
            exact ih (k + 1) ls (by omega) (fun i hi q => by
              by_cases e9 : i = k
              · subst e9; exact c3
              · exact hz i (by omega) q) (lv_sub hl [0, 1] rfl)
          · rw [lg_cmp_eq] at c3
            refine lv_iconst (v := nI 1) hx hb dX0_hasBareContradiction_36 (by decide) ?_
            exact W.zret (v := (nI 1)) hx hb hr (by rfl) (fun t ht hW => ⟨⟨(nI 1), (), rfl, Or.inl ⟨rfl, k, by omega, c2, c3⟩, by rw [ht]; exact hP, va_K.moved hW.alike hK, hD⟩, hS.F ht⟩) hS.2.2 dX0_hasBareContradiction_37
  exact loop me 0 ls (by omega) (fun j hj => by omega) hl
set_option maxHeartbeats 4000000 in
set_option maxRecDepth 100000 in
/-- isCheaper(i, a, o) -/
theorem c_X0_isCheaper (l : Launch) (dC : Nat → ClassId) (dI : Nat → Nat → Nat) (h0 qc qh : Nat) (r : Nat → Nat) (cA cI cJ : ClassId) (sz : Nat) (me nw : Nat) (u : Int64) (tw : Int32) (iv : Int64) (hd : Nat → Int32) (M : Nat → Nat → Int64) (i a o : Nat) (hm : me < 10) (hi : i < 10) (ha : a < 17) (ho : o < 17) : Met l yX0_isCheaper wsX0_isCheaper ({ frames := 0, cells := 0, slots := 0, locals := 0 }) (va_Pc [.ref h0, .int (nI i), .int (nI a), .int (nI o)] (fun U => U.heap.size = sz ∧ va_P (dC, dI) vwCl (wgW h0 qc qh r cA cI cJ me nw u tw iv hd M) U.heap ∧ va_K (dC, dI) vwCl (wgT cA cI cJ) U ∧ va_D (fun _ => True) (wgW h0 qc qh r cA cI cJ me nw u tw iv hd M))) (va_Qi (fun (x : Int32) (v : Unit) => (x = 1 ∧ M me o * M i a < M me a * M i o) ∨ (x = 0 ∧ ¬ M me o * M i a < M me a * M i o)) (fun v t => va_P (dC, dI) vwCl (wgW h0 qc qh r cA cI cJ me nw u tw iv hd M) t.heap ∧ va_K (dC, dI) vwCl (wgT cA cI cJ) t ∧ va_D (va_A (wgW h0 qc qh r cA cI cJ me nw u tw iv hd M) sz) (wgW h0 qc qh r cA cI cJ me nw u tw iv hd M)) (va_A (wgW h0 qc qh r cA cI cJ me nw u tw iv hd M) sz)) 0 0 (va_A (wgW h0 qc qh r cA cI cJ me nw u tw iv hd M) sz) := by
  refine Met.ofW (cc := cX0_isCheaper) (maxL := 5) (ret := (some .boolean)) (by decide) rfl ?_
  intro p e s m args below meth c s₁ B hml hv
  obtain ⟨rfl, hsz, hP, hK, hD0⟩ := hv
  have hx := B.exec
  have hb := B.bytes
  have hr := B.returns
  have hts := atoms_spec (ws := wsX0_isCheaper) B.pre
  have hown : s.vm.findClass RX0 = some m.cls := findClass_of_methodNamed B.named
  subst hsz
  have hD := hD0.self (sz := s.heap.size)
  clear hD0
  generalize hAe : va_A (wgW h0 qc qh r cA cI cJ me nw u tw iv hd M) s.heap.size = A at hD ⊢
  have hA : ∀ q : Nat, s.heap.size ≤ q → A q := fun q h => by rw [← hAe]; exact Or.inr h
  have hl := lv_entry ([.ref h0, .int (nI i), .int (nI a), .int (nI o)]) (n := 5) (Nat.le_of_ble_eq_true rfl)
  rw [lg_entry_eq]
  generalize (lg_sl ([.ref h0, .int (nI i), .int (nI a), .int (nI o)]) ++ List.replicate (5 - (lg_sl ([.ref h0, .int (nI i), .int (nI a), .int (nI o)])).length) Slot.unset).toArray = ls at hl ⊢
  have hl : lv_has ls 5 [(0, .ref h0), (1, .int (nI i)), (2, .int (nI a)), (3, .int (nI o))] := hl
  have hP : va_P (dC, dI) vwCl (wgW h0 qc qh r cA cI cJ me nw u tw iv hd M) s.heap := hP
  obtain ⟨H, hH⟩ : ∃ H, H = s.heap := ⟨_, rfl⟩
  have hS : va_S A s.heap H [] := by rw [hH]; exact va_S.rf
  rw [← hH] at hP ⊢
  refine lv_aload_n hx hb dX0_isCheaper_0 rfl (lv_at hl 0 rfl) ?_
  refine va_get (D := (dC, dI)) (ci := 0) (v := .ref qc) (C := RX0) (T := TX0) (N := 7) hx hb hts (fun _ h => List.mem_cons_of_mem _ (List.mem_append_right _ h)) hown hK hP 0 rfl rfl 0 (by decide) (hts (.fieldLink RX0 13 "RankFinder$Weighing" "cell" "[[J") (List.mem_of_getElem? (i := 1) rfl)) (fun _ h9 => h9) rfl dX0_isCheaper_1 ?_
  refine lv_aload_n hx hb dX0_isCheaper_4 rfl (lv_at hl 0 rfl) ?_
  refine va_get (D := (dC, dI)) (ci := 0) (v := .int (nI me)) (C := RX0) (T := TX0) (N := 7) hx hb hts (fun _ h => List.mem_cons_of_mem _ (List.mem_append_right _ h)) hown hK hP 0 rfl rfl 2 (by decide) (hts (.fieldLink RX0 20 "RankFinder$Weighing" "equations" "I") (List.mem_of_getElem? (i := 2) rfl)) (fun _ h9 => h9) rfl dX0_isCheaper_5 ?_
  refine na_aald (y := r me) hx hb hK hP 1 0 rfl rfl hm (by decide) (if_pos hm) dX0_isCheaper_8 ?_
  refine lv_astore (lv' := [(4, .ref (r me)), (0, .ref h0), (1, .int (nI i)), (2, .int (nI a)), (3, .int (nI o))]) hx hb dX0_isCheaper_9 hl (by decide) rfl (fun ls hl => ?_)
  refine lv_aload hx hb dX0_isCheaper_11 (lv_at hl 0 rfl) ?_
  refine lv_iload_n hx hb dX0_isCheaper_13 rfl (lv_at hl 3 rfl) ?_
  refine na_lald hx hb hK hP (3 + me) 2 (gG_get hm rfl) rfl ha (by decide) dX0_isCheaper_14 ?_
  refine lv_aload_n hx hb dX0_isCheaper_15 rfl (lv_at hl 1 rfl) ?_
  refine va_get (D := (dC, dI)) (ci := 0) (v := .ref qc) (C := RX0) (T := TX0) (N := 7) hx hb hts (fun _ h => List.mem_cons_of_mem _ (List.mem_append_right _ h)) hown hK hP 0 rfl rfl 0 (by decide) (hts (.fieldLink RX0 13 "RankFinder$Weighing" "cell" "[[J") (List.mem_of_getElem? (i := 1) rfl)) (fun _ h9 => h9) rfl dX0_isCheaper_16 ?_
  refine lv_iload_n hx hb dX0_isCheaper_19 rfl (lv_at hl 2 rfl) ?_
  refine na_aald (y := r i) hx hb hK hP 1 0 rfl rfl hi (by decide) (if_pos hi) dX0_isCheaper_20 ?_
  refine lv_iload_n hx hb dX0_isCheaper_21 rfl (lv_at hl 4 rfl) ?_
  refine na_lald hx hb hK hP (3 + i) 2 (gG_get hi rfl) rfl ho (by decide) dX0_isCheaper_22 ?_
  refine lv_lmul hx hb dX0_isCheaper_23 ?_
  refine lv_aload hx hb dX0_isCheaper_24 (lv_at hl 0 rfl) ?_
  refine lv_iload_n hx hb dX0_isCheaper_26 rfl (lv_at hl 4 rfl) ?_
  refine na_lald hx hb hK hP (3 + me) 2 (gG_get hm rfl) rfl ho (by decide) dX0_isCheaper_27 ?_
  refine lv_aload_n hx hb dX0_isCheaper_28 rfl (lv_at hl 1 rfl) ?_
  refine va_get (D := (dC, dI)) (ci := 0) (v := .ref qc) (C := RX0) (T := TX0) (N := 7) hx hb hts (fun _ h => List.mem_cons_of_mem _ (List.mem_append_right _ h)) hown hK hP 0 rfl rfl 0 (by decide) (hts (.fieldLink RX0 13 "RankFinder$Weighing" "cell" "[[J") (List.mem_of_getElem? (i := 1) rfl)) (fun _ h9 => h9) rfl dX0_isCheaper_29 ?_
  refine lv_iload_n hx hb dX0_isCheaper_32 rfl (lv_at hl 2 rfl) ?_
  refine na_aald (y := r i) hx hb hK hP 1 0 rfl rfl hi (by decide) (if_pos hi) dX0_isCheaper_33 ?_
  refine lv_iload_n hx hb dX0_isCheaper_34 rfl (lv_at hl 3 rfl) ?_
  refine na_lald hx hb hK hP (3 + i) 2 (gG_get hi rfl) rfl ha (by decide) dX0_isCheaper_35 ?_
  refine lv_lmul hx hb dX0_isCheaper_36 ?_
  refine W.lcmp hx hb dX0_isCheaper_37 ?_
  refine lv_if_le (tgt := 45) hx hb dX0_isCheaper_38 (by decide) (fun c1 => ?_) (fun c1 => ?_)
  · rw [lg_cmp_le] at c1
    refine lv_iconst (v := nI 0) hx hb dX0_isCheaper_45 (by decide) ?_
    exact W.zret (v := (nI 0)) hx hb hr (by rfl) (fun t ht hW => ⟨⟨(nI 0), (), rfl, Or.inr ⟨rfl, Int64.not_lt.mpr c1⟩, by rw [ht]; exact hP, va_K.moved hW.alike hK, hD⟩, hS.F ht⟩) hS.2.2 dX0_isCheaper_46
  · rw [lg_cmp_le] at c1
    refine lv_iconst (v := nI 1) hx hb dX0_isCheaper_41 (by decide) ?_
    refine lv_goto (tgt := 46) hx hb dX0_isCheaper_42 (by decide) ?_
    exact W.zret (v := (nI 1)) hx hb hr (by rfl) (fun t ht hW => ⟨⟨(nI 1), (), rfl, Or.inl ⟨rfl, Int64.not_le.mp c1⟩, by rw [ht]; exact hP, va_K.moved hW.alike hK, hD⟩, hS.F ht⟩) hS.2.2 dX0_isCheaper_46
set_option maxHeartbeats 4000000 in
set_option maxRecDepth 100000 in
/-- columnThatLifts(i): by the quotients qq, the first of the least -/
theorem c_X0_columnThatLifts (l : Launch) (dC : Nat → ClassId) (dI : Nat → Nat → Nat) (h0 qc qh : Nat) (r : Nat → Nat) (cA cI cJ : ClassId) (sz : Nat) (me nw : Nat) (u : Int64) (tw : Int32) (iv : Int64) (hd : Nat → Int32) (M : Nat → Nat → Int64) (i : Nat) (qq : Nat → Rat) (hm : me < 10) (hi : i < 10) (hn : nw < 17) (hch : ∀ j o, j < nw → o < nw → M i j < 0 → M i o < 0 → (M me o * M i j < M me j * M i o ↔ qq j < qq o)) : Met l yX0_columnThatLifts wsX0_columnThatLifts ({ frames := 1, cells := 0, slots := 0, locals := 24 }) (va_Pc [.ref h0, .int (nI i)] (fun U => U.heap.size = sz ∧ va_P (dC, dI) vwCl (wgW h0 qc qh r cA cI cJ me nw u tw iv hd M) U.heap ∧ va_K (dC, dI) vwCl (wgT cA cI cJ) U ∧ va_D (fun _ => True) (wgW h0 qc qh r cA cI cJ me nw u tw iv hd M))) (va_Qi (fun (x : Int32) (v : Unit) => ((x = -1 ∧ ∀ j, j < nw → ¬ M i j < 0) ∨ (∃ b, b < nw ∧ x = nI b ∧ M i b < 0 ∧ ∀ j, j < nw → M i j < 0 → ¬ qq j < qq b ∧ (j < b → qq b < qq j)))) (fun v t => va_P (dC, dI) vwCl (wgW h0 qc qh r cA cI cJ me nw u tw iv hd M) t.heap ∧ va_K (dC, dI) vwCl (wgT cA cI cJ) t ∧ va_D (va_A (wgW h0 qc qh r cA cI cJ me nw u tw iv hd M) sz) (wgW h0 qc qh r cA cI cJ me nw u tw iv hd M)) (va_A (wgW h0 qc qh r cA cI cJ me nw u tw iv hd M) sz)) 0 0 (va_A (wgW h0 qc qh r cA cI cJ me nw u tw iv hd M) sz) := by
  refine Met.ofW (cc := cX0_columnThatLifts) (maxL := 4) (ret := (some .int)) (by decide) rfl ?_
  intro p e s m args below meth c s₁ B hml hv
  obtain ⟨rfl, hsz, hP, hK, hD0⟩ := hv
  have hx := B.exec
  have hb := B.bytes
  have hr := B.returns
  have hts := atoms_spec (ws := wsX0_columnThatLifts) B.pre
  have hown : s.vm.findClass RX0 = some m.cls := findClass_of_methodNamed B.named
  subst hsz
  have hD := hD0.self (sz := s.heap.size)
  clear hD0
  generalize hAe : va_A (wgW h0 qc qh r cA cI cJ me nw u tw iv hd M) s.heap.size = A at hD ⊢
  have hA : ∀ q : Nat, s.heap.size ≤ q → A q := fun q h => by rw [← hAe]; exact Or.inr h
  have hl := lv_entry ([.ref h0, .int (nI i)]) (n := 4) (Nat.le_of_ble_eq_true rfl)
  rw [lg_entry_eq]
  generalize (lg_sl ([.ref h0, .int (nI i)]) ++ List.replicate (4 - (lg_sl ([.ref h0, .int (nI i)])).length) Slot.unset).toArray = ls at hl ⊢
  have hl : lv_has ls 4 [(0, .ref h0), (1, .int (nI i))] := hl
  have hP : va_P (dC, dI) vwCl (wgW h0 qc qh r cA cI cJ me nw u tw iv hd M) s.heap := hP
  obtain ⟨H, hH⟩ : ∃ H, H = s.heap := ⟨_, rfl⟩
  have hS : va_S A s.heap H [] := by rw [hH]; exact va_S.rf
  rw [← hH] at hP ⊢
  refine lv_iconst (v := (-1)) hx hb dX0_columnThatLifts_0 (by decide) ?_
  refine lv_istore_n (lv' := [(2, .int (-1)), (0, .ref h0), (1, .int (nI i))]) hx hb dX0_columnThatLifts_1 rfl hl (by decide) rfl (fun ls hl => ?_)
  refine lv_iconst (v := nI 0) hx hb dX0_columnThatLifts_2 (by decide) ?_
  refine lv_istore_n (lv' := [(3, .int (nI 0)), (2, .int (-1)), (0, .ref h0), (1, .int (nI i))]) hx hb dX0_columnThatLifts_3 rfl hl (by decide) rfl (fun ls hl => ?_)
  have loop : ∀ (d k : Nat) (bst : Int32) (H : Heap) (locs : List Loc) (ls : Array Slot), k + d = nw → ((bst = -1 ∧ ∀ j, j < k → ¬ M i j < 0) ∨ (∃ b, b < k ∧ bst = nI b ∧ M i b < 0 ∧ ∀ j, j < k → M i j < 0 → ¬ qq j < qq b ∧ (j < b → qq b < qq j))) → va_P (dC, dI) vwCl (wgW h0 qc qh r cA cI cJ me nw u tw iv hd M) H → va_K (dC, dI) vwCl (wgT cA cI cJ) s → va_D A (wgW h0 qc qh r cA cI cJ me nw u tw iv hd M) → va_S A s.heap H locs → lv_has ls 4 [(3, .int (nI k)), (2, .int bst), (0, .ref h0), (1, .int (nI i))] → W p l e (headSpec wsX0_columnThatLifts ({ frames := 1, cells := 0, slots := 0, locals := 24 })).room s m #[.ref h0, .int (nI i)] below meth c H locs 0 0 (MQ below (va_Qi (fun (x : Int32) (v : Unit) => ((x = -1 ∧ ∀ j, j < nw → ¬ M i j < 0) ∨ (∃ b, b < nw ∧ x = nI b ∧ M i b < 0 ∧ ∀ j, j < nw → M i j < 0 → ¬ qq j < qq b ∧ (j < b → qq b < qq j)))) (fun v t => va_P (dC, dI) vwCl (wgW h0 qc qh r cA cI cJ me nw u tw iv hd M) t.heap ∧ va_K (dC, dI) vwCl (wgT cA cI cJ) t ∧ va_D A (wgW h0 qc qh r cA cI cJ me nw u tw iv hd M)) A) #[.ref h0, .int (nI i)] s 0 0 A) (F0 m 4 ls []) := by
    intro d
    induction d with
    | zero =>
      intro k bst H locs ls hk hz hP hK hD hS hl
      refine lv_iload_n hx hb dX0_columnThatLifts_4 rfl (lv_at hl 0 rfl) ?_
      refine lv_aload_n hx hb dX0_columnThatLifts_5 rfl (lv_at hl 2 rfl) ?_
      refine va_get (D := (dC, dI)) (ci := 0) (v := .int (nI nw)) (C := RX0) (T := TX0) (N := 7) hx hb hts (fun _ h => List.mem_cons_of_mem _ (List.mem_append_right _ h)) hown hK hP 0 rfl rfl 3 (by decide) (hts (.fieldLink RX0 24 "RankFinder$Weighing" "weights" "I") (List.mem_of_getElem? (i := 1) rfl)) (fun _ h9 => h9) rfl dX0_columnThatLifts_6 ?_
      refine lv_icmp_ge (tgt := 48) hx hb dX0_columnThatLifts_9 (by decide) (fun c1 => ?_) (fun c1 => ?_)
      · refine lv_iload_n hx hb dX0_columnThatLifts_48 rfl (lv_at hl 1 rfl) ?_
        obtain rfl : k = nw := by omega
        exact W.iret (v := bst) hx hb hr (fun t ht hW => ⟨⟨bst, (), rfl, hz, by rw [ht]; exact hP, va_K.moved hW.alike hK, hD⟩, hS.F ht⟩) hS.2.2 dX0_columnThatLifts_49
      · exact absurd (nI_le (by omega) (by omega)) c1
    | succ d ih =>
      intro k bst H locs ls hk hz hP hK hD hS hl
      refine lv_iload_n hx hb dX0_columnThatLifts_4 rfl (lv_at hl 0 rfl) ?_
      refine lv_aload_n hx hb dX0_columnThatLifts_5 rfl (lv_at hl 2 rfl) ?_
      refine va_get (D := (dC, dI)) (ci := 0) (v := .int (nI nw)) (C := RX0) (T := TX0) (N := 7) hx hb hts (fun _ h => List.mem_cons_of_mem _ (List.mem_append_right _ h)) hown hK hP 0 rfl rfl 3 (by decide) (hts (.fieldLink RX0 24 "RankFinder$Weighing" "weights" "I") (List.mem_of_getElem? (i := 1) rfl)) (fun _ h9 => h9) rfl dX0_columnThatLifts_6 ?_
      refine lv_icmp_ge (tgt := 48) hx hb dX0_columnThatLifts_9 (by decide) (fun c1 => ?_) (fun c1 => ?_)
      · exact absurd c1 (nI_ge (by omega) (by omega))
      · refine lv_aload_n hx hb dX0_columnThatLifts_12 rfl (lv_at hl 2 rfl) ?_
        refine va_get (D := (dC, dI)) (ci := 0) (v := .ref qc) (C := RX0) (T := TX0) (N := 7) hx hb hts (fun _ h => List.mem_cons_of_mem _ (List.mem_append_right _ h)) hown hK hP 0 rfl rfl 0 (by decide) (hts (.fieldLink RX0 13 "RankFinder$Weighing" "cell" "[[J") (List.mem_of_getElem? (i := 2) rfl)) (fun _ h9 => h9) rfl dX0_columnThatLifts_13 ?_
        refine lv_iload_n hx hb dX0_columnThatLifts_16 rfl (lv_at hl 3 rfl) ?_
        refine na_aald (y := r i) hx hb hK hP 1 0 rfl rfl hi (by decide) (if_pos hi) dX0_columnThatLifts_17 ?_
        refine lv_iload_n hx hb dX0_columnThatLifts_18 rfl (lv_at hl 0 rfl) ?_
        refine na_lald hx hb hK hP (3 + i) 2 (gG_get hi rfl) rfl (show k < 17 by omega) (by decide) dX0_columnThatLifts_19 ?_
        refine lv_lconst (v := 0) hx hb dX0_columnThatLifts_20 (by decide) ?_
        refine W.lcmp hx hb dX0_columnThatLifts_21 ?_
        refine lv_if_ge (tgt := 42) hx hb dX0_columnThatLifts_22 (by decide) (fun c2 => ?_) (fun c2 => ?_)
        · rw [lg_cmp_ge] at c2
          replace c2 := Int64.not_lt.mpr c2
          refine lv_iinc (v := nI (k + 1)) (lv' := [(3, .int (nI (k + 1))), (2, .int bst), (0, .ref h0), (1, .int (nI i))]) hx hb dX0_columnThatLifts_42 hl (k := 0) rfl (nI_1 _) (by decide) rfl (fun ls hl => ?_)
          refine lv_goto (tgt := 4) hx hb dX0_columnThatLifts_45 (by decide) ?_
          exact ih (k + 1) bst H _ ls (by omega) (by
            rcases hz with ⟨h1, h2⟩ | ⟨b, h1, h2, h3, h4⟩
            · exact Or.inl ⟨h1, fun j hj => by
                by_cases e9 : j = k
                · subst e9; exact c2
                · exact h2 j (by omega)⟩
            · exact Or.inr ⟨b, by omega, h2, h3, fun j hj q => by
                by_cases e9 : j = k
                · subst e9; exact absurd q c2
                · exact h4 j (by omega) q⟩) hP hK hD hS (lv_sub hl [0, 1, 2, 3] rfl)
        · rw [lg_cmp_ge] at c2
          replace c2 := Int64.not_le.mp c2
          refine lv_iload_n hx hb dX0_columnThatLifts_25 rfl (lv_at hl 1 rfl) ?_
          refine lv_iconst (v := (-1)) hx hb dX0_columnThatLifts_26 (by decide) ?_
          refine lv_icmp_eq (tgt := 40) hx hb dX0_columnThatLifts_27 (by decide) (fun c3 => ?_) (fun c3 => ?_)
          · have c3 : bst = -1 := c3
            refine lv_iload_n hx hb dX0_columnThatLifts_40 rfl (lv_at hl 0 rfl) ?_
            refine lv_istore_n (lv' := [(2, .int (nI k)), (3, .int (nI k)), (0, .ref h0), (1, .int (nI i))]) hx hb dX0_columnThatLifts_41 rfl hl (by decide) rfl (fun ls hl => ?_)
            refine lv_iinc (v := nI (k + 1)) (lv' := [(3, .int (nI (k + 1))), (2, .int (nI k)), (0, .ref h0), (1, .int (nI i))]) hx hb dX0_columnThatLifts_42 hl (k := 1) rfl (nI_1 _) (by decide) rfl (fun ls hl => ?_)
            refine lv_goto (tgt := 4) hx hb dX0_columnThatLifts_45 (by decide) ?_
            exact ih (k + 1) (nI k) H _ ls (by omega) (by
              refine Or.inr ⟨k, by omega, rfl, c2, fun j hj q5 => ?_⟩
              by_cases e9 : j = k
              · subst e9; exact ⟨by grind, fun q6 => by omega⟩
              · rcases hz with ⟨h1, h2⟩ | ⟨b, h1, h2, h3, h4⟩
                · exact absurd q5 (h2 j (by omega))
                · rw [h2] at c3; exact absurd c3 (nI_m1 (by omega))) hP hK hD hS (lv_sub hl [0, 1, 2, 3] rfl)
          · obtain ⟨b, h1, h2, h3, h4⟩ := hz.resolve_left (fun q => c3 q.1)
            subst h2
            have hz : True := trivial
            refine lv_aload_n hx hb dX0_columnThatLifts_30 rfl (lv_at hl 2 rfl) ?_
            refine lv_iload_n hx hb dX0_columnThatLifts_31 rfl (lv_at hl 3 rfl) ?_
            refine lv_iload_n hx hb dX0_columnThatLifts_32 rfl (lv_at hl 0 rfl) ?_
            refine lv_iload_n hx hb dX0_columnThatLifts_33 rfl (lv_at hl 1 rfl) ?_
            have hFc : ∀ q, va_A (wgW h0 qc qh r cA cI cJ me nw u tw iv hd M) H.size q → A q := va_fall hD hS hA
            refine va_calli (va_runV (As := [.int (nI i), .int (nI k), .int (nI b)]) (rest := []) ⟨hx, hb, hml, hown, hts⟩ (c_X0_isCheaper l dC dI h0 qc qh r cA cI cJ H.size me nw u tw iv hd M i k b hm hi (by omega) (by omega)) (cwV 3 hts gX0_columnThatLifts_X0_isCheaper rfl rfl rfl (by decide +kernel) ⟨Nat.le_of_ble_eq_true rfl, Nat.le_of_ble_eq_true rfl⟩) ⟨fun a U g mk q => by obtain ⟨q0, q1, qP, qK, qD⟩ := q; exact ⟨q0, q1, qP, va_K.moved (u := U) (U := U.calling g mk a) (Vm.Alike.refl U.vm) qK, qD⟩, va_recv hK hP (ci := 0) (q0 := 0) rfl rfl, fun U hU hW => ⟨rfl, by rw [hU], by rw [hU]; exact hP, va_K.moved hW.alike hK, hD.weaken (fun _ _ _ _ => trivial)⟩⟩ rfl rfl hl.1 rfl (lv_room (Nat.le_of_ble_eq_true rfl)) dX0_columnThatLifts_34 ⟨(Nat.zero_le _), (Nat.zero_le _)⟩) hS (fun q _ h => hFc q h) hFc (fun r_34 u t H1 locs ht hvm hw hB hz1 hk1 hS => ?_)
            obtain ⟨hP1, hK1, hD1⟩ := hB
            rw [ht] at hP1
            clear hP hD hK
            have hK := va_K.moved hvm.symm hK1
            have hP := hP1
            have hD := hD1.weaken (B := A) (fun _ q _ h => hFc q.1 h)
            clear hP1 hD1 hK1 hFc hk1 hz1 ht hvm
            generalize H1 = H at hP hS ⊢
            refine lv_if_eq (tgt := 42) hx hb dX0_columnThatLifts_37 (by decide) (fun c4 => ?_) (fun c4 => ?_)
            · rcases hw with ⟨q, _⟩ | ⟨q, hq⟩
              · rw [q] at c4; exact absurd c4 (by decide)
              rw [hch k b (by omega) (by omega) c2 h3] at hq
              refine lv_iinc (v := nI (k + 1)) (lv' := [(3, .int (nI (k + 1))), (2, .int (nI b)), (0, .ref h0), (1, .int (nI i))]) hx hb dX0_columnThatLifts_42 hl (k := 0) rfl (nI_1 _) (by decide) rfl (fun ls hl => ?_)
              refine lv_goto (tgt := 4) hx hb dX0_columnThatLifts_45 (by decide) ?_
              exact ih (k + 1) (nI b) H _ ls (by omega) (by
                refine Or.inr ⟨b, by omega, rfl, h3, fun j hj q => ?_⟩
                by_cases e9 : j = k
                · subst e9; exact ⟨hq, fun q6 => by omega⟩
                · exact h4 j (by omega) q) hP hK hD hS (lv_sub hl [0, 1, 2, 3] rfl)
            · rcases hw with ⟨q, hq⟩ | ⟨q, _⟩
              rotate_left
              · rw [q] at c4; exact absurd rfl c4
              rw [hch k b (by omega) (by omega) c2 h3] at hq
              refine lv_iload_n hx hb dX0_columnThatLifts_40 rfl (lv_at hl 0 rfl) ?_
              refine lv_istore_n (lv' := [(2, .int (nI k)), (3, .int (nI k)), (0, .ref h0), (1, .int (nI i))]) hx hb dX0_columnThatLifts_41 rfl hl (by decide) rfl (fun ls hl => ?_)
              refine lv_iinc (v := nI (k + 1)) (lv' := [(3, .int (nI (k + 1))), (2, .int (nI k)), (0, .ref h0), (1, .int (nI i))]) hx hb dX0_columnThatLifts_42 hl (k := 1) rfl (nI_1 _) (by decide) rfl (fun ls hl => ?_)
              refine lv_goto (tgt := 4) hx hb dX0_columnThatLifts_45 (by decide) ?_
              exact ih (k + 1) (nI k) H _ ls (by omega) (by
                refine Or.inr ⟨k, by omega, rfl, c2, fun j hj q5 => ?_⟩
                by_cases e9 : j = k
                · subst e9; exact ⟨by grind, fun q6 => by omega⟩
                · have q7 := (h4 j (by omega) q5).1
                  exact ⟨by grind, fun _ => by grind⟩) hP hK hD hS (lv_sub hl [0, 1, 2, 3] rfl)
  exact loop nw 0 (-1) H [] ls (by omega) (Or.inl ⟨rfl, fun i hi => by omega⟩) hP hK hD hS (lv_sub hl [0, 1, 2, 3] rfl)
/-- row i taken negatively, up to place k -/
def ngF (M : Nat → Nat → Int64) (i k : Nat) : Nat → Nat → Int64 := fup M i (fun j => if j < k then -(M i j) else M i j)
theorem ngF_0 (M : Nat → Nat → Int64) (i : Nat) : ngF M i 0 = M := by
  unfold ngF
  have : (fun j => if j < 0 then -(M i j) else M i j) = M i := funext fun j => by simp
  rw [this, fup_id]
theorem ngF_s (M : Nat → Nat → Int64) (i k : Nat) : mup (ngF M i k) i k (-(ngF M i k i k)) = ngF M i (k + 1) := by
  unfold mup ngF
  rw [fup_s, fup_2]
  congr 1
  funext j
  by_cases e : j = k
  · subst e; simp [vp_updL]
  · by_cases h : j < k
    · simp [vp_updL, e, h, show j < k + 1 by omega]
    · simp [vp_updL, e, h, show ¬ j < k + 1 by omega]
set_option maxHeartbeats 4000000 in
set_option maxRecDepth 100000 in
/-- negate(i) -/
theorem c_X0_negate (l : Launch) (dC : Nat → ClassId) (dI : Nat → Nat → Nat) (h0 qc qh : Nat) (r : Nat → Nat) (cA cI cJ : ClassId) (sz : Nat) (me nw : Nat) (u : Int64) (tw : Int32) (iv : Int64) (hd : Nat → Int32) (M : Nat → Nat → Int64) (i : Nat) (hi : i < 10) (hn : nw < 17) : Met l yX0_negate wsX0_negate ({ frames := 0, cells := 0, slots := 0, locals := 0 }) (va_Pc [.ref h0, .int (nI i)] (fun U => U.heap.size = sz ∧ va_P (dC, dI) vwCl (wgW h0 qc qh r cA cI cJ me nw u tw iv hd M) U.heap ∧ va_K (dC, dI) vwCl (wgT cA cI cJ) U ∧ va_D (fun _ => True) (wgW h0 qc qh r cA cI cJ me nw u tw iv hd M))) (va_Qv (fun v : Unit => True) (fun v t => va_P (dC, dI) vwCl (wgW h0 qc qh r cA cI cJ me nw u tw iv hd (ngF M i (nw + 1))) t.heap ∧ va_K (dC, dI) vwCl (wgT cA cI cJ) t ∧ va_D (va_A (wgW h0 qc qh r cA cI cJ me nw u tw iv hd M) sz) (wgW h0 qc qh r cA cI cJ me nw u tw iv hd (ngF M i (nw + 1)))) (va_A (wgW h0 qc qh r cA cI cJ me nw u tw iv hd M) sz)) 0 0 (va_A (wgW h0 qc qh r cA cI cJ me nw u tw iv hd M) sz) := by
  refine Met.ofW (cc := cX0_negate) (maxL := 3) (ret := none) (by decide) rfl ?_
  intro p e s m args below meth c s₁ B hml hv
  obtain ⟨rfl, hsz, hP, hK, hD0⟩ := hv
  have hx := B.exec
  have hb := B.bytes
  have hr := B.returns
  have hts := atoms_spec (ws := wsX0_negate) B.pre
  have hown : s.vm.findClass RX0 = some m.cls := findClass_of_methodNamed B.named
  subst hsz
  have hD := hD0.self (sz := s.heap.size)
  clear hD0
  generalize hAe : va_A (wgW h0 qc qh r cA cI cJ me nw u tw iv hd M) s.heap.size = A at hD ⊢
  have hA : ∀ q : Nat, s.heap.size ≤ q → A q := fun q h => by rw [← hAe]; exact Or.inr h
  have hl := lv_entry ([.ref h0, .int (nI i)]) (n := 3) (Nat.le_of_ble_eq_true rfl)
  rw [lg_entry_eq]
  generalize (lg_sl ([.ref h0, .int (nI i)]) ++ List.replicate (3 - (lg_sl ([.ref h0, .int (nI i)])).length) Slot.unset).toArray = ls at hl ⊢
  have hl : lv_has ls 3 [(0, .ref h0), (1, .int (nI i))] := hl
  have hP : va_P (dC, dI) vwCl (wgW h0 qc qh r cA cI cJ me nw u tw iv hd M) s.heap := hP
  obtain ⟨H, hH⟩ : ∃ H, H = s.heap := ⟨_, rfl⟩
  have hS : va_S A s.heap H [] := by rw [hH]; exact va_S.rf
  rw [← hH] at hP ⊢
  refine lv_iconst (v := nI 0) hx hb dX0_negate_0 (by decide) ?_
  refine lv_istore_n (lv' := [(2, .int (nI 0)), (0, .ref h0), (1, .int (nI i))]) hx hb dX0_negate_1 rfl hl (by decide) rfl (fun ls hl => ?_)
  have loop : ∀ (d k : Nat) (H : Heap) (locs : List Loc) (ls : Array Slot), k + d = nw + 1 → va_P (dC, dI) vwCl (wgW h0 qc qh r cA cI cJ me nw u tw iv hd (ngF M i k)) H → va_D A (wgW h0 qc qh r cA cI cJ me nw u tw iv hd (ngF M i k)) → va_S A s.heap H locs → lv_has ls 3 [(2, .int (nI k)), (0, .ref h0), (1, .int (nI i))] → W p l e (headSpec wsX0_negate ({ frames := 0, cells := 0, slots := 0, locals := 0 })).room s m #[.ref h0, .int (nI i)] below meth c H locs 0 0 (MQ below (va_Qv (fun v : Unit => True) (fun v t => va_P (dC, dI) vwCl (wgW h0 qc qh r cA cI cJ me nw u tw iv hd (ngF M i (nw + 1))) t.heap ∧ va_K (dC, dI) vwCl (wgT cA cI cJ) t ∧ va_D A (wgW h0 qc qh r cA cI cJ me nw u tw iv hd (ngF M i (nw + 1)))) A) #[.ref h0, .int (nI i)] s 0 0 A) (F0 m 2 ls []) := by
    intro d
    induction d with
    | zero =>
      intro k H locs ls hk hP hD hS hl
      refine lv_iload_n hx hb dX0_negate_2 rfl (lv_at hl 0 rfl) ?_
      refine lv_aload_n hx hb dX0_negate_3 rfl (lv_at hl 1 rfl) ?_
      refine va_get (D := (dC, dI)) (ci := 0) (v := .int (nI nw)) (C := RX0) (T := TX0) (N := 7) hx hb hts (fun _ h => List.mem_cons_of_mem _ (List.mem_append_right _ h)) hown hK hP 0 rfl rfl 3 (by decide) (hts (.fieldLink RX0 24 "RankFinder$Weighing" "weights" "I") (List.mem_of_getElem? (i := 1) rfl)) (fun _ h9 => h9) rfl dX0_negate_4 ?_
      refine lv_icmp_gt (tgt := 33) hx hb dX0_negate_7 (by decide) (fun c1 => ?_) (fun c1 => ?_)
      · obtain rfl : k = nw + 1 := by omega
        exact W.vret hx hb hr (fun t ht hW => ⟨⟨(), rfl, trivial, by rw [ht]; exact hP, va_K.moved hW.alike hK, hD⟩, hS.F ht⟩) hS.2.2 dX0_negate_33
      · exact absurd (nI_lt (by omega) (by omega)) c1
    | succ d ih =>
      intro k H locs ls hk hP hD hS hl
      refine lv_iload_n hx hb dX0_negate_2 rfl (lv_at hl 0 rfl) ?_
      refine lv_aload_n hx hb dX0_negate_3 rfl (lv_at hl 1 rfl) ?_
      refine va_get (D := (dC, dI)) (ci := 0) (v := .int (nI nw)) (C := RX0) (T := TX0) (N := 7) hx hb hts (fun _ h => List.mem_cons_of_mem _ (List.mem_append_right _ h)) hown hK hP 0 rfl rfl 3 (by decide) (hts (.fieldLink RX0 24 "RankFinder$Weighing" "weights" "I") (List.mem_of_getElem? (i := 1) rfl)) (fun _ h9 => h9) rfl dX0_negate_4 ?_
      refine lv_icmp_gt (tgt := 33) hx hb dX0_negate_7 (by decide) (fun c1 => ?_) (fun c1 => ?_)
      · exact absurd c1 (nI_nlt (by omega) (by omega))
      · refine lv_aload_n hx hb dX0_negate_10 rfl (lv_at hl 1 rfl) ?_
        refine va_get (D := (dC, dI)) (ci := 0) (v := .ref qc) (C := RX0) (T := TX0) (N := 7) hx hb hts (fun _ h => List.mem_cons_of_mem _ (List.mem_append_right _ h)) hown hK hP 0 rfl rfl 0 (by decide) (hts (.fieldLink RX0 13 "RankFinder$Weighing" "cell" "[[J") (List.mem_of_getElem? (i := 2) rfl)) (fun _ h9 => h9) rfl dX0_negate_11 ?_
        refine lv_iload_n hx hb dX0_negate_14 rfl (lv_at hl 2 rfl) ?_
        refine na_aald (y := r i) hx hb hK hP 1 0 rfl rfl hi (by decide) (if_pos hi) dX0_negate_15 ?_
        refine lv_iload_n hx hb dX0_negate_16 rfl (lv_at hl 0 rfl) ?_
        refine lv_aload_n hx hb dX0_negate_17 rfl (lv_at hl 1 rfl) ?_
        refine va_get (D := (dC, dI)) (ci := 0) (v := .ref qc) (C := RX0) (T := TX0) (N := 7) hx hb hts (fun _ h => List.mem_cons_of_mem _ (List.mem_append_right _ h)) hown hK hP 0 rfl rfl 0 (by decide) (hts (.fieldLink RX0 13 "RankFinder$Weighing" "cell" "[[J") (List.mem_of_getElem? (i := 2) rfl)) (fun _ h9 => h9) rfl dX0_negate_18 ?_
        refine lv_iload_n hx hb dX0_negate_21 rfl (lv_at hl 2 rfl) ?_
        refine na_aald (y := r i) hx hb hK hP 1 0 rfl rfl hi (by decide) (if_pos hi) dX0_negate_22 ?_
        refine lv_iload_n hx hb dX0_negate_23 rfl (lv_at hl 0 rfl) ?_
        refine na_lald hx hb hK hP (3 + i) 2 (gG_get hi rfl) rfl (show k < 17 by omega) (by decide) dX0_negate_24 ?_
        refine lv_lneg hx hb dX0_negate_25 ?_
        refine na_last hx hb hK hP hD hS (3 + i) 2 (gG_get hi rfl) rfl (show k < 17 by omega) (by decide) dX0_negate_26 (fun H locs hP hD hS => ?_)
        rw [wgW_set hi] at hP hD
        have hP : va_P (dC, dI) vwCl (wgW h0 qc qh r cA cI cJ me nw u tw iv hd (mup (ngF M i k) i k (-((ngF M i k) i k)))) H := hP
        have hD : va_D A (wgW h0 qc qh r cA cI cJ me nw u tw iv hd (mup (ngF M i k) i k (-((ngF M i k) i k)))) := hD
        rw [ngF_s] at hP hD
        refine lv_iinc (v := nI (k + 1)) (lv' := [(2, .int (nI (k + 1))), (0, .ref h0), (1, .int (nI i))]) hx hb dX0_negate_27 hl (k := 0) rfl (nI_1 _) (by decide) rfl (fun ls hl => ?_)
        refine lv_goto (tgt := 2) hx hb dX0_negate_30 (by decide) ?_
        exact ih (k + 1) H _ ls (by omega) hP hD hS (lv_sub hl [0, 1, 2] rfl)
  exact loop (nw + 1) 0 H [] ls (by omega) (by rw [ngF_0]; exact hP) (by rw [ngF_0]; exact hD) hS hl
end
section
/-! ===== static methods over numbers; differenceByUnit, takeUnit ===== -/
theorem va_nilP {D : va_G} {cl : List vw_C} {H : Heap} : va_P D cl [] H := fun k q h => by simp at h
theorem va_nilD {A : Nat → Prop} : va_D A [] := ⟨fun i j p q h => by simp at h, fun k q h => by simp at h⟩
theorem va_nilA {A : Nat → Prop} {H0 H : Heap} {locs : List Loc} (hS : va_S A H0 H locs) (hA : ∀ q, H0.size ≤ q → A q) : ∀ q, va_A ([] : va_W) H.size q → A q := fun q h => by
  rcases h with ⟨k, e, h⟩ | h
  · simp at h
  · exact hA q (Nat.le_trans hS.1 h)
theorem va_keep {D : va_G} {cl : List vw_C} {ws : va_W} {H H1 : Heap} (hP : va_P D cl ws H) (hk : ∀ q : Nat, q < H.size → ¬ va_A ([] : va_W) H.size q → H1[q]? = H[q]?) : va_P D cl ws H1 := fun k q h => (hP k q h).kept (hk q.1 (hP k q h).lt (fun q9 => by
  rcases q9 with ⟨k, e, h9⟩ | h9
  · simp at h9
  · have := (hP k q h).lt; omega))
def sr (x : Int64) (k : Int32) : Int64 := x >>> (k.toInt64 &&& 63)
def sl (x : Int64) (k : Int32) : Int64 := x <<< (k.toInt64 &&& 63)
def ur (x : Int64) (k : Int32) : Int64 := (x.toUInt64 >>> (k.toInt64.toUInt64 &&& Int64.toUInt64 63)).toInt64
/-- highProduct -/
def hpM (a b : Int64) : Int64 := sr a (nI 32) * (b &&& 4294967295) + ur ((a &&& 4294967295) * (b &&& 4294967295)) (nI 32)
def hpF (a b : Int64) : Int64 := sr a (nI 32) * sr b (nI 32) + sr (hpM a b) (nI 32) + sr ((a &&& 4294967295) * sr b (nI 32) + (hpM a b &&& 4294967295)) (nI 32)
/-- differenceByUnit -/
def dbH (a b c d : Int64) : Int64 := if a * b + (-9223372036854775808) < c * d + (-9223372036854775808) then hpF a b - hpF c d - 1 else hpF a b - hpF c d
def dbF (tw : Int32) (iv a b c d : Int64) : Int64 := (ur (a * b - c * d) tw ||| sl (sl (dbH a b c d) (nI 1)) (nI 63 - tw)) * iv
/-- Long.bitCount -/
def bc1 (x : Int64) : Int64 := x - (ur x (nI 1) &&& 6148914691236517205)
def bc2 (x : Int64) : Int64 := (x &&& 3689348814741910323) + (ur x (nI 2) &&& 3689348814741910323)
def bc3 (x : Int64) : Int64 := (x + ur x (nI 4)) &&& 1085102592571150095
def bc4 (k : Nat) (x : Int64) : Int64 := x + ur x (nI k)
def bcF (x : Int64) : Int32 := (bc4 32 (bc4 16 (bc4 8 (bc3 (bc2 (bc1 x)))))).toInt32 &&& nI 127
/-- the inverse, round by round -/
def nwF (o : Int64) : Nat → Int64
  | 0 => o
  | k + 1 => nwF o k * (2 - o * nwF o k)
set_option maxHeartbeats 4000000 in
set_option maxRecDepth 100000 in
/-- highProduct(a, b) -/
theorem c_X0_highProduct (l : Launch) (dC : Nat → ClassId) (dI : Nat → Nat → Nat) (sz : Nat) (a b : Int64) : Met l yX0_highProduct wsX0_highProduct ({ frames := 0, cells := 0, slots := 0, locals := 0 }) (va_Pc [.long a, .long b] (fun U => U.heap.size = sz ∧ va_P (dC, dI) vwCl ([] : va_W) U.heap ∧ va_K (dC, dI) vwCl [] U ∧ va_D (fun _ => True) ([] : va_W))) (va_Ql (fun (x : Int64) (v : Unit) => x = hpF a b) (fun v t => va_P (dC, dI) vwCl ([] : va_W) t.heap ∧ va_K (dC, dI) vwCl [] t ∧ va_D (va_A ([] : va_W) sz) ([] : va_W)) (va_A ([] : va_W) sz)) 0 0 (va_A ([] : va_W) sz) := by
  refine Met.ofW (cc := cX0_highProduct) (maxL := 16) (ret := (some .long)) (by decide) rfl ?_
  intro p e s m args below meth c s₁ B hml hv
  obtain ⟨rfl, hsz, hP, hK, hD0⟩ := hv
  have hx := B.exec
  have hb := B.bytes
  have hr := B.returns
  have hts := atoms_spec (ws := wsX0_highProduct) B.pre
  have hown : s.vm.findClass RX0 = some m.cls := findClass_of_methodNamed B.named
  subst hsz
  have hD := hD0.self (sz := s.heap.size)
  clear hD0
  generalize hAe : va_A ([] : va_W) s.heap.size = A at hD ⊢
  have hA : ∀ q : Nat, s.heap.size ≤ q → A q := fun q h => by rw [← hAe]; exact Or.inr h
  have hl := lv_entry ([.long a, .long b]) (n := 16) (Nat.le_of_ble_eq_true rfl)
  rw [lg_entry_eq]
  generalize (lg_sl ([.long a, .long b]) ++ List.replicate (16 - (lg_sl ([.long a, .long b])).length) Slot.unset).toArray = ls at hl ⊢
  have hl : lv_has ls 16 [(0, .long a), (2, .long b)] := hl
  have hP : va_P (dC, dI) vwCl ([] : va_W) s.heap := hP
  obtain ⟨H, hH⟩ : ∃ H, H = s.heap := ⟨_, rfl⟩
  have hS : va_S A s.heap H [] := by rw [hH]; exact va_S.rf
  rw [← hH] at hP ⊢
  refine lv_lload_n hx hb dX0_highProduct_0 rfl (lv_at hl 0 rfl) ?_
  refine lv_bipush (v := nI 32) hx hb dX0_highProduct_1 (by decide) ?_
  refine lv_lshr hx hb dX0_highProduct_3 rfl ?_
  refine lv_lstore (lv' := [(4, .long (a >>> (Int32.toInt64 (nI 32) &&& 63))), (0, .long a), (2, .long b)]) hx hb dX0_highProduct_4 hl (by decide) rfl (fun ls hl => ?_)
  refine lv_lload_n hx hb dX0_highProduct_6 rfl (lv_at hl 1 rfl) ?_
  refine lv_ldc2 (v := 4294967295) hx hb hown (hts (.constantLong RX0 115 (4294967295)) (List.mem_of_getElem? (i := 1) rfl)) dX0_highProduct_7 ?_
  refine lv_land hx hb dX0_highProduct_10 ?_
  refine lv_lstore (lv' := [(6, .long (a &&& 4294967295)), (4, .long (a >>> (Int32.toInt64 (nI 32) &&& 63))), (0, .long a), (2, .long b)]) hx hb dX0_highProduct_11 hl (by decide) rfl (fun ls hl => ?_)
  refine lv_lload_n hx hb dX0_highProduct_13 rfl (lv_at hl 3 rfl) ?_
  refine lv_bipush (v := nI 32) hx hb dX0_highProduct_14 (by decide) ?_
  refine lv_lshr hx hb dX0_highProduct_16 rfl ?_
  refine lv_lstore (lv' := [(8, .long (b >>> (Int32.toInt64 (nI 32) &&& 63))), (6, .long (a &&& 4294967295)), (4, .long (a >>> (Int32.toInt64 (nI 32) &&& 63))), (0, .long a), (2, .long b)]) hx hb dX0_highProduct_17 hl (by decide) rfl (fun ls hl => ?_)
  refine lv_lload_n hx hb dX0_highProduct_19 rfl (lv_at hl 4 rfl) ?_
  refine lv_ldc2 (v := 4294967295) hx hb hown (hts (.constantLong RX0 115 (4294967295)) (List.mem_of_getElem? (i := 1) rfl)) dX0_highProduct_20 ?_
  refine lv_land hx hb dX0_highProduct_23 ?_
  refine lv_lstore (lv' := [(10, .long (b &&& 4294967295)), (8, .long (b >>> (Int32.toInt64 (nI 32) &&& 63))), (6, .long (a &&& 4294967295)), (4, .long (a >>> (Int32.toInt64 (nI 32) &&& 63))), (0, .long a), (2, .long b)]) hx hb dX0_highProduct_24 hl (by decide) rfl (fun ls hl => ?_)
  refine lv_lload hx hb dX0_highProduct_26 (lv_at hl 3 rfl) ?_
  refine lv_lload hx hb dX0_highProduct_28 (lv_at hl 0 rfl) ?_
  refine lv_lmul hx hb dX0_highProduct_30 ?_
  refine lv_lload hx hb dX0_highProduct_31 (lv_at hl 2 rfl) ?_
  refine lv_lload hx hb dX0_highProduct_33 (lv_at hl 0 rfl) ?_
  refine lv_lmul hx hb dX0_highProduct_35 ?_
  refine lv_bipush (v := nI 32) hx hb dX0_highProduct_36 (by decide) ?_
  refine lv_lushr hx hb dX0_highProduct_38 rfl ?_
  refine lv_ladd hx hb dX0_highProduct_39 ?_
  refine lv_lstore (lv' := [(12, .long (((a >>> (Int32.toInt64 (nI 32) &&& 63)) * (b &&& 4294967295)) + ((Int64.toUInt64 ((a &&& 4294967295) * (b &&& 4294967295)) >>> ((Int32.toInt64 (nI 32)).toUInt64 &&& Int64.toUInt64 63)).toInt64))), (10, .long (b &&& 4294967295)), (8, .long (b >>> (Int32.toInt64 (nI 32) &&& 63))), (6, .long (a &&& 4294967295)), (4, .long (a >>> (Int32.toInt64 (nI 32) &&& 63))), (0, .long a), (2, .long b)]) hx hb dX0_highProduct_40 hl (by decide) rfl (fun ls hl => ?_)
  refine lv_lload hx hb dX0_highProduct_42 (lv_at hl 3 rfl) ?_
  refine lv_lload hx hb dX0_highProduct_44 (lv_at hl 2 rfl) ?_
  refine lv_lmul hx hb dX0_highProduct_46 ?_
  refine lv_lload hx hb dX0_highProduct_47 (lv_at hl 0 rfl) ?_
  refine lv_ldc2 (v := 4294967295) hx hb hown (hts (.constantLong RX0 115 (4294967295)) (List.mem_of_getElem? (i := 1) rfl)) dX0_highProduct_49 ?_
  refine lv_land hx hb dX0_highProduct_52 ?_
  refine lv_ladd hx hb dX0_highProduct_53 ?_
  refine lv_lstore (lv' := [(14, .long (((a &&& 4294967295) * (b >>> (Int32.toInt64 (nI 32) &&& 63))) + ((((a >>> (Int32.toInt64 (nI 32) &&& 63)) * (b &&& 4294967295)) + ((Int64.toUInt64 ((a &&& 4294967295) * (b &&& 4294967295)) >>> ((Int32.toInt64 (nI 32)).toUInt64 &&& Int64.toUInt64 63)).toInt64)) &&& 4294967295))), (12, .long (((a >>> (Int32.toInt64 (nI 32) &&& 63)) * (b &&& 4294967295)) + ((Int64.toUInt64 ((a &&& 4294967295) * (b &&& 4294967295)) >>> ((Int32.toInt64 (nI 32)).toUInt64 &&& Int64.toUInt64 63)).toInt64))), (10, .long (b &&& 4294967295)), (8, .long (b >>> (Int32.toInt64 (nI 32) &&& 63))), (6, .long (a &&& 4294967295)), (4, .long (a >>> (Int32.toInt64 (nI 32) &&& 63))), (0, .long a), (2, .long b)]) hx hb dX0_highProduct_54 hl (by decide) rfl (fun ls hl => ?_)
  refine lv_lload hx hb dX0_highProduct_56 (lv_at hl 5 rfl) ?_
  refine lv_lload hx hb dX0_highProduct_58 (lv_at hl 3 rfl) ?_
  refine lv_lmul hx hb dX0_highProduct_60 ?_
  refine lv_lload hx hb dX0_highProduct_61 (lv_at hl 1 rfl) ?_
  refine lv_bipush (v := nI 32) hx hb dX0_highProduct_63 (by decide) ?_
  refine lv_lshr hx hb dX0_highProduct_65 rfl ?_
  refine lv_ladd hx hb dX0_highProduct_66 ?_
  refine lv_lload hx hb dX0_highProduct_67 (lv_at hl 0 rfl) ?_
  refine lv_bipush (v := nI 32) hx hb dX0_highProduct_69 (by decide) ?_
  refine lv_lshr hx hb dX0_highProduct_71 rfl ?_
  refine lv_ladd hx hb dX0_highProduct_72 ?_
  exact W.lret (v := ((((a >>> (Int32.toInt64 (nI 32) &&& 63)) * (b >>> (Int32.toInt64 (nI 32) &&& 63))) + ((((a >>> (Int32.toInt64 (nI 32) &&& 63)) * (b &&& 4294967295)) + ((Int64.toUInt64 ((a &&& 4294967295) * (b &&& 4294967295)) >>> ((Int32.toInt64 (nI 32)).toUInt64 &&& Int64.toUInt64 63)).toInt64)) >>> (Int32.toInt64 (nI 32) &&& 63))) + ((((a &&& 4294967295) * (b >>> (Int32.toInt64 (nI 32) &&& 63))) + ((((a >>> (Int32.toInt64 (nI 32) &&& 63)) * (b &&& 4294967295)) + ((Int64.toUInt64 ((a &&& 4294967295) * (b &&& 4294967295)) >>> ((Int32.toInt64 (nI 32)).toUInt64 &&& Int64.toUInt64 63)).toInt64)) &&& 4294967295)) >>> (Int32.toInt64 (nI 32) &&& 63)))) hx hb hr (fun t ht hW => ⟨⟨((((a >>> (Int32.toInt64 (nI 32) &&& 63)) * (b >>> (Int32.toInt64 (nI 32) &&& 63))) + ((((a >>> (Int32.toInt64 (nI 32) &&& 63)) * (b &&& 4294967295)) + ((Int64.toUInt64 ((a &&& 4294967295) * (b &&& 4294967295)) >>> ((Int32.toInt64 (nI 32)).toUInt64 &&& Int64.toUInt64 63)).toInt64)) >>> (Int32.toInt64 (nI 32) &&& 63))) + ((((a &&& 4294967295) * (b >>> (Int32.toInt64 (nI 32) &&& 63))) + ((((a >>> (Int32.toInt64 (nI 32) &&& 63)) * (b &&& 4294967295)) + ((Int64.toUInt64 ((a &&& 4294967295) * (b &&& 4294967295)) >>> ((Int32.toInt64 (nI 32)).toUInt64 &&& Int64.toUInt64 63)).toInt64)) &&& 4294967295)) >>> (Int32.toInt64 (nI 32) &&& 63))), (), rfl, rfl, by rw [ht]; exact hP, va_K.moved hW.alike hK, hD⟩, hS.F ht⟩) hS.2.2 dX0_highProduct_73
set_option maxHeartbeats 4000000 in
set_option maxRecDepth 100000 in
/-- Long.bitCount(a) -/
theorem c_J13_bitCount (l : Launch) (dC : Nat → ClassId) (dI : Nat → Nat → Nat) (sz : Nat) (a : Int64) : Met l yJ13_bitCount_95d88 wsJ13_bitCount_95d88 ({ frames := 0, cells := 0, slots := 0, locals := 0 }) (va_Pc [.long a] (fun U => U.heap.size = sz ∧ va_P (dC, dI) vwCl ([] : va_W) U.heap ∧ va_K (dC, dI) vwCl [] U ∧ va_D (fun _ => True) ([] : va_W))) (va_Qi (fun (x : Int32) (v : Unit) => x = bcF a) (fun v t => va_P (dC, dI) vwCl ([] : va_W) t.heap ∧ va_K (dC, dI) vwCl [] t ∧ va_D (va_A ([] : va_W) sz) ([] : va_W)) (va_A ([] : va_W) sz)) 0 0 (va_A ([] : va_W) sz) := by
  refine Met.ofW (cc := cJ13_bitCount_95d88) (maxL := 2) (ret := (some .int)) (by decide) rfl ?_
  intro p e s m args below meth c s₁ B hml hv
  obtain ⟨rfl, hsz, hP, hK, hD0⟩ := hv
  have hx := B.exec
  have hb := B.bytes
  have hr := B.returns
  have hts := atoms_spec (ws := wsJ13_bitCount_95d88) B.pre
  have hown : s.vm.findClass RJ13 = some m.cls := findClass_of_methodNamed B.named
  subst hsz
  have hD := hD0.self (sz := s.heap.size)
  clear hD0
  generalize hAe : va_A ([] : va_W) s.heap.size = A at hD ⊢
  have hA : ∀ q : Nat, s.heap.size ≤ q → A q := fun q h => by rw [← hAe]; exact Or.inr h
  have hl := lv_entry ([.long a]) (n := 2) (Nat.le_of_ble_eq_true rfl)
  rw [lg_entry_eq]
  generalize (lg_sl ([.long a]) ++ List.replicate (2 - (lg_sl ([.long a])).length) Slot.unset).toArray = ls at hl ⊢
  have hl : lv_has ls 2 [(0, .long a)] := hl
  have hP : va_P (dC, dI) vwCl ([] : va_W) s.heap := hP
  obtain ⟨H, hH⟩ : ∃ H, H = s.heap := ⟨_, rfl⟩
  have hS : va_S A s.heap H [] := by rw [hH]; exact va_S.rf
  rw [← hH] at hP ⊢
  refine lv_lload_n hx hb dJ13_bitCount_95d88_0 rfl (lv_at hl 0 rfl) ?_
  refine lv_lload_n hx hb dJ13_bitCount_95d88_1 rfl (lv_at hl 0 rfl) ?_
  refine lv_iconst (v := nI 1) hx hb dJ13_bitCount_95d88_2 (by decide) ?_
  refine lv_lushr hx hb dJ13_bitCount_95d88_3 rfl ?_
  refine lv_ldc2 (v := 6148914691236517205) hx hb hown (hts (.constantLong RJ13 314 (6148914691236517205)) (List.mem_of_getElem? (i := 1) rfl)) dJ13_bitCount_95d88_4 ?_
  refine lv_land hx hb dJ13_bitCount_95d88_7 ?_
  refine lv_lsub hx hb dJ13_bitCount_95d88_8 ?_
  refine lv_topl (fun y_1 ey_1 => ?_)
  refine lv_lstore_n (lv' := [(0, .long y_1)]) hx hb dJ13_bitCount_95d88_9 rfl hl (by decide) rfl (fun ls hl => ?_)
  refine lv_lload_n hx hb dJ13_bitCount_95d88_10 rfl (lv_at hl 0 rfl) ?_
  refine lv_ldc2 (v := 3689348814741910323) hx hb hown (hts (.constantLong RJ13 316 (3689348814741910323)) (List.mem_of_getElem? (i := 2) rfl)) dJ13_bitCount_95d88_11 ?_
  refine lv_land hx hb dJ13_bitCount_95d88_14 ?_
  refine lv_lload_n hx hb dJ13_bitCount_95d88_15 rfl (lv_at hl 0 rfl) ?_
  refine lv_iconst (v := nI 2) hx hb dJ13_bitCount_95d88_16 (by decide) ?_
  refine lv_lushr hx hb dJ13_bitCount_95d88_17 rfl ?_
  refine lv_ldc2 (v := 3689348814741910323) hx hb hown (hts (.constantLong RJ13 316 (3689348814741910323)) (List.mem_of_getElem? (i := 2) rfl)) dJ13_bitCount_95d88_18 ?_
  refine lv_land hx hb dJ13_bitCount_95d88_21 ?_
  refine lv_ladd hx hb dJ13_bitCount_95d88_22 ?_
  refine lv_topl (fun y_2 ey_2 => ?_)
  refine lv_lstore_n (lv' := [(0, .long y_2)]) hx hb dJ13_bitCount_95d88_23 rfl hl (by decide) rfl (fun ls hl => ?_)
  refine lv_lload_n hx hb dJ13_bitCount_95d88_24 rfl (lv_at hl 0 rfl) ?_
  refine lv_lload_n hx hb dJ13_bitCount_95d88_25 rfl (lv_at hl 0 rfl) ?_
  refine lv_iconst (v := nI 4) hx hb dJ13_bitCount_95d88_26 (by decide) ?_
  refine lv_lushr hx hb dJ13_bitCount_95d88_27 rfl ?_
  refine lv_ladd hx hb dJ13_bitCount_95d88_28 ?_
  refine lv_ldc2 (v := 1085102592571150095) hx hb hown (hts (.constantLong RJ13 318 (1085102592571150095)) (List.mem_of_getElem? (i := 3) rfl)) dJ13_bitCount_95d88_29 ?_
  refine lv_land hx hb dJ13_bitCount_95d88_32 ?_
  refine lv_topl (fun y_3 ey_3 => ?_)
  refine lv_lstore_n (lv' := [(0, .long y_3)]) hx hb dJ13_bitCount_95d88_33 rfl hl (by decide) rfl (fun ls hl => ?_)
  refine lv_lload_n hx hb dJ13_bitCount_95d88_34 rfl (lv_at hl 0 rfl) ?_
  refine lv_lload_n hx hb dJ13_bitCount_95d88_35 rfl (lv_at hl 0 rfl) ?_
  refine lv_bipush (v := nI 8) hx hb dJ13_bitCount_95d88_36 (by decide) ?_
  refine lv_lushr hx hb dJ13_bitCount_95d88_38 rfl ?_
  refine lv_ladd hx hb dJ13_bitCount_95d88_39 ?_
  refine lv_topl (fun y_4 ey_4 => ?_)
  refine lv_lstore_n (lv' := [(0, .long y_4)]) hx hb dJ13_bitCount_95d88_40 rfl hl (by decide) rfl (fun ls hl => ?_)
  refine lv_lload_n hx hb dJ13_bitCount_95d88_41 rfl (lv_at hl 0 rfl) ?_
  refine lv_lload_n hx hb dJ13_bitCount_95d88_42 rfl (lv_at hl 0 rfl) ?_
  refine lv_bipush (v := nI 16) hx hb dJ13_bitCount_95d88_43 (by decide) ?_
  refine lv_lushr hx hb dJ13_bitCount_95d88_45 rfl ?_
  refine lv_ladd hx hb dJ13_bitCount_95d88_46 ?_
  refine lv_topl (fun y_5 ey_5 => ?_)
  refine lv_lstore_n (lv' := [(0, .long y_5)]) hx hb dJ13_bitCount_95d88_47 rfl hl (by decide) rfl (fun ls hl => ?_)
  refine lv_lload_n hx hb dJ13_bitCount_95d88_48 rfl (lv_at hl 0 rfl) ?_
  refine lv_lload_n hx hb dJ13_bitCount_95d88_49 rfl (lv_at hl 0 rfl) ?_
  refine lv_bipush (v := nI 32) hx hb dJ13_bitCount_95d88_50 (by decide) ?_
  refine lv_lushr hx hb dJ13_bitCount_95d88_52 rfl ?_
  refine lv_ladd hx hb dJ13_bitCount_95d88_53 ?_
  refine lv_topl (fun y_6 ey_6 => ?_)
  refine lv_lstore_n (lv' := [(0, .long y_6)]) hx hb dJ13_bitCount_95d88_54 rfl hl (by decide) rfl (fun ls hl => ?_)
  refine lv_lload_n hx hb dJ13_bitCount_95d88_55 rfl (lv_at hl 0 rfl) ?_
  refine lv_l2i hx hb dJ13_bitCount_95d88_56 rfl ?_
  refine lv_bipush (v := nI 127) hx hb dJ13_bitCount_95d88_57 (by decide) ?_
  refine lv_iand hx hb dJ13_bitCount_95d88_59 ?_
  exact W.iret (v := ((Int64.toInt32 y_6) &&& (nI 127))) hx hb hr (fun t ht hW => ⟨⟨((Int64.toInt32 y_6) &&& (nI 127)), (), rfl, by rw [ey_6, ey_5, ey_4, ey_3, ey_2, ey_1]; rfl, by rw [ht]; exact hP, va_K.moved hW.alike hK, hD⟩, hS.F ht⟩) hS.2.2 dJ13_bitCount_95d88_60
set_option maxHeartbeats 4000000 in
set_option maxRecDepth 100000 in
/-- differenceByUnit(a, b, c, d) -/
theorem c_X0_differenceByUnit (l : Launch) (dC : Nat → ClassId) (dI : Nat → Nat → Nat) (h0 qc qh : Nat) (r : Nat → Nat) (cA cI cJ : ClassId) (sz : Nat) (me nw : Nat) (u : Int64) (tw : Int32) (iv : Int64) (hd : Nat → Int32) (M : Nat → Nat → Int64) (a b c d : Int64) : Met l yX0_differenceByUnit wsX0_differenceByUnit ({ frames := 1, cells := 0, slots := 0, locals := 35 }) (va_Pc [.ref h0, .long a, .long b, .long c, .long d] (fun U => U.heap.size = sz ∧ va_P (dC, dI) vwCl (wgW h0 qc qh r cA cI cJ me nw u tw iv hd M) U.heap ∧ va_K (dC, dI) vwCl (wgT cA cI cJ) U ∧ va_D (fun _ => True) (wgW h0 qc qh r cA cI cJ me nw u tw iv hd M))) (va_Ql (fun (x : Int64) (v : Unit) => x = dbF tw iv a b c d) (fun v t => va_P (dC, dI) vwCl (wgW h0 qc qh r cA cI cJ me nw u tw iv hd M) t.heap ∧ va_K (dC, dI) vwCl (wgT cA cI cJ) t ∧ va_D (va_A (wgW h0 qc qh r cA cI cJ me nw u tw iv hd M) sz) (wgW h0 qc qh r cA cI cJ me nw u tw iv hd M)) (va_A (wgW h0 qc qh r cA cI cJ me nw u tw iv hd M) sz)) 0 0 (va_A (wgW h0 qc qh r cA cI cJ me nw u tw iv hd M) sz) := by
  refine Met.ofW (cc := cX0_differenceByUnit) (maxL := 19) (ret := (some .long)) (by decide) rfl ?_
  intro p e s m args below meth cx s₁ B hml hv
  obtain ⟨rfl, hsz, hP, hK, hD0⟩ := hv
  have hx := B.exec
  have hb := B.bytes
  have hr := B.returns
  have hts := atoms_spec (ws := wsX0_differenceByUnit) B.pre
  have hown : s.vm.findClass RX0 = some m.cls := findClass_of_methodNamed B.named
  subst hsz
  have hD := hD0.self (sz := s.heap.size)
  clear hD0
  generalize hAe : va_A (wgW h0 qc qh r cA cI cJ me nw u tw iv hd M) s.heap.size = A at hD ⊢
  have hA : ∀ q : Nat, s.heap.size ≤ q → A q := fun q h => by rw [← hAe]; exact Or.inr h
  have hl := lv_entry ([.ref h0, .long a, .long b, .long c, .long d]) (n := 19) (Nat.le_of_ble_eq_true rfl)
  rw [lg_entry_eq]
  generalize (lg_sl ([.ref h0, .long a, .long b, .long c, .long d]) ++ List.replicate (19 - (lg_sl ([.ref h0, .long a, .long b, .long c, .long d])).length) Slot.unset).toArray = ls at hl ⊢
  have hl : lv_has ls 19 [(0, .ref h0), (1, .long a), (3, .long b), (5, .long c), (7, .long d)] := hl
  have hP : va_P (dC, dI) vwCl (wgW h0 qc qh r cA cI cJ me nw u tw iv hd M) s.heap := hP
  obtain ⟨H, hH⟩ : ∃ H, H = s.heap := ⟨_, rfl⟩
  have hS : va_S A s.heap H [] := by rw [hH]; exact va_S.rf
  rw [← hH] at hP ⊢
  refine lv_lload_n hx hb dX0_differenceByUnit_0 rfl (lv_at hl 1 rfl) ?_
  refine lv_lload_n hx hb dX0_differenceByUnit_1 rfl (lv_at hl 2 rfl) ?_
  refine lv_lmul hx hb dX0_differenceByUnit_2 ?_
  refine lv_lstore (lv' := [(9, .long (a * b)), (0, .ref h0), (1, .long a), (3, .long b), (5, .long c), (7, .long d)]) hx hb dX0_differenceByUnit_3 hl (by decide) rfl (fun ls hl => ?_)
  refine lv_lload hx hb dX0_differenceByUnit_5 (lv_at hl 4 rfl) ?_
  refine lv_lload hx hb dX0_differenceByUnit_7 (lv_at hl 5 rfl) ?_
  refine lv_lmul hx hb dX0_differenceByUnit_9 ?_
  refine lv_lstore (lv' := [(11, .long (c * d)), (9, .long (a * b)), (0, .ref h0), (1, .long a), (3, .long b), (5, .long c), (7, .long d)]) hx hb dX0_differenceByUnit_10 hl (by decide) rfl (fun ls hl => ?_)
  refine lv_lload hx hb dX0_differenceByUnit_12 (lv_at hl 1 rfl) ?_
  refine lv_lload hx hb dX0_differenceByUnit_14 (lv_at hl 0 rfl) ?_
  refine lv_lsub hx hb dX0_differenceByUnit_16 ?_
  refine lv_lstore (lv' := [(13, .long ((a * b) - (c * d))), (11, .long (c * d)), (9, .long (a * b)), (0, .ref h0), (1, .long a), (3, .long b), (5, .long c), (7, .long d)]) hx hb dX0_differenceByUnit_17 hl (by decide) rfl (fun ls hl => ?_)
  refine lv_lload_n hx hb dX0_differenceByUnit_19 rfl (lv_at hl 4 rfl) ?_
  refine lv_lload_n hx hb dX0_differenceByUnit_20 rfl (lv_at hl 5 rfl) ?_
  have hFc : ∀ q, va_A ([] : va_W) H.size q → A q := fun q h => va_nilA hS hA q h
  refine va_calll (va_runS (As := [.long a, .long b]) (rest := []) ⟨hx, hb, hml, hown, hts⟩ (c_X0_highProduct l dC dI H.size a b) (va_cwS 2 hts gX0_differenceByUnit_X0_highProduct rfl rfl rfl (by decide +kernel) ⟨Nat.le_of_ble_eq_true rfl, Nat.le_of_ble_eq_true rfl⟩) ⟨fun a U g mk q => by obtain ⟨q0, q1, qP, qK, qD⟩ := q; exact ⟨q0, q1, qP, va_K.moved (u := U) (U := U.calling g mk a) (Vm.Alike.refl U.vm) qK, qD⟩, fun U hU hW => ⟨rfl, by rw [hU], va_nilP, va_K.moved hW.alike (hK.sub (tys' := []) [] rfl), va_nilD⟩⟩ rfl rfl hl.1 rfl (lv_room (Nat.le_of_ble_eq_true rfl)) dX0_differenceByUnit_21 ⟨(Nat.zero_le _), (Nat.zero_le _)⟩) hS (fun q _ h => hFc q h) hFc (fun r_21 v9 t H1 locs ht hvm hw hB hz1 hk1 hS => ?_)
  have hP := va_keep hP hk1
  clear hB hk1 hz1 ht hvm hFc
  generalize H1 = H at hP hS ⊢
  subst hw
  refine lv_lload hx hb dX0_differenceByUnit_24 (lv_at hl 6 rfl) ?_
  refine lv_lload hx hb dX0_differenceByUnit_26 (lv_at hl 7 rfl) ?_
  have hFc : ∀ q, va_A ([] : va_W) H.size q → A q := fun q h => va_nilA hS hA q h
  refine va_calll (va_runS (As := [.long c, .long d]) (rest := [.long (hpF a b)]) ⟨hx, hb, hml, hown, hts⟩ (c_X0_highProduct l dC dI H.size c d) (va_cwS 2 hts gX0_differenceByUnit_X0_highProduct rfl rfl rfl (by decide +kernel) ⟨Nat.le_of_ble_eq_true rfl, Nat.le_of_ble_eq_true rfl⟩) ⟨fun a U g mk q => by obtain ⟨q0, q1, qP, qK, qD⟩ := q; exact ⟨q0, q1, qP, va_K.moved (u := U) (U := U.calling g mk a) (Vm.Alike.refl U.vm) qK, qD⟩, fun U hU hW => ⟨rfl, by rw [hU], va_nilP, va_K.moved hW.alike (hK.sub (tys' := []) [] rfl), va_nilD⟩⟩ rfl rfl hl.1 rfl (lv_room (Nat.le_of_ble_eq_true rfl)) dX0_differenceByUnit_28 ⟨(Nat.zero_le _), (Nat.zero_le _)⟩) hS (fun q _ h => hFc q h) hFc (fun r_28 v9 t H1 locs ht hvm hw hB hz1 hk1 hS => ?_)
  have hP := va_keep hP hk1
  clear hB hk1 hz1 ht hvm hFc
  generalize H1 = H at hP hS ⊢
  subst hw
  refine lv_lsub hx hb dX0_differenceByUnit_31 ?_
  refine lv_lstore (lv' := [(15, .long ((hpF a b) - (hpF c d))), (13, .long ((a * b) - (c * d))), (11, .long (c * d)), (9, .long (a * b)), (0, .ref h0), (1, .long a), (3, .long b), (5, .long c), (7, .long d)]) hx hb dX0_differenceByUnit_32 hl (by decide) rfl (fun ls hl => ?_)
  refine lv_lload hx hb dX0_differenceByUnit_34 (lv_at hl 3 rfl) ?_
  refine lv_ldc2 (v := (-9223372036854775808)) hx hb hown (hts (.constantLong RX0 113 (-9223372036854775808)) (List.mem_of_getElem? (i := 1) rfl)) dX0_differenceByUnit_36 ?_
  refine lv_ladd hx hb dX0_differenceByUnit_39 ?_
  refine lv_lload hx hb dX0_differenceByUnit_40 (lv_at hl 2 rfl) ?_
  refine lv_ldc2 (v := (-9223372036854775808)) hx hb hown (hts (.constantLong RX0 113 (-9223372036854775808)) (List.mem_of_getElem? (i := 1) rfl)) dX0_differenceByUnit_42 ?_
  refine lv_ladd hx hb dX0_differenceByUnit_45 ?_
  refine W.lcmp hx hb dX0_differenceByUnit_46 ?_
  refine lv_if_ge (tgt := 56) hx hb dX0_differenceByUnit_47 (by decide) (fun c1 => ?_) (fun c1 => ?_)
  · rw [lg_cmp_ge] at c1
    refine lv_lload hx hb dX0_differenceByUnit_56 (lv_at hl 1 rfl) ?_
    refine lv_aload_n hx hb dX0_differenceByUnit_58 rfl (lv_at hl 4 rfl) ?_
    refine va_get (D := (dC, dI)) (ci := 0) (v := .int tw) (C := RX0) (T := TX0) (N := 7) hx hb hts (fun _ h => List.mem_cons_of_mem _ (List.mem_append_right _ h)) hown hK hP 0 rfl rfl 5 (by decide) (hts (.fieldLink RX0 31 "RankFinder$Weighing" "unitTwos" "I") (List.mem_of_getElem? (i := 2) rfl)) (fun _ h9 => h9) rfl dX0_differenceByUnit_59 ?_
    refine lv_lushr hx hb dX0_differenceByUnit_62 rfl ?_
    refine lv_lload hx hb dX0_differenceByUnit_63 (lv_at hl 0 rfl) ?_
    refine lv_iconst (v := nI 1) hx hb dX0_differenceByUnit_65 (by decide) ?_
    refine lv_lshl hx hb dX0_differenceByUnit_66 rfl ?_
    refine lv_bipush (v := nI 63) hx hb dX0_differenceByUnit_67 (by decide) ?_
    refine lv_aload_n hx hb dX0_differenceByUnit_69 rfl (lv_at hl 4 rfl) ?_
    refine va_get (D := (dC, dI)) (ci := 0) (v := .int tw) (C := RX0) (T := TX0) (N := 7) hx hb hts (fun _ h => List.mem_cons_of_mem _ (List.mem_append_right _ h)) hown hK hP 0 rfl rfl 5 (by decide) (hts (.fieldLink RX0 31 "RankFinder$Weighing" "unitTwos" "I") (List.mem_of_getElem? (i := 2) rfl)) (fun _ h9 => h9) rfl dX0_differenceByUnit_70 ?_
    refine lv_isub hx hb dX0_differenceByUnit_73 ?_
    refine lv_lshl hx hb dX0_differenceByUnit_74 rfl ?_
    refine lv_lor hx hb dX0_differenceByUnit_75 ?_
    refine lv_lstore (lv' := [(17, .long (((Int64.toUInt64 ((a * b) - (c * d)) >>> ((Int32.toInt64 tw).toUInt64 &&& Int64.toUInt64 63)).toInt64) ||| ((((hpF a b) - (hpF c d)) <<< (Int32.toInt64 (nI 1) &&& 63)) <<< (Int32.toInt64 ((nI 63) - tw) &&& 63)))), (15, .long ((hpF a b) - (hpF c d))), (13, .long ((a * b) - (c * d))), (11, .long (c * d)), (9, .long (a * b)), (0, .ref h0), (1, .long a), (3, .long b), (5, .long c), (7, .long d)]) hx hb dX0_differenceByUnit_76 hl (by decide) rfl (fun ls hl => ?_)
    refine lv_lload hx hb dX0_differenceByUnit_78 (lv_at hl 0 rfl) ?_
    refine lv_aload_n hx hb dX0_differenceByUnit_80 rfl (lv_at hl 5 rfl) ?_
    refine va_get (D := (dC, dI)) (ci := 0) (v := .long iv) (C := RX0) (T := TX0) (N := 7) hx hb hts (fun _ h => List.mem_cons_of_mem _ (List.mem_append_right _ h)) hown hK hP 0 rfl rfl 6 (by decide) (hts (.fieldLink RX0 34 "RankFinder$Weighing" "unitInverse" "J") (List.mem_of_getElem? (i := 3) rfl)) (fun _ h9 => h9) rfl dX0_differenceByUnit_81 ?_
    refine lv_lmul hx hb dX0_differenceByUnit_84 ?_
    exact W.lret (v := ((((Int64.toUInt64 ((a * b) - (c * d)) >>> ((Int32.toInt64 tw).toUInt64 &&& Int64.toUInt64 63)).toInt64) ||| ((((hpF a b) - (hpF c d)) <<< (Int32.toInt64 (nI 1) &&& 63)) <<< (Int32.toInt64 ((nI 63) - tw) &&& 63))) * iv)) hx hb hr (fun t ht hW => ⟨⟨((((Int64.toUInt64 ((a * b) - (c * d)) >>> ((Int32.toInt64 tw).toUInt64 &&& Int64.toUInt64 63)).toInt64) ||| ((((hpF a b) - (hpF c d)) <<< (Int32.toInt64 (nI 1) &&& 63)) <<< (Int32.toInt64 ((nI 63) - tw) &&& 63))) * iv), (), rfl, by unfold dbF dbH; rw [if_neg (Int64.not_lt.mpr c1)]; rfl, by rw [ht]; exact hP, va_K.moved hW.alike hK, hD⟩, hS.F ht⟩) hS.2.2 dX0_differenceByUnit_85
  · rw [lg_cmp_ge] at c1
    refine lv_lload hx hb dX0_differenceByUnit_50 (lv_at hl 0 rfl) ?_
    refine lv_lconst (v := 1) hx hb dX0_differenceByUnit_52 (by decide) ?_
    refine lv_lsub hx hb dX0_differenceByUnit_53 ?_
    refine lv_lstore (lv' := [(15, .long (((hpF a b) - (hpF c d)) - 1)), (13, .long ((a * b) - (c * d))), (11, .long (c * d)), (9, .long (a * b)), (0, .ref h0), (1, .long a), (3, .long b), (5, .long c), (7, .long d)]) hx hb dX0_differenceByUnit_54 hl (by decide) rfl (fun ls hl => ?_)
    refine lv_lload hx hb dX0_differenceByUnit_56 (lv_at hl 1 rfl) ?_
    refine lv_aload_n hx hb dX0_differenceByUnit_58 rfl (lv_at hl 4 rfl) ?_
    refine va_get (D := (dC, dI)) (ci := 0) (v := .int tw) (C := RX0) (T := TX0) (N := 7) hx hb hts (fun _ h => List.mem_cons_of_mem _ (List.mem_append_right _ h)) hown hK hP 0 rfl rfl 5 (by decide) (hts (.fieldLink RX0 31 "RankFinder$Weighing" "unitTwos" "I") (List.mem_of_getElem? (i := 2) rfl)) (fun _ h9 => h9) rfl dX0_differenceByUnit_59 ?_
    refine lv_lushr hx hb dX0_differenceByUnit_62 rfl ?_
    refine lv_lload hx hb dX0_differenceByUnit_63 (lv_at hl 0 rfl) ?_
    refine lv_iconst (v := nI 1) hx hb dX0_differenceByUnit_65 (by decide) ?_
    refine lv_lshl hx hb dX0_differenceByUnit_66 rfl ?_
    refine lv_bipush (v := nI 63) hx hb dX0_differenceByUnit_67 (by decide) ?_
    refine lv_aload_n hx hb dX0_differenceByUnit_69 rfl (lv_at hl 4 rfl) ?_
    refine va_get (D := (dC, dI)) (ci := 0) (v := .int tw) (C := RX0) (T := TX0) (N := 7) hx hb hts (fun _ h => List.mem_cons_of_mem _ (List.mem_append_right _ h)) hown hK hP 0 rfl rfl 5 (by decide) (hts (.fieldLink RX0 31 "RankFinder$Weighing" "unitTwos" "I") (List.mem_of_getElem? (i := 2) rfl)) (fun _ h9 => h9) rfl dX0_differenceByUnit_70 ?_
    refine lv_isub hx hb dX0_differenceByUnit_73 ?_
    refine lv_lshl hx hb dX0_differenceByUnit_74 rfl ?_
    refine lv_lor hx hb dX0_differenceByUnit_75 ?_
    refine lv_lstore (lv' := [(17, .long (((Int64.toUInt64 ((a * b) - (c * d)) >>> ((Int32.toInt64 tw).toUInt64 &&& Int64.toUInt64 63)).toInt64) ||| (((((hpF a b) - (hpF c d)) - 1) <<< (Int32.toInt64 (nI 1) &&& 63)) <<< (Int32.toInt64 ((nI 63) - tw) &&& 63)))), (15, .long (((hpF a b) - (hpF c d)) - 1)), (13, .long ((a * b) - (c * d))), (11, .long (c * d)), (9, .long (a * b)), (0, .ref h0), (1, .long a), (3, .long b), (5, .long c), (7, .long d)]) hx hb dX0_differenceByUnit_76 hl (by decide) rfl (fun ls hl => ?_)
    refine lv_lload hx hb dX0_differenceByUnit_78 (lv_at hl 0 rfl) ?_
    refine lv_aload_n hx hb dX0_differenceByUnit_80 rfl (lv_at hl 5 rfl) ?_
    refine va_get (D := (dC, dI)) (ci := 0) (v := .long iv) (C := RX0) (T := TX0) (N := 7) hx hb hts (fun _ h => List.mem_cons_of_mem _ (List.mem_append_right _ h)) hown hK hP 0 rfl rfl 6 (by decide) (hts (.fieldLink RX0 34 "RankFinder$Weighing" "unitInverse" "J") (List.mem_of_getElem? (i := 3) rfl)) (fun _ h9 => h9) rfl dX0_differenceByUnit_81 ?_
    refine lv_lmul hx hb dX0_differenceByUnit_84 ?_
    exact W.lret (v := ((((Int64.toUInt64 ((a * b) - (c * d)) >>> ((Int32.toInt64 tw).toUInt64 &&& Int64.toUInt64 63)).toInt64) ||| (((((hpF a b) - (hpF c d)) - 1) <<< (Int32.toInt64 (nI 1) &&& 63)) <<< (Int32.toInt64 ((nI 63) - tw) &&& 63))) * iv)) hx hb hr (fun t ht hW => ⟨⟨((((Int64.toUInt64 ((a * b) - (c * d)) >>> ((Int32.toInt64 tw).toUInt64 &&& Int64.toUInt64 63)).toInt64) ||| (((((hpF a b) - (hpF c d)) - 1) <<< (Int32.toInt64 (nI 1) &&& 63)) <<< (Int32.toInt64 ((nI 63) - tw) &&& 63))) * iv), (), rfl, by unfold dbF dbH; rw [if_pos (Int64.not_le.mp c1)]; rfl, by rw [ht]; exact hP, va_K.moved hW.alike hK, hD⟩, hS.F ht⟩) hS.2.2 dX0_differenceByUnit_85
set_option maxHeartbeats 4000000 in
set_option maxRecDepth 100000 in
/-- takeUnit(y) -/
theorem c_X0_takeUnit (l : Launch) (dC : Nat → ClassId) (dI : Nat → Nat → Nat) (h0 qc qh : Nat) (r : Nat → Nat) (cA cI cJ : ClassId) (sz : Nat) (me nw : Nat) (u : Int64) (tw : Int32) (iv : Int64) (hd : Nat → Int32) (M : Nat → Nat → Int64) (y : Int64) : Met l yX0_takeUnit wsX0_takeUnit ({ frames := 1, cells := 0, slots := 0, locals := 21 }) (va_Pc [.ref h0, .long y] (fun U => U.heap.size = sz ∧ va_P (dC, dI) vwCl (wgW h0 qc qh r cA cI cJ me nw u tw iv hd M) U.heap ∧ va_K (dC, dI) vwCl (wgT cA cI cJ) U ∧ va_D (fun _ => True) (wgW h0 qc qh r cA cI cJ me nw u tw iv hd M))) (va_Qv (fun v : Unit => True) (fun v t => va_P (dC, dI) vwCl (wgW h0 qc qh r cA cI cJ me nw y (bcF ((y &&& -y) - 1)) (nwF (sr y (bcF ((y &&& -y) - 1))) 5) hd M) t.heap ∧ va_K (dC, dI) vwCl (wgT cA cI cJ) t ∧ va_D (va_A (wgW h0 qc qh r cA cI cJ me nw u tw iv hd M) sz) (wgW h0 qc qh r cA cI cJ me nw y (bcF ((y &&& -y) - 1)) (nwF (sr y (bcF ((y &&& -y) - 1))) 5) hd M)) (va_A (wgW h0 qc qh r cA cI cJ me nw u tw iv hd M) sz)) 0 0 (va_A (wgW h0 qc qh r cA cI cJ me nw u tw iv hd M) sz) := by
  refine Met.ofW (cc := cX0_takeUnit) (maxL := 8) (ret := none) (by decide) rfl ?_
  intro p e s m args below meth c s₁ B hml hv
  obtain ⟨rfl, hsz, hP, hK, hD0⟩ := hv
  have hx := B.exec
  have hb := B.bytes
  have hr := B.returns
  have hts := atoms_spec (ws := wsX0_takeUnit) B.pre
  have hown : s.vm.findClass RX0 = some m.cls := findClass_of_methodNamed B.named
  subst hsz
  have hD := hD0.self (sz := s.heap.size)
  clear hD0
  generalize hAe : va_A (wgW h0 qc qh r cA cI cJ me nw u tw iv hd M) s.heap.size = A at hD ⊢
  have hA : ∀ q : Nat, s.heap.size ≤ q → A q := fun q h => by rw [← hAe]; exact Or.inr h
  have hl := lv_entry ([.ref h0, .long y]) (n := 8) (Nat.le_of_ble_eq_true rfl)
  rw [lg_entry_eq]
  generalize (lg_sl ([.ref h0, .long y]) ++ List.replicate (8 - (lg_sl ([.ref h0, .long y])).length) Slot.unset).toArray = ls at hl ⊢
  have hl : lv_has ls 8 [(0, .ref h0), (1, .long y)] := hl
  have hP : va_P (dC, dI) vwCl (wgW h0 qc qh r cA cI cJ me nw u tw iv hd M) s.heap := hP
  obtain ⟨H, hH⟩ : ∃ H, H = s.heap := ⟨_, rfl⟩
  have hS : va_S A s.heap H [] := by rw [hH]; exact va_S.rf
  rw [← hH] at hP ⊢
  refine lv_aload_n hx hb dX0_takeUnit_0 rfl (lv_at hl 0 rfl) ?_
  refine lv_lload_n hx hb dX0_takeUnit_1 rfl (lv_at hl 1 rfl) ?_
  refine va_put (D := (dC, dI)) (ci := 0) (v := .long y) (ty := .long) (C := RX0) (T := TX0) (N := 7) hx hb hts (fun _ h => List.mem_cons_of_mem _ (List.mem_append_right _ h)) tyX0 tyX0_ok nmX0 hown hK hP hD hS 0 rfl rfl 4 (by decide) (hts (.fieldLink RX0 27 "RankFinder$Weighing" "unit" "J") (List.mem_of_getElem? (i := 1) rfl)) (fun _ h9 => h9) rfl (by decide +kernel) rfl rfl (Nat.le_of_ble_eq_true rfl) dX0_takeUnit_2 (fun H locs hP hD hS => ?_)
  have hP : va_P (dC, dI) vwCl (wgW h0 qc qh r cA cI cJ me nw y tw iv hd M) H := hP
  have hD : va_D A (wgW h0 qc qh r cA cI cJ me nw y tw iv hd M) := hD
  refine lv_aload_n hx hb dX0_takeUnit_5 rfl (lv_at hl 0 rfl) ?_
  refine lv_lload_n hx hb dX0_takeUnit_6 rfl (lv_at hl 1 rfl) ?_
  refine lv_lload_n hx hb dX0_takeUnit_7 rfl (lv_at hl 1 rfl) ?_
  refine lv_lneg hx hb dX0_takeUnit_8 ?_
  refine lv_land hx hb dX0_takeUnit_9 ?_
  refine lv_lconst (v := 1) hx hb dX0_takeUnit_10 (by decide) ?_
  refine lv_lsub hx hb dX0_takeUnit_11 ?_
  have hFc : ∀ q, va_A ([] : va_W) H.size q → A q := fun q h => va_nilA hS hA q h
  refine va_calli (va_runS (As := [.long ((y &&& (-y)) - 1)]) (rest := [.ref h0]) ⟨hx, hb, hml, hown, hts⟩ (c_J13_bitCount l dC dI H.size ((y &&& -y) - 1)) (va_cwS 1 hts gX0_takeUnit_J13_bitCount_95d88 rfl rfl rfl (by decide +kernel) ⟨Nat.le_of_ble_eq_true rfl, Nat.le_of_ble_eq_true rfl⟩) ⟨fun a U g mk q => by obtain ⟨q0, q1, qP, qK, qD⟩ := q; exact ⟨q0, q1, qP, va_K.moved (u := U) (U := U.calling g mk a) (Vm.Alike.refl U.vm) qK, qD⟩, fun U hU hW => ⟨rfl, by rw [hU], va_nilP, va_K.moved hW.alike (hK.sub (tys' := []) [] rfl), va_nilD⟩⟩ rfl rfl hl.1 rfl (lv_room (Nat.le_of_ble_eq_true rfl)) dX0_takeUnit_12 ⟨(Nat.zero_le _), (Nat.zero_le _)⟩) hS (fun q _ h => hFc q h) hFc (fun r_12 v9 t H1 locs ht hvm hw hB hz1 hk1 hS => ?_)
  have hP := va_keep hP hk1
  clear hB hk1 hz1 ht hvm hFc
  generalize H1 = H at hP hS ⊢
  subst hw
  refine va_put (D := (dC, dI)) (ci := 0) (v := .int (bcF ((y &&& -y) - 1))) (ty := .int) (C := RX0) (T := TX0) (N := 7) hx hb hts (fun _ h => List.mem_cons_of_mem _ (List.mem_append_right _ h)) tyX0 tyX0_ok nmX0 hown hK hP hD hS 0 rfl rfl 5 (by decide) (hts (.fieldLink RX0 31 "RankFinder$Weighing" "unitTwos" "I") (List.mem_of_getElem? (i := 2) rfl)) (fun _ h9 => h9) rfl (by decide +kernel) rfl rfl (Nat.le_of_ble_eq_true rfl) dX0_takeUnit_15 (fun H locs hP hD hS => ?_)
  have hP : va_P (dC, dI) vwCl (wgW h0 qc qh r cA cI cJ me nw y (bcF ((y &&& -y) - 1)) iv hd M) H := hP
  have hD : va_D A (wgW h0 qc qh r cA cI cJ me nw y (bcF ((y &&& -y) - 1)) iv hd M) := hD
  refine lv_lload_n hx hb dX0_takeUnit_18 rfl (lv_at hl 1 rfl) ?_
  refine lv_aload_n hx hb dX0_takeUnit_19 rfl (lv_at hl 0 rfl) ?_
  refine va_get (D := (dC, dI)) (ci := 0) (v := .int (bcF ((y &&& -y) - 1))) (C := RX0) (T := TX0) (N := 7) hx hb hts (fun _ h => List.mem_cons_of_mem _ (List.mem_append_right _ h)) hown hK hP 0 rfl rfl 5 (by decide) (hts (.fieldLink RX0 31 "RankFinder$Weighing" "unitTwos" "I") (List.mem_of_getElem? (i := 2) rfl)) (fun _ h9 => h9) rfl dX0_takeUnit_20 ?_
  refine lv_lshr hx hb dX0_takeUnit_23 rfl ?_
  refine lv_lstore_n (lv' := [(3, .long (y >>> (Int32.toInt64 (bcF ((y &&& -y) - 1)) &&& 63))), (0, .ref h0), (1, .long y)]) hx hb dX0_takeUnit_24 rfl hl (by decide) rfl (fun ls hl => ?_)
  refine lv_lload_n hx hb dX0_takeUnit_25 rfl (lv_at hl 0 rfl) ?_
  refine lv_lstore (lv' := [(5, .long (y >>> (Int32.toInt64 (bcF ((y &&& -y) - 1)) &&& 63))), (3, .long (y >>> (Int32.toInt64 (bcF ((y &&& -y) - 1)) &&& 63))), (0, .ref h0), (1, .long y)]) hx hb dX0_takeUnit_26 hl (by decide) rfl (fun ls hl => ?_)
  refine lv_iconst (v := nI 0) hx hb dX0_takeUnit_28 (by decide) ?_
  refine lv_istore (lv' := [(7, .int (nI 0)), (5, .long (y >>> (Int32.toInt64 (bcF ((y &&& -y) - 1)) &&& 63))), (3, .long (y >>> (Int32.toInt64 (bcF ((y &&& -y) - 1)) &&& 63))), (0, .ref h0), (1, .long y)]) hx hb dX0_takeUnit_29 hl (by decide) rfl (fun ls hl => ?_)
  have loop : ∀ (d k : Nat) (ls : Array Slot), k + d = 5 → lv_has ls 8 [(7, .int (nI k)), (5, .long (nwF (sr y (bcF ((y &&& -y) - 1))) k)), (3, .long (sr y (bcF ((y &&& -y) - 1)))), (0, .ref h0), (1, .long y)] → W p l e (headSpec wsX0_takeUnit ({ frames := 1, cells := 0, slots := 0, locals := 21 })).room s m #[.ref h0, .long y] below meth c H locs 0 0 (MQ below (va_Qv (fun v : Unit => True) (fun v t => va_P (dC, dI) vwCl (wgW h0 qc qh r cA cI cJ me nw y (bcF ((y &&& -y) - 1)) (nwF (sr y (bcF ((y &&& -y) - 1))) 5) hd M) t.heap ∧ va_K (dC, dI) vwCl (wgT cA cI cJ) t ∧ va_D A (wgW h0 qc qh r cA cI cJ me nw y (bcF ((y &&& -y) - 1)) (nwF (sr y (bcF ((y &&& -y) - 1))) 5) hd M)) A) #[.ref h0, .long y] s 0 0 A) (F0 m 31 ls []) := by
    intro d
    induction d with
    | zero =>
      intro k ls hk hl
      refine lv_iload hx hb dX0_takeUnit_31 (lv_at hl 0 rfl) ?_
      refine lv_iconst (v := nI 5) hx hb dX0_takeUnit_33 (by decide) ?_
      refine lv_icmp_ge (tgt := 56) hx hb dX0_takeUnit_34 (by decide) (fun c1 => ?_) (fun c1 => ?_)
      · obtain rfl : k = 5 := by omega
        refine lv_aload_n hx hb dX0_takeUnit_56 rfl (lv_at hl 3 rfl) ?_
        refine lv_lload hx hb dX0_takeUnit_57 (lv_at hl 1 rfl) ?_
        refine va_put (D := (dC, dI)) (ci := 0) (v := .long (nwF (sr y (bcF ((y &&& -y) - 1))) 5)) (ty := .long) (C := RX0) (T := TX0) (N := 7) hx hb hts (fun _ h => List.mem_cons_of_mem _ (List.mem_append_right _ h)) tyX0 tyX0_ok nmX0 hown hK hP hD hS 0 rfl rfl 6 (by decide) (hts (.fieldLink RX0 34 "RankFinder$Weighing" "unitInverse" "J") (List.mem_of_getElem? (i := 4) rfl)) (fun _ h9 => h9) rfl (by decide +kernel) rfl rfl (Nat.le_of_ble_eq_true rfl) dX0_takeUnit_59 (fun H locs hP hD hS => ?_)
        have hP : va_P (dC, dI) vwCl (wgW h0 qc qh r cA cI cJ me nw y (bcF ((y &&& -y) - 1)) (nwF (sr y (bcF ((y &&& -y) - 1))) 5) hd M) H := hP
        have hD : va_D A (wgW h0 qc qh r cA cI cJ me nw y (bcF ((y &&& -y) - 1)) (nwF (sr y (bcF ((y &&& -y) - 1))) 5) hd M) := hD
        exact W.vret hx hb hr (fun t ht hW => ⟨⟨(), rfl, trivial, by rw [ht]; exact hP, va_K.moved hW.alike hK, hD⟩, hS.F ht⟩) hS.2.2 dX0_takeUnit_62
      · exact absurd (nI_le (by omega) (by omega)) c1
    | succ d ih =>
      intro k ls hk hl
      refine lv_iload hx hb dX0_takeUnit_31 (lv_at hl 0 rfl) ?_
      refine lv_iconst (v := nI 5) hx hb dX0_takeUnit_33 (by decide) ?_
      refine lv_icmp_ge (tgt := 56) hx hb dX0_takeUnit_34 (by decide) (fun c1 => ?_) (fun c1 => ?_)
      · exact absurd c1 (nI_ge (by omega) (by omega))
      · refine lv_lload hx hb dX0_takeUnit_37 (lv_at hl 1 rfl) ?_
        refine lv_ldc2 (v := 2) hx hb hown (hts (.constantLong RX0 107 (2)) (List.mem_of_getElem? (i := 3) rfl)) dX0_takeUnit_39 ?_
        refine lv_lload_n hx hb dX0_takeUnit_42 rfl (lv_at hl 2 rfl) ?_
        refine lv_lload hx hb dX0_takeUnit_43 (lv_at hl 1 rfl) ?_
        refine lv_lmul hx hb dX0_takeUnit_45 ?_
        refine lv_lsub hx hb dX0_takeUnit_46 ?_
        refine lv_lmul hx hb dX0_takeUnit_47 ?_
        refine lv_lstore (lv' := [(5, .long ((nwF (sr y (bcF ((y &&& -y) - 1))) k) * (2 - ((sr y (bcF ((y &&& -y) - 1))) * (nwF (sr y (bcF ((y &&& -y) - 1))) k))))), (7, .int (nI k)), (3, .long (sr y (bcF ((y &&& -y) - 1)))), (0, .ref h0), (1, .long y)]) hx hb dX0_takeUnit_48 hl (by decide) rfl (fun ls hl => ?_)
        refine lv_iinc (v := nI (k + 1)) (lv' := [(7, .int (nI (k + 1))), (5, .long ((nwF (sr y (bcF ((y &&& -y) - 1))) k) * (2 - ((sr y (bcF ((y &&& -y) - 1))) * (nwF (sr y (bcF ((y &&& -y) - 1))) k))))), (3, .long (sr y (bcF ((y &&& -y) - 1)))), (0, .ref h0), (1, .long y)]) hx hb dX0_takeUnit_50 hl (k := 1) rfl (nI_1 _) (by decide) rfl (fun ls hl => ?_)
        refine lv_goto (tgt := 31) hx hb dX0_takeUnit_53 (by decide) ?_
        exact ih (k + 1) ls (by omega) (lv_sub hl [0, 1, 2, 3, 4] rfl)
  exact loop 5 0 ls (by omega) (lv_sub hl [0, 1, 2, 3, 4] rfl)
end
section
/-! ===== Weighing: exchange ===== -/
/-- the cells of the rows but row r, those before row i and of row i those before place j, are new -/
def xcP (tw : Int32) (iv : Int64) (M : Nat → Nat → Int64) (r c nw i j : Nat) : Nat → Nat → Int64 := fun a b => if a ≠ r ∧ b ≤ nw ∧ (a < i ∨ (a = i ∧ b < j)) then dbF tw iv (M r c) (M a b) (M a c) (M r b) else M a b
theorem xcP_0 (tw : Int32) (iv : Int64) (M : Nat → Nat → Int64) (r c nw : Nat) : xcP tw iv M r c nw 0 0 = M := by
  funext a b; unfold xcP; rw [if_neg (by omega)]
theorem xcP_r {tw : Int32} {iv : Int64} {M : Nat → Nat → Int64} {r c nw i j b : Nat} : xcP tw iv M r c nw i j r b = M r b := by
  unfold xcP; rw [if_neg (by omega)]
theorem xcP_o {tw : Int32} {iv : Int64} {M : Nat → Nat → Int64} {r c nw i j b : Nat} (h : j ≤ b) : xcP tw iv M r c nw i j i b = M i b := by
  unfold xcP; rw [if_neg (by omega)]
theorem xcP_s {tw : Int32} {iv : Int64} {M : Nat → Nat → Int64} {r c nw i j : Nat} (hi : i ≠ r) (hj : j ≤ nw) : mup (xcP tw iv M r c nw i j) i j (dbF tw iv (M r c) (M i j) (M i c) (M r j)) = xcP tw iv M r c nw i (j + 1) := by
  funext a b
  unfold mup fup
  by_cases e : a = i
  · subst e
    simp only [if_true]
    unfold vp_updL
    by_cases e2 : b = j
    · subst e2
      simp only [if_true]
      unfold xcP
      rw [if_pos ⟨hi, hj, Or.inr ⟨rfl, by omega⟩⟩]
    · simp only [if_neg e2]
      unfold xcP
      by_cases q : a ≠ r ∧ b ≤ nw ∧ (a < a ∨ (a = a ∧ b < j))
      · rw [if_pos q, if_pos ⟨q.1, q.2.1, by omega⟩]
      · rw [if_neg q, if_neg (fun q2 => q ⟨q2.1, q2.2.1, by omega⟩)]
  · simp only [if_neg e]
    unfold xcP
    by_cases q : a ≠ r ∧ b ≤ nw ∧ (a < i ∨ (a = i ∧ b < j))
    · rw [if_pos q, if_pos ⟨q.1, q.2.1, by omega⟩]
    · rw [if_neg q, if_neg (fun q2 => q ⟨q2.1, q2.2.1, by omega⟩)]
theorem xcP_n {tw : Int32} {iv : Int64} {M : Nat → Nat → Int64} {r c nw i : Nat} : xcP tw iv M r c nw i (nw + 1) = xcP tw iv M r c nw (i + 1) 0 := by
  funext a b
  unfold xcP
  by_cases q : a ≠ r ∧ b ≤ nw ∧ (a < i ∨ (a = i ∧ b < nw + 1))
  · rw [if_pos q, if_pos ⟨q.1, q.2.1, by omega⟩]
  · rw [if_neg q, if_neg (fun q2 => q ⟨q2.1, q2.2.1, by omega⟩)]
theorem xcP_k {tw : Int32} {iv : Int64} {M : Nat → Nat → Int64} {r c nw i : Nat} (h : i = r) : xcP tw iv M r c nw i 0 = xcP tw iv M r c nw (i + 1) 0 := by
  funext a b
  unfold xcP
  by_cases q : a ≠ r ∧ b ≤ nw ∧ (a < i ∨ (a = i ∧ b < 0))
  · rw [if_pos q, if_pos ⟨q.1, q.2.1, by omega⟩]
  · rw [if_neg q, if_neg (fun q2 => q ⟨q2.1, q2.2.1, by omega⟩)]
/-- the row is made so that its cell is above 0 -/
def xcS (M : Nat → Nat → Int64) (r c nw : Nat) : Nat → Nat → Int64 := if M r c < 0 then ngF M r (nw + 1) else M
def xcM (tw : Int32) (iv : Int64) (M : Nat → Nat → Int64) (r c me nw : Nat) : Nat → Nat → Int64 := xcP tw iv (xcS M r c nw) r c nw (me + 1) 0
set_option maxHeartbeats 4000000 in
set_option maxRecDepth 100000 in
/-- exchange(rr, cc) -/
theorem c_X0_exchange (l : Launch) (dC : Nat → ClassId) (dI : Nat → Nat → Nat) (h0 qc qh : Nat) (r : Nat → Nat) (cA cI cJ : ClassId) (sz : Nat) (me nw : Nat) (u : Int64) (tw : Int32) (iv : Int64) (hd : Nat → Int32) (M : Nat → Nat → Int64) (rr cc : Nat) (hm : me < 10) (hn : nw < 17) (hr9 : rr < me) (hc9 : cc < nw) : Met l yX0_exchange wsX0_exchange ({ frames := 2, cells := 0, slots := 0, locals := 73 }) (va_Pc [.ref h0, .int (nI rr), .int (nI cc)] (fun U => U.heap.size = sz ∧ va_P (dC, dI) vwCl (wgW h0 qc qh r cA cI cJ me nw u tw iv hd M) U.heap ∧ va_K (dC, dI) vwCl (wgT cA cI cJ) U ∧ va_D (fun _ => True) (wgW h0 qc qh r cA cI cJ me nw u tw iv hd M))) (va_Qv (fun v : Unit => True) (fun v t => va_P (dC, dI) vwCl (wgW h0 qc qh r cA cI cJ me nw (xcS M rr cc nw rr cc) (bcF (((xcS M rr cc nw rr cc) &&& -(xcS M rr cc nw rr cc)) - 1)) (nwF (sr (xcS M rr cc nw rr cc) (bcF (((xcS M rr cc nw rr cc) &&& -(xcS M rr cc nw rr cc)) - 1))) 5) (upd hd rr (nI cc)) (xcM tw iv M rr cc me nw)) t.heap ∧ va_K (dC, dI) vwCl (wgT cA cI cJ) t ∧ va_D (va_A (wgW h0 qc qh r cA cI cJ me nw u tw iv hd M) sz) (wgW h0 qc qh r cA cI cJ me nw (xcS M rr cc nw rr cc) (bcF (((xcS M rr cc nw rr cc) &&& -(xcS M rr cc nw rr cc)) - 1)) (nwF (sr (xcS M rr cc nw rr cc) (bcF (((xcS M rr cc nw rr cc) &&& -(xcS M rr cc nw rr cc)) - 1))) 5) (upd hd rr (nI cc)) (xcM tw iv M rr cc me nw))) (va_A (wgW h0 qc qh r cA cI cJ me nw u tw iv hd M) sz)) 0 0 (va_A (wgW h0 qc qh r cA cI cJ me nw u tw iv hd M) sz) := by
  refine Met.ofW (cc := cX0_exchange) (maxL := 9) (ret := none) (by decide) rfl ?_
  intro p e s m args below meth c s₁ B hml hv
  obtain ⟨rfl, hsz, hP, hK, hD0⟩ := hv
  have hx := B.exec
  have hb := B.bytes
  have hr := B.returns
  have hts := atoms_spec (ws := wsX0_exchange) B.pre
  have hown : s.vm.findClass RX0 = some m.cls := findClass_of_methodNamed B.named
  subst hsz
  have hD := hD0.self (sz := s.heap.size)
  clear hD0
  generalize hAe : va_A (wgW h0 qc qh r cA cI cJ me nw u tw iv hd M) s.heap.size = A at hD ⊢
  have hA : ∀ q : Nat, s.heap.size ≤ q → A q := fun q h => by rw [← hAe]; exact Or.inr h
  have hl := lv_entry ([.ref h0, .int (nI rr), .int (nI cc)]) (n := 9) (Nat.le_of_ble_eq_true rfl)
  rw [lg_entry_eq]
  generalize (lg_sl ([.ref h0, .int (nI rr), .int (nI cc)]) ++ List.replicate (9 - (lg_sl ([.ref h0, .int (nI rr), .int (nI cc)])).length) Slot.unset).toArray = ls at hl ⊢
  have hl : lv_has ls 9 [(0, .ref h0), (1, .int (nI rr)), (2, .int (nI cc))] := hl
  have hP : va_P (dC, dI) vwCl (wgW h0 qc qh r cA cI cJ me nw u tw iv hd M) s.heap := hP
  obtain ⟨H, hH⟩ : ∃ H, H = s.heap := ⟨_, rfl⟩
  have hS : va_S A s.heap H [] := by rw [hH]; exact va_S.rf
  rw [← hH] at hP ⊢
  have behind : ∀ (H : Heap) (locs : List Loc) (ls : Array Slot), va_P (dC, dI) vwCl (wgW h0 qc qh r cA cI cJ me nw u tw iv hd (xcS M rr cc nw)) H → va_K (dC, dI) vwCl (wgT cA cI cJ) s → va_D A (wgW h0 qc qh r cA cI cJ me nw u tw iv hd (xcS M rr cc nw)) → va_S A s.heap H locs → lv_has ls 9 [(0, .ref h0), (1, .int (nI rr)), (2, .int (nI cc))] → W p l e (headSpec wsX0_exchange ({ frames := 2, cells := 0, slots := 0, locals := 73 })).room s m #[.ref h0, .int (nI rr), .int (nI cc)] below meth c H locs 0 0 (MQ below (va_Qv (fun v : Unit => True) (fun v t => va_P (dC, dI) vwCl (wgW h0 qc qh r cA cI cJ me nw (xcS M rr cc nw rr cc) (bcF (((xcS M rr cc nw rr cc) &&& -(xcS M rr cc nw rr cc)) - 1)) (nwF (sr (xcS M rr cc nw rr cc) (bcF (((xcS M rr cc nw rr cc) &&& -(xcS M rr cc nw rr cc)) - 1))) 5) (upd hd rr (nI cc)) (xcM tw iv M rr cc me nw)) t.heap ∧ va_K (dC, dI) vwCl (wgT cA cI cJ) t ∧ va_D A (wgW h0 qc qh r cA cI cJ me nw (xcS M rr cc nw rr cc) (bcF (((xcS M rr cc nw rr cc) &&& -(xcS M rr cc nw rr cc)) - 1)) (nwF (sr (xcS M rr cc nw rr cc) (bcF (((xcS M rr cc nw rr cc) &&& -(xcS M rr cc nw rr cc)) - 1))) 5) (upd hd rr (nI cc)) (xcM tw iv M rr cc me nw))) A) #[.ref h0, .int (nI rr), .int (nI cc)] s 0 0 A) (F0 m 18 ls []) := by
    clear hP hK hD hS hl
    intro H locs ls hP hK hD hS hl
    obtain ⟨M1, hMe⟩ : ∃ M1, M1 = xcS M rr cc nw := ⟨_, rfl⟩
    rw [← hMe] at hP hD
    refine lv_aload_n hx hb dX0_exchange_18 rfl (lv_at hl 0 rfl) ?_
    refine va_get (D := (dC, dI)) (ci := 0) (v := .ref qc) (C := RX0) (T := TX0) (N := 7) hx hb hts (fun _ h => List.mem_cons_of_mem _ (List.mem_append_right _ h)) hown hK hP 0 rfl rfl 0 (by decide) (hts (.fieldLink RX0 13 "RankFinder$Weighing" "cell" "[[J") (List.mem_of_getElem? (i := 1) rfl)) (fun _ h9 => h9) rfl dX0_exchange_19 ?_
    refine lv_iload_n hx hb dX0_exchange_22 rfl (lv_at hl 1 rfl) ?_
    refine na_aald (y := r rr) hx hb hK hP 1 0 rfl rfl (show rr < 10 by omega) (by decide) (if_pos (show rr < 10 by omega)) dX0_exchange_23 ?_
    refine lv_astore_n (lv' := [(3, .ref (r rr)), (0, .ref h0), (1, .int (nI rr)), (2, .int (nI cc))]) hx hb dX0_exchange_24 rfl hl (by decide) rfl (fun ls hl => ?_)
    refine lv_iconst (v := nI 0) hx hb dX0_exchange_25 (by decide) ?_
    refine lv_istore (lv' := [(4, .int (nI 0)), (3, .ref (r rr)), (0, .ref h0), (1, .int (nI rr)), (2, .int (nI cc))]) hx hb dX0_exchange_26 hl (by decide) rfl (fun ls hl => ?_)
    have outer : ∀ (d i : Nat) (H : Heap) (locs : List Loc) (ls : Array Slot), i + d = me + 1 → va_P (dC, dI) vwCl (wgW h0 qc qh r cA cI cJ me nw u tw iv hd (xcP tw iv M1 rr cc nw i 0)) H → va_K (dC, dI) vwCl (wgT cA cI cJ) s → va_D A (wgW h0 qc qh r cA cI cJ me nw u tw iv hd (xcP tw iv M1 rr cc nw i 0)) → va_S A s.heap H locs → lv_has ls 9 [(4, .int (nI i)), (3, .ref (r rr)), (0, .ref h0), (1, .int (nI rr)), (2, .int (nI cc))] → W p l e (headSpec wsX0_exchange ({ frames := 2, cells := 0, slots := 0, locals := 73 })).room s m #[.ref h0, .int (nI rr), .int (nI cc)] below meth c H locs 0 0 (MQ below (va_Qv (fun v : Unit => True) (fun v t => va_P (dC, dI) vwCl (wgW h0 qc qh r cA cI cJ me nw (xcS M rr cc nw rr cc) (bcF (((xcS M rr cc nw rr cc) &&& -(xcS M rr cc nw rr cc)) - 1)) (nwF (sr (xcS M rr cc nw rr cc) (bcF (((xcS M rr cc nw rr cc) &&& -(xcS M rr cc nw rr cc)) - 1))) 5) (upd hd rr (nI cc)) (xcM tw iv M rr cc me nw)) t.heap ∧ va_K (dC, dI) vwCl (wgT cA cI cJ) t ∧ va_D A (wgW h0 qc qh r cA cI cJ me nw (xcS M rr cc nw rr cc) (bcF (((xcS M rr cc nw rr cc) &&& -(xcS M rr cc nw rr cc)) - 1)) (nwF (sr (xcS M rr cc nw rr cc) (bcF (((xcS M rr cc nw rr cc) &&& -(xcS M rr cc nw rr cc)) - 1))) 5) (upd hd rr (nI cc)) (xcM tw iv M rr cc me nw))) A) #[.ref h0, .int (nI rr), .int (nI cc)] s 0 0 A) (F0 m 28 ls []) := by
      intro d
      induction d with
      | zero =>
        intro i H locs ls hk hP hK hD hS hl
        refine lv_iload hx hb dX0_exchange_28 (lv_at hl 0 rfl) ?_
        refine lv_aload_n hx hb dX0_exchange_30 rfl (lv_at hl 2 rfl) ?_
        refine va_get (D := (dC, dI)) (ci := 0) (v := .int (nI me)) (C := RX0) (T := TX0) (N := 7) hx hb hts (fun _ h => List.mem_cons_of_mem _ (List.mem_append_right _ h)) hown hK hP 0 rfl rfl 2 (by decide) (hts (.fieldLink RX0 20 "RankFinder$Weighing" "equations" "I") (List.mem_of_getElem? (i := 2) rfl)) (fun _ h9 => h9) rfl dX0_exchange_31 ?_
        refine lv_icmp_gt (tgt := 105) hx hb dX0_exchange_34 (by decide) (fun c1 => ?_) (fun c1 => ?_)
        · obtain rfl : i = me + 1 := by omega
          refine lv_aload_n hx hb dX0_exchange_105 rfl (lv_at hl 2 rfl) ?_
          refine va_get (D := (dC, dI)) (ci := 0) (v := .ref qh) (C := RX0) (T := TX0) (N := 7) hx hb hts (fun _ h => List.mem_cons_of_mem _ (List.mem_append_right _ h)) hown hK hP 0 rfl rfl 1 (by decide) (hts (.fieldLink RX0 16 "RankFinder$Weighing" "held" "[I") (List.mem_of_getElem? (i := 4) rfl)) (fun _ h9 => h9) rfl dX0_exchange_106 ?_
          refine lv_iload_n hx hb dX0_exchange_109 rfl (lv_at hl 3 rfl) ?_
          refine lv_iload_n hx hb dX0_exchange_110 rfl (lv_at hl 4 rfl) ?_
          refine na_iast hx hb hK hP hD hS 2 1 rfl rfl (show rr < 9 by omega) (by decide) dX0_exchange_111 (fun H locs hP hD hS => ?_)
          have hP : va_P (dC, dI) vwCl (wgW h0 qc qh r cA cI cJ me nw u tw iv (upd hd rr (nI cc)) (xcP tw iv M1 rr cc nw (me + 1) 0)) H := hP
          have hD : va_D A (wgW h0 qc qh r cA cI cJ me nw u tw iv (upd hd rr (nI cc)) (xcP tw iv M1 rr cc nw (me + 1) 0)) := hD
          refine lv_aload_n hx hb dX0_exchange_112 rfl (lv_at hl 2 rfl) ?_
          refine lv_aload_n hx hb dX0_exchange_113 rfl (lv_at hl 1 rfl) ?_
          refine lv_iload_n hx hb dX0_exchange_114 rfl (lv_at hl 4 rfl) ?_
          refine na_lald hx hb hK hP (3 + rr) 2 (gG_get (show rr < 10 by omega) rfl) rfl (show cc < 17 by omega) (by decide) dX0_exchange_115 ?_
          rw [xcP_r]
          have hFc : ∀ q, va_A (wgW h0 qc qh r cA cI cJ me nw u tw iv (upd hd rr (nI cc)) (xcP tw iv M1 rr cc nw (me + 1) 0)) H.size q → A q := va_fall hD hS hA
          refine va_callv (va_runV (As := [.long (M1 rr cc)]) (rest := []) ⟨hx, hb, hml, hown, hts⟩ (c_X0_takeUnit l dC dI h0 qc qh r cA cI cJ H.size me nw u tw iv (upd hd rr (nI cc)) (xcP tw iv M1 rr cc nw (me + 1) 0) (M1 rr cc)) (cwV 1 hts gX0_exchange_X0_takeUnit rfl rfl rfl (by decide +kernel) ⟨Nat.le_of_ble_eq_true rfl, Nat.le_of_ble_eq_true rfl⟩) ⟨fun a U g mk q => by obtain ⟨q0, q1, qP, qK, qD⟩ := q; exact ⟨q0, q1, qP, va_K.moved (u := U) (U := U.calling g mk a) (Vm.Alike.refl U.vm) qK, qD⟩, va_recv hK hP (ci := 0) (q0 := 0) rfl rfl, fun U hU hW => ⟨rfl, by rw [hU], by rw [hU]; exact hP, va_K.moved hW.alike hK, hD.weaken (fun _ _ _ _ => trivial)⟩⟩ rfl rfl hl.1 rfl (lv_room (Nat.le_of_ble_eq_true rfl)) dX0_exchange_116 ⟨(Nat.zero_le _), (Nat.zero_le _)⟩) hS (fun q _ h => hFc q h) hFc (fun v9 t H1 locs ht hvm hw hB hz1 hk1 hS => ?_)
          obtain ⟨hP1, hK1, hD1⟩ := hB
          rw [ht] at hP1
          clear hP hD hK
          have hK := va_K.moved hvm.symm hK1
          have hP := hP1
          have hD := hD1.weaken (B := A) (fun _ q _ h => hFc q.1 h)
          clear hP1 hD1 hK1 hFc hk1 hz1 ht hvm
          generalize H1 = H at hP hS ⊢
          subst hMe
          exact W.vret hx hb hr (fun t ht hW => ⟨⟨(), rfl, trivial, by rw [ht]; exact hP, va_K.moved hW.alike hK, hD⟩, hS.F ht⟩) hS.2.2 dX0_exchange_119
        · exact absurd (nI_lt (by omega) (by omega)) c1
      | succ d ih =>
        intro i H locs ls hk hP hK hD hS hl
        refine lv_iload hx hb dX0_exchange_28 (lv_at hl 0 rfl) ?_
        refine lv_aload_n hx hb dX0_exchange_30 rfl (lv_at hl 2 rfl) ?_
        refine va_get (D := (dC, dI)) (ci := 0) (v := .int (nI me)) (C := RX0) (T := TX0) (N := 7) hx hb hts (fun _ h => List.mem_cons_of_mem _ (List.mem_append_right _ h)) hown hK hP 0 rfl rfl 2 (by decide) (hts (.fieldLink RX0 20 "RankFinder$Weighing" "equations" "I") (List.mem_of_getElem? (i := 2) rfl)) (fun _ h9 => h9) rfl dX0_exchange_31 ?_
        refine lv_icmp_gt (tgt := 105) hx hb dX0_exchange_34 (by decide) (fun c1 => ?_) (fun c1 => ?_)
        · exact absurd c1 (nI_nlt (by omega) (by omega))
        · refine lv_iload hx hb dX0_exchange_37 (lv_at hl 0 rfl) ?_
          refine lv_iload_n hx hb dX0_exchange_39 rfl (lv_at hl 3 rfl) ?_
          refine lv_icmp_eq (tgt := 99) hx hb dX0_exchange_40 (by decide) (fun c2 => ?_) (fun c2 => ?_)
          · rw [xcP_k (nI_inj (by omega) (by omega) c2)] at hP hD
            refine lv_iinc (v := nI (i + 1)) (lv' := [(4, .int (nI (i + 1))), (3, .ref (r rr)), (0, .ref h0), (1, .int (nI rr)), (2, .int (nI cc))]) hx hb dX0_exchange_99 hl (k := 0) rfl (nI_1 _) (by decide) rfl (fun ls hl => ?_)
            refine lv_goto (tgt := 28) hx hb dX0_exchange_102 (by decide) ?_
            exact ih (i + 1) H _ ls (by omega) hP hK hD hS (lv_sub hl [0, 1, 2, 3, 4] rfl)
          · have hne : i ≠ rr := fun q => c2 (by rw [q])
            refine lv_aload_n hx hb dX0_exchange_43 rfl (lv_at hl 2 rfl) ?_
            refine va_get (D := (dC, dI)) (ci := 0) (v := .ref qc) (C := RX0) (T := TX0) (N := 7) hx hb hts (fun _ h => List.mem_cons_of_mem _ (List.mem_append_right _ h)) hown hK hP 0 rfl rfl 0 (by decide) (hts (.fieldLink RX0 13 "RankFinder$Weighing" "cell" "[[J") (List.mem_of_getElem? (i := 1) rfl)) (fun _ h9 => h9) rfl dX0_exchange_44 ?_
            refine lv_iload hx hb dX0_exchange_47 (lv_at hl 0 rfl) ?_
            refine na_aald (y := r i) hx hb hK hP 1 0 rfl rfl (show i < 10 by omega) (by decide) (if_pos (show i < 10 by omega)) dX0_exchange_49 ?_
            refine lv_astore (lv' := [(5, .ref (r i)), (4, .int (nI i)), (3, .ref (r rr)), (0, .ref h0), (1, .int (nI rr)), (2, .int (nI cc))]) hx hb dX0_exchange_50 hl (by decide) rfl (fun ls hl => ?_)
            refine lv_aload hx hb dX0_exchange_52 (lv_at hl 0 rfl) ?_
            refine lv_iload_n hx hb dX0_exchange_54 rfl (lv_at hl 5 rfl) ?_
            refine na_lald hx hb hK hP (3 + i) 2 (gG_get (show i < 10 by omega) rfl) rfl (show cc < 17 by omega) (by decide) dX0_exchange_55 ?_
            rw [xcP_o (Nat.zero_le _)]
            refine lv_lstore (lv' := [(6, .long (M1 i cc)), (5, .ref (r i)), (4, .int (nI i)), (3, .ref (r rr)), (0, .ref h0), (1, .int (nI rr)), (2, .int (nI cc))]) hx hb dX0_exchange_56 hl (by decide) rfl (fun ls hl => ?_)
            refine lv_iconst (v := nI 0) hx hb dX0_exchange_58 (by decide) ?_
            refine lv_istore (lv' := [(8, .int (nI 0)), (6, .long (M1 i cc)), (5, .ref (r i)), (4, .int (nI i)), (3, .ref (r rr)), (0, .ref h0), (1, .int (nI rr)), (2, .int (nI cc))]) hx hb dX0_exchange_59 hl (by decide) rfl (fun ls hl => ?_)
            have inner : ∀ (d j : Nat) (H : Heap) (locs : List Loc) (ls : Array Slot), j + d = nw + 1 → va_P (dC, dI) vwCl (wgW h0 qc qh r cA cI cJ me nw u tw iv hd (xcP tw iv M1 rr cc nw i j)) H → va_K (dC, dI) vwCl (wgT cA cI cJ) s → va_D A (wgW h0 qc qh r cA cI cJ me nw u tw iv hd (xcP tw iv M1 rr cc nw i j)) → va_S A s.heap H locs → lv_has ls 9 [(8, .int (nI j)), (6, .long (M1 i cc)), (5, .ref (r i)), (4, .int (nI i)), (3, .ref (r rr)), (0, .ref h0), (1, .int (nI rr)), (2, .int (nI cc))] → W p l e (headSpec wsX0_exchange ({ frames := 2, cells := 0, slots := 0, locals := 73 })).room s m #[.ref h0, .int (nI rr), .int (nI cc)] below meth c H locs 0 0 (MQ below (va_Qv (fun v : Unit => True) (fun v t => va_P (dC, dI) vwCl (wgW h0 qc qh r cA cI cJ me nw (xcS M rr cc nw rr cc) (bcF (((xcS M rr cc nw rr cc) &&& -(xcS M rr cc nw rr cc)) - 1)) (nwF (sr (xcS M rr cc nw rr cc) (bcF (((xcS M rr cc nw rr cc) &&& -(xcS M rr cc nw rr cc)) - 1))) 5) (upd hd rr (nI cc)) (xcM tw iv M rr cc me nw)) t.heap ∧ va_K (dC, dI) vwCl (wgT cA cI cJ) t ∧ va_D A (wgW h0 qc qh r cA cI cJ me nw (xcS M rr cc nw rr cc) (bcF (((xcS M rr cc nw rr cc) &&& -(xcS M rr cc nw rr cc)) - 1)) (nwF (sr (xcS M rr cc nw rr cc) (bcF (((xcS M rr cc nw rr cc) &&& -(xcS M rr cc nw rr cc)) - 1))) 5) (upd hd rr (nI cc)) (xcM tw iv M rr cc me nw))) A) #[.ref h0, .int (nI rr), .int (nI cc)] s 0 0 A) (F0 m 61 ls []) := by
              intro d2
              induction d2 with
              | zero =>
                intro j H locs ls hk2 hP hK hD hS hl
                refine lv_iload hx hb dX0_exchange_61 (lv_at hl 0 rfl) ?_
                refine lv_aload_n hx hb dX0_exchange_63 rfl (lv_at hl 5 rfl) ?_
                refine va_get (D := (dC, dI)) (ci := 0) (v := .int (nI nw)) (C := RX0) (T := TX0) (N := 7) hx hb hts (fun _ h => List.mem_cons_of_mem _ (List.mem_append_right _ h)) hown hK hP 0 rfl rfl 3 (by decide) (hts (.fieldLink RX0 24 "RankFinder$Weighing" "weights" "I") (List.mem_of_getElem? (i := 3) rfl)) (fun _ h9 => h9) rfl dX0_exchange_64 ?_
                refine lv_icmp_gt (tgt := 99) hx hb dX0_exchange_67 (by decide) (fun c3 => ?_) (fun c3 => ?_)
                · obtain rfl : j = nw + 1 := by omega
                  rw [xcP_n] at hP hD
                  refine lv_iinc (v := nI (i + 1)) (lv' := [(4, .int (nI (i + 1))), (8, .int (nI (nw + 1))), (6, .long (M1 i cc)), (5, .ref (r i)), (3, .ref (r rr)), (0, .ref h0), (1, .int (nI rr)), (2, .int (nI cc))]) hx hb dX0_exchange_99 hl (k := 3) rfl (nI_1 _) (by decide) rfl (fun ls hl => ?_)
                  refine lv_goto (tgt := 28) hx hb dX0_exchange_102 (by decide) ?_
                  exact ih (i + 1) H _ ls (by omega) hP hK hD hS (lv_sub hl [0, 4, 5, 6, 7] rfl)
                · exact absurd (nI_lt (by omega) (by omega)) c3
              | succ d2 ih2 =>
                intro j H locs ls hk2 hP hK hD hS hl
                refine lv_iload hx hb dX0_exchange_61 (lv_at hl 0 rfl) ?_
                refine lv_aload_n hx hb dX0_exchange_63 rfl (lv_at hl 5 rfl) ?_
                refine va_get (D := (dC, dI)) (ci := 0) (v := .int (nI nw)) (C := RX0) (T := TX0) (N := 7) hx hb hts (fun _ h => List.mem_cons_of_mem _ (List.mem_append_right _ h)) hown hK hP 0 rfl rfl 3 (by decide) (hts (.fieldLink RX0 24 "RankFinder$Weighing" "weights" "I") (List.mem_of_getElem? (i := 3) rfl)) (fun _ h9 => h9) rfl dX0_exchange_64 ?_
                refine lv_icmp_gt (tgt := 99) hx hb dX0_exchange_67 (by decide) (fun c3 => ?_) (fun c3 => ?_)
                · exact absurd c3 (nI_nlt (by omega) (by omega))
                · refine lv_aload hx hb dX0_exchange_70 (lv_at hl 2 rfl) ?_
                  refine lv_iload hx hb dX0_exchange_72 (lv_at hl 0 rfl) ?_
                  refine lv_aload_n hx hb dX0_exchange_74 rfl (lv_at hl 5 rfl) ?_
                  refine lv_aload_n hx hb dX0_exchange_75 rfl (lv_at hl 4 rfl) ?_
                  refine lv_iload_n hx hb dX0_exchange_76 rfl (lv_at hl 7 rfl) ?_
                  refine na_lald hx hb hK hP (3 + rr) 2 (gG_get (show rr < 10 by omega) rfl) rfl (show cc < 17 by omega) (by decide) dX0_exchange_77 ?_
                  rw [xcP_r]
                  refine lv_aload hx hb dX0_exchange_78 (lv_at hl 2 rfl) ?_
                  refine lv_iload hx hb dX0_exchange_80 (lv_at hl 0 rfl) ?_
                  refine na_lald hx hb hK hP (3 + i) 2 (gG_get (show i < 10 by omega) rfl) rfl (show j < 17 by omega) (by decide) dX0_exchange_82 ?_
                  rw [xcP_o (Nat.le_refl _)]
                  refine lv_lload hx hb dX0_exchange_83 (lv_at hl 1 rfl) ?_
                  refine lv_aload_n hx hb dX0_exchange_85 rfl (lv_at hl 4 rfl) ?_
                  refine lv_iload hx hb dX0_exchange_86 (lv_at hl 0 rfl) ?_
                  refine na_lald hx hb hK hP (3 + rr) 2 (gG_get (show rr < 10 by omega) rfl) rfl (show j < 17 by omega) (by decide) dX0_exchange_88 ?_
                  rw [xcP_r]
                  have hFc : ∀ q, va_A (wgW h0 qc qh r cA cI cJ me nw u tw iv hd (xcP tw iv M1 rr cc nw i j)) H.size q → A q := va_fall hD hS hA
                  refine va_calll (va_runV (As := [.long (M1 rr cc), .long (M1 i j), .long (M1 i cc), .long (M1 rr j)]) (rest := [.int (nI j), .ref (r i)]) ⟨hx, hb, hml, hown, hts⟩ (c_X0_differenceByUnit l dC dI h0 qc qh r cA cI cJ H.size me nw u tw iv hd (xcP tw iv M1 rr cc nw i j) (M1 rr cc) (M1 i j) (M1 i cc) (M1 rr j)) (cwV 4 hts gX0_exchange_X0_differenceByUnit rfl rfl rfl (by decide +kernel) ⟨Nat.le_of_ble_eq_true rfl, Nat.le_of_ble_eq_true rfl⟩) ⟨fun a U g mk q => by obtain ⟨q0, q1, qP, qK, qD⟩ := q; exact ⟨q0, q1, qP, va_K.moved (u := U) (U := U.calling g mk a) (Vm.Alike.refl U.vm) qK, qD⟩, va_recv hK hP (ci := 0) (q0 := 0) rfl rfl, fun U hU hW => ⟨rfl, by rw [hU], by rw [hU]; exact hP, va_K.moved hW.alike hK, hD.weaken (fun _ _ _ _ => trivial)⟩⟩ rfl rfl hl.1 rfl (lv_room (Nat.le_of_ble_eq_true rfl)) dX0_exchange_89 ⟨(Nat.zero_le _), (Nat.zero_le _)⟩) hS (fun q _ h => hFc q h) hFc (fun r_89 v9 t H1 locs ht hvm hw hB hz1 hk1 hS => ?_)
                  obtain ⟨hP1, hK1, hD1⟩ := hB
                  rw [ht] at hP1
                  clear hP hD hK
                  have hK := va_K.moved hvm.symm hK1
                  have hP := hP1
                  have hD := hD1.weaken (B := A) (fun _ q _ h => hFc q.1 h)
                  clear hP1 hD1 hK1 hFc hk1 hz1 ht hvm
                  generalize H1 = H at hP hS ⊢
                  subst hw
                  refine na_last hx hb hK hP hD hS (3 + i) 2 (gG_get (show i < 10 by omega) rfl) rfl (show j < 17 by omega) (by decide) dX0_exchange_92 (fun H locs hP hD hS => ?_)
                  rw [wgW_set (show i < 10 by omega)] at hP hD
                  have hP : va_P (dC, dI) vwCl (wgW h0 qc qh r cA cI cJ me nw u tw iv hd (mup (xcP tw iv M1 rr cc nw i j) i j (dbF tw iv (M1 rr cc) (M1 i j) (M1 i cc) (M1 rr j)))) H := hP
                  have hD : va_D A (wgW h0 qc qh r cA cI cJ me nw u tw iv hd (mup (xcP tw iv M1 rr cc nw i j) i j (dbF tw iv (M1 rr cc) (M1 i j) (M1 i cc) (M1 rr j)))) := hD
                  rw [xcP_s hne (by omega)] at hP hD
                  refine lv_iinc (v := nI (j + 1)) (lv' := [(8, .int (nI (j + 1))), (6, .long (M1 i cc)), (5, .ref (r i)), (4, .int (nI i)), (3, .ref (r rr)), (0, .ref h0), (1, .int (nI rr)), (2, .int (nI cc))]) hx hb dX0_exchange_93 hl (k := 0) rfl (nI_1 _) (by decide) rfl (fun ls hl => ?_)
                  refine lv_goto (tgt := 61) hx hb dX0_exchange_96 (by decide) ?_
                  exact ih2 (j + 1) H _ ls (by omega) hP hK hD hS (lv_sub hl [0, 1, 2, 3, 4, 5, 6, 7] rfl)
            exact inner (nw + 1) 0 H _ ls (by omega) hP hK hD hS (lv_sub hl [0, 1, 2, 3, 4, 5, 6, 7] rfl)
    exact outer (me + 1) 0 H _ ls (by omega) (by rw [xcP_0]; exact hP) hK (by rw [xcP_0]; exact hD) hS (lv_sub hl [0, 1, 2, 3, 4] rfl)
  refine lv_aload_n hx hb dX0_exchange_0 rfl (lv_at hl 0 rfl) ?_
  refine va_get (D := (dC, dI)) (ci := 0) (v := .ref qc) (C := RX0) (T := TX0) (N := 7) hx hb hts (fun _ h => List.mem_cons_of_mem _ (List.mem_append_right _ h)) hown hK hP 0 rfl rfl 0 (by decide) (hts (.fieldLink RX0 13 "RankFinder$Weighing" "cell" "[[J") (List.mem_of_getElem? (i := 1) rfl)) (fun _ h9 => h9) rfl dX0_exchange_1 ?_
  refine lv_iload_n hx hb dX0_exchange_4 rfl (lv_at hl 1 rfl) ?_
  refine na_aald (y := r rr) hx hb hK hP 1 0 rfl rfl (show rr < 10 by omega) (by decide) (if_pos (show rr < 10 by omega)) dX0_exchange_5 ?_
  refine lv_iload_n hx hb dX0_exchange_6 rfl (lv_at hl 2 rfl) ?_
  refine na_lald hx hb hK hP (3 + rr) 2 (gG_get (show rr < 10 by omega) rfl) rfl (show cc < 17 by omega) (by decide) dX0_exchange_7 ?_
  refine lv_lconst (v := 0) hx hb dX0_exchange_8 (by decide) ?_
  refine W.lcmp hx hb dX0_exchange_9 ?_
  refine lv_if_ge (tgt := 18) hx hb dX0_exchange_10 (by decide) (fun c1 => ?_) (fun c1 => ?_)
  · rw [lg_cmp_ge] at c1
    have e9 : xcS M rr cc nw = M := if_neg (Int64.not_lt.mpr c1)
    exact behind H _ ls (by rw [e9]; exact hP) hK (by rw [e9]; exact hD) hS hl
  · rw [lg_cmp_ge] at c1
    have e9 : xcS M rr cc nw = ngF M rr (nw + 1) := if_pos (Int64.not_le.mp c1)
    refine lv_aload_n hx hb dX0_exchange_13 rfl (lv_at hl 0 rfl) ?_
    refine lv_iload_n hx hb dX0_exchange_14 rfl (lv_at hl 1 rfl) ?_
    have hFc : ∀ q, va_A (wgW h0 qc qh r cA cI cJ me nw u tw iv hd M) H.size q → A q := va_fall hD hS hA
    refine va_callv (va_runV (As := [.int (nI rr)]) (rest := []) ⟨hx, hb, hml, hown, hts⟩ (c_X0_negate l dC dI h0 qc qh r cA cI cJ H.size me nw u tw iv hd M rr (by omega) hn) (cwV 1 hts gX0_exchange_X0_negate rfl rfl rfl (by decide +kernel) ⟨Nat.le_of_ble_eq_true rfl, Nat.le_of_ble_eq_true rfl⟩) ⟨fun a U g mk q => by obtain ⟨q0, q1, qP, qK, qD⟩ := q; exact ⟨q0, q1, qP, va_K.moved (u := U) (U := U.calling g mk a) (Vm.Alike.refl U.vm) qK, qD⟩, va_recv hK hP (ci := 0) (q0 := 0) rfl rfl, fun U hU hW => ⟨rfl, by rw [hU], by rw [hU]; exact hP, va_K.moved hW.alike hK, hD.weaken (fun _ _ _ _ => trivial)⟩⟩ rfl rfl hl.1 rfl (lv_room (Nat.le_of_ble_eq_true rfl)) dX0_exchange_15 ⟨(Nat.zero_le _), (Nat.zero_le _)⟩) hS (fun q _ h => hFc q h) hFc (fun v9 t H1 locs ht hvm hw hB hz1 hk1 hS => ?_)
    obtain ⟨hP1, hK1, hD1⟩ := hB
    rw [ht] at hP1
    clear hP hD hK
    have hK := va_K.moved hvm.symm hK1
    have hP := hP1
    have hD := hD1.weaken (B := A) (fun _ q _ h => hFc q.1 h)
    clear hP1 hD1 hK1 hFc hk1 hz1 ht hvm
    generalize H1 = H at hP hS ⊢
    exact behind H _ ls (by rw [e9]; exact hP) hK (by rw [e9]; exact hD) hS hl
end
section
/-! ===== numbers of 64 bits (begins with the family uN of the kit's BITS.to-paste) ===== -/
def uN (x : Int64) : Nat := x.toUInt64.toNat
theorem uN_lt (x : Int64) : uN x < 18446744073709551616 := x.toUInt64.toNat_lt
theorem uN_inj {x y : Int64} (h : uN x = uN y) : x = y := congrArg UInt64.toInt64 (UInt64.toNat_inj.mp h)
theorem uN_add (x y : Int64) : uN (x + y) = (uN x + uN y) % 18446744073709551616 := by
  show (x.toUInt64 + y.toUInt64).toNat = _
  exact UInt64.toNat_add _ _
theorem uN_mul (x y : Int64) : uN (x * y) = (uN x * uN y) % 18446744073709551616 := by
  show (x.toUInt64 * y.toUInt64).toNat = _
  exact UInt64.toNat_mul _ _
theorem uN_shl (x : Int64) : uN (x <<< ((1 : Int32).toInt64 &&& 63)) = (2 * uN x) % 18446744073709551616 := by
  have h : (((1 : Int32).toInt64 &&& 63).toBitVec.smod 64).toNat = 1 := by decide
  show (x.toBitVec <<< (((1 : Int32).toInt64 &&& 63).toBitVec.smod 64).toNat).toNat = _
  rw [h, BitVec.toNat_shiftLeft, Nat.shiftLeft_eq, Nat.mul_comm]
  rfl
theorem uN_shr (x : Int64) (s : UInt64) : uN (x.toUInt64 >>> s).toInt64 = uN x / 2 ^ (s.toNat % 64) := by
  show (x.toUInt64 >>> s).toNat = _
  rw [UInt64.toNat_shiftRight, Nat.shiftRight_eq_div_pow]
  rfl
theorem uN_s32 (x : Int64) : uN (x.toUInt64 >>> ((32 : Int32).toInt64.toUInt64 &&& Int64.toUInt64 63)).toInt64 = uN x / 4294967296 := by
  have h : ((32 : Int32).toInt64.toUInt64 &&& Int64.toUInt64 63).toNat % 64 = 32 := by decide
  rw [uN_shr, h]
theorem uN_s63 (x : Int64) : uN (x.toUInt64 >>> ((63 : Int32).toInt64.toUInt64 &&& Int64.toUInt64 63)).toInt64 = uN x / 9223372036854775808 := by
  have h : ((63 : Int32).toInt64.toUInt64 &&& Int64.toUInt64 63).toNat % 64 = 63 := by decide
  rw [uN_shr, h]
theorem uN_lo (x : Int64) : uN (x &&& 4294967295) = uN x % 4294967296 := by
  show (x.toUInt64 &&& Int64.toUInt64 4294967295).toNat = _
  rw [UInt64.toNat_and]
  exact Nat.and_two_pow_sub_one_eq_mod _ 32
theorem uN_bit (x : Int64) : (x &&& 1) = 0 ↔ uN x % 2 = 0 := by
  have h : uN (x &&& 1) = uN x % 2 := by
    show (x.toUInt64 &&& Int64.toUInt64 1).toNat = _
    rw [UInt64.toNat_and]
    exact Nat.and_two_pow_sub_one_eq_mod _ 1
  rw [← h]
  exact ⟨fun z => by rw [z]; rfl, fun z => uN_inj (z.trans rfl)⟩
theorem uN_or {x y : Int64} (hy : uN y < 2) : uN ((x <<< ((1 : Int32).toInt64 &&& 63)) ||| y) = (2 * uN x) % 18446744073709551616 + uN y := by
  have h1 : uN ((x <<< ((1 : Int32).toInt64 &&& 63)) ||| y) = uN (x <<< ((1 : Int32).toInt64 &&& 63)) ||| uN y := UInt64.toNat_or _ _
  have h2 : (2 * uN x) % 18446744073709551616 = 2 ^ 1 * (uN x % 9223372036854775808) := by omega
  rw [h1, uN_shl, h2]
  exact (Nat.two_pow_add_eq_or_of_lt (i := 1) hy _).symm
theorem nat_xor {a : Nat} (h : a < 18446744073709551616) : a ^^^ 2 ^ 63 = (a + 9223372036854775808) % 18446744073709551616 := by
  have h1 : (a ^^^ 2 ^ 63) % 2 ^ 63 = a % 2 ^ 63 := by rw [Nat.xor_mod_two_pow, Nat.mod_self, Nat.xor_zero]
  have h2 : (a ^^^ 2 ^ 63) / 2 ^ 63 = (a / 2 ^ 63) ^^^ 1 := by rw [Nat.xor_div_two_pow, Nat.div_self (Nat.two_pow_pos 63)]
  have h3 : a / 2 ^ 63 = 0 ∨ a / 2 ^ 63 = 1 := by omega
  generalize a ^^^ 2 ^ 63 = t at h1 h2
  rcases h3 with h3 | h3
  · rw [h3] at h2
    have h2 : t / 2 ^ 63 = 1 := h2
    omega
  · rw [h3] at h2
    have h2 : t / 2 ^ 63 = 0 := h2
    omega
theorem uN_xor (x : Int64) : uN (x ^^^ (-9223372036854775808)) = (uN x + 9223372036854775808) % 18446744073709551616 := by
  rw [← nat_xor (uN_lt x)]
  exact UInt64.toNat_xor _ _
theorem uN_int (x : Int64) : x.toInt = if 2 * uN x < 18446744073709551616 then (uN x : Int) else (uN x : Int) - 18446744073709551616 := BitVec.toInt_eq_toNat_cond _
theorem uN_le (x y : Int64) : (x ^^^ (-9223372036854775808)) ≤ (y ^^^ (-9223372036854775808)) ↔ uN x ≤ uN y := by
  have hx := uN_lt x
  have hy := uN_lt y
  rw [Int64.le_iff_toInt_le, uN_int, uN_int, uN_xor, uN_xor]
  omega
theorem uN_sk (x : Int64) {k : Nat} (hk : k < 64) : uN (x.toUInt64 >>> ((nI k).toInt64.toUInt64 &&& Int64.toUInt64 63)).toInt64 = uN x / 2 ^ k := by
  have h : ((nI k).toInt64.toUInt64 &&& Int64.toUInt64 63).toNat % 64 = k := by
    rw [nI_l (by omega), UInt64.toNat_and]
    have e : (lN k).toUInt64.toNat = k % 2 ^ 64 := rfl
    have e2 : (Int64.toUInt64 63).toNat = 2 ^ 6 - 1 := by decide
    rw [e, e2, Nat.and_two_pow_sub_one_eq_mod]
    omega
  rw [uN_shr, h]
/-- alike up to a multiple of 2 to the 64th -/
def cg (a b : Int) : Prop := ∃ k : Int, a = b + 18446744073709551616 * k
theorem cg.rf (a : Int) : cg a a := ⟨0, by omega⟩
theorem cg.sy {a b : Int} (h : cg a b) : cg b a := by obtain ⟨k, h⟩ := h; exact ⟨-k, by omega⟩
theorem cg.tr {a b c : Int} (h : cg a b) (h2 : cg b c) : cg a c := by obtain ⟨k, h⟩ := h; obtain ⟨k2, h2⟩ := h2; exact ⟨k + k2, by omega⟩
theorem cg.trans' {a b c : Int} (h : cg a b) (h2 : cg b c) : cg a c := h.tr h2
theorem cg.add {a b c d : Int} (h : cg a b) (h2 : cg c d) : cg (a + c) (b + d) := by obtain ⟨k, h⟩ := h; obtain ⟨k2, h2⟩ := h2; exact ⟨k + k2, by omega⟩
theorem cg.sub {a b c d : Int} (h : cg a b) (h2 : cg c d) : cg (a - c) (b - d) := by obtain ⟨k, h⟩ := h; obtain ⟨k2, h2⟩ := h2; exact ⟨k - k2, by omega⟩
theorem cg.mul {a b c d : Int} (h : cg a b) (h2 : cg c d) : cg (a * c) (b * d) := by
  obtain ⟨k, h⟩ := h; obtain ⟨k2, h2⟩ := h2
  exact ⟨k * d + b * k2 + 18446744073709551616 * (k * k2), by subst h; subst h2; grind⟩
theorem cg_bm (a : Int) : cg (a.bmod (2 ^ 64)) a := by
  refine ⟨-(a.bdiv (2 ^ 64)), ?_⟩
  have := Int.bmod_add_bdiv a (2 ^ 64)
  have e : ((2 ^ 64 : Nat) : Int) = 18446744073709551616 := by decide
  rw [e] at this
  omega
theorem cg_addL (a b : Int64) : cg (a + b).toInt (a.toInt + b.toInt) := by rw [Int64.toInt_add]; exact cg_bm _
theorem cg_subL (a b : Int64) : cg (a - b).toInt (a.toInt - b.toInt) := by rw [Int64.toInt_sub]; exact cg_bm _
theorem cg_mulL (a b : Int64) : cg (a * b).toInt (a.toInt * b.toInt) := by rw [Int64.toInt_mul]; exact cg_bm _
theorem cg_uN (a : Int64) : cg (uN a : Int) a.toInt := by
  rw [uN_int]
  split
  · exact cg.rf _
  · exact ⟨1, by omega⟩
/-- what is alike and small is the same -/
theorem cg_eq {x : Int64} {z : Int} (h : cg x.toInt z) (h1 : -9223372036854775808 ≤ z) (h2 : z < 9223372036854775808) : x.toInt = z := by
  obtain ⟨k, h⟩ := h
  have g1 := x.toInt_lt
  have g2 := x.le_toInt
  have : k = 0 := by omega
  subst this
  omega
theorem lx_mulE {a b : Int64} (h1 : -9223372036854775808 ≤ a.toInt * b.toInt) (h2 : a.toInt * b.toInt < 9223372036854775808) : (a * b).toInt = a.toInt * b.toInt := cg_eq (cg_mulL a b) h1 h2
theorem lx_addE {a b : Int64} (h1 : -9223372036854775808 ≤ a.toInt + b.toInt) (h2 : a.toInt + b.toInt < 9223372036854775808) : (a + b).toInt = a.toInt + b.toInt := cg_eq (cg_addL a b) h1 h2
theorem lx_subE {a b : Int64} (h1 : -9223372036854775808 ≤ a.toInt - b.toInt) (h2 : a.toInt - b.toInt < 9223372036854775808) : (a - b).toInt = a.toInt - b.toInt := cg_eq (cg_subL a b) h1 h2
theorem sr_int (x : Int64) {k : Nat} (hk : k < 64) : (sr x (nI k)).toInt = x.toInt / 2 ^ k := by
  unfold sr
  have h : ((nI k).toInt64 &&& 63).toBitVec.smod 64 = BitVec.ofNat 64 k := by
    have : ∀ k, k < 64 → ((nI k).toInt64 &&& 63).toBitVec.smod 64 = BitVec.ofNat 64 k := by decide +kernel
    exact this k hk
  show (x >>> ((nI k).toInt64 &&& 63)).toBitVec.toInt = _
  rw [Int64.toBitVec_shiftRight]
  show (x.toBitVec.sshiftRight' _).toInt = _
  rw [show (((nI k).toInt64 &&& 63).toBitVec.smod 64) = BitVec.ofNat 64 k from h]
  rw [BitVec.sshiftRight', BitVec.toInt_sshiftRight, Int.shiftRight_eq_div_pow]
  rw [show (BitVec.ofNat 64 k).toNat = k from by simp; omega]
  rfl
theorem ur_N (x : Int64) {k : Nat} (hk : k < 64) : uN (ur x (nI k)) = uN x / 2 ^ k := uN_sk x hk
theorem lo_int (x : Int64) : (x &&& 4294967295).toInt = x.toInt % 4294967296 := by
  have h1 := uN_lo x
  have h2 := uN_int (x &&& 4294967295)
  have h3 := uN_int x
  have h4 := uN_lt x
  rw [h1] at h2
  rw [if_pos (by omega)] at h2
  rw [h2, h3]
  split <;> omega
theorem mulB {x y X Y : Int} (h1 : -X ≤ x) (h2 : x ≤ X) (h3 : 0 ≤ y) (h4 : y ≤ Y) (hX : 0 ≤ X) : -(X * Y) ≤ x * y ∧ x * y ≤ X * Y := by
  have a1 : x * y ≤ X * y := Int.mul_le_mul_of_nonneg_right h2 h3
  have a2 : X * y ≤ X * Y := Int.mul_le_mul_of_nonneg_left h4 hX
  have a3 : -X * y ≤ x * y := Int.mul_le_mul_of_nonneg_right h1 h3
  have a4 : -X * y = -(X * y) := by grind
  omega
theorem mulU {x y X Y : Int} (h2 : x ≤ X) (h3 : 0 ≤ y) (h4 : y ≤ Y) (hX : 0 ≤ X) : x * y ≤ X * Y :=
  Int.le_trans (Int.mul_le_mul_of_nonneg_right h2 h3) (Int.mul_le_mul_of_nonneg_left h4 hX)
/-- the upper half of a product -/
theorem hpF_int (a b : Int64) : (hpF a b).toInt = a.toInt * b.toInt / 18446744073709551616 := by
  have a1 := a.toInt_lt
  have a2 := a.le_toInt
  have b1 := b.toInt_lt
  have b2 := b.le_toInt
  have hA := sr_int a (k := 32) (by omega)
  have hB := sr_int b (k := 32) (by omega)
  have lA := lo_int a
  have lB := lo_int b
  have eA : a.toInt = (a.toInt / 4294967296) * 4294967296 + a.toInt % 4294967296 := by omega
  have eB : b.toInt = (b.toInt / 4294967296) * 4294967296 + b.toInt % 4294967296 := by omega
  rw [show (2 : Int) ^ 32 = 4294967296 from by decide] at hA hB
  generalize hAH : a.toInt / 4294967296 = AH at hA eA
  generalize hBH : b.toInt / 4294967296 = BH at hB eB
  generalize hAL : a.toInt % 4294967296 = AL at lA eA
  generalize hBL : b.toInt % 4294967296 = BL at lB eB
  have rAH : -2147483648 ≤ AH ∧ AH ≤ 2147483647 := by omega
  have rBH : -2147483648 ≤ BH ∧ BH ≤ 2147483647 := by omega
  have rAL : 0 ≤ AL ∧ AL ≤ 4294967295 := by omega
  have rBL : 0 ≤ BL ∧ BL ≤ 4294967295 := by omega
  have p1 := mulB (x := AH) (y := BL) (X := 2147483648) (Y := 4294967295) (by omega) (by omega) rBL.1 rBL.2 (by omega)
  have p2 := mulB (x := BH) (y := AL) (X := 2147483648) (Y := 4294967295) (by omega) (by omega) rAL.1 rAL.2 (by omega)
  have p3 := mulB (x := AL) (y := BL) (X := 4294967295) (Y := 4294967295) (by omega) (by omega) rBL.1 rBL.2 (by omega)
  have p1' := mulU (x := AH) (y := BL) (X := 2147483647) (Y := 4294967295) (by omega) rBL.1 rBL.2 (by omega)
  have p2' := mulU (x := BH) (y := AL) (X := 2147483647) (Y := 4294967295) (by omega) rAL.1 rAL.2 (by omega)
  have p3' : 0 ≤ AL * BL := Int.mul_nonneg rAL.1 rBL.1
  -- the low product, without a sign
  have u1 : (uN ((a &&& 4294967295) * (b &&& 4294967295)) : Int) = AL * BL := by
    have h := (cg_uN ((a &&& 4294967295) * (b &&& 4294967295))).tr (cg_mulL (a &&& 4294967295) (b &&& 4294967295))
    rw [lA, lB] at h
    obtain ⟨k, h⟩ := h
    have := uN_lt ((a &&& 4294967295) * (b &&& 4294967295))
    omega
  have u2 : (ur ((a &&& 4294967295) * (b &&& 4294967295)) (nI 32)).toInt = AL * BL / 4294967296 := by
    have h1 := ur_N ((a &&& 4294967295) * (b &&& 4294967295)) (k := 32) (by omega)
    have h2 := uN_int (ur ((a &&& 4294967295) * (b &&& 4294967295)) (nI 32))
    rw [h1] at h2
    have h3 := uN_lt ((a &&& 4294967295) * (b &&& 4294967295))
    rw [if_pos (by omega)] at h2
    rw [h2, ← u1]
    omega
  have m1 : (sr a (nI 32) * (b &&& 4294967295)).toInt = AH * BL := by
    have := lx_mulE (a := sr a (nI 32)) (b := b &&& 4294967295) (by rw [hA, lB]; omega) (by rw [hA, lB]; omega)
    rw [hA, lB] at this
    exact this
  have m2 : (hpM a b).toInt = AH * BL + AL * BL / 4294967296 := by
    unfold hpM
    rw [lx_addE (by rw [m1, u2]; omega) (by rw [m1, u2]; omega), m1, u2]
  have m3 := lo_int (hpM a b)
  rw [m2] at m3
  have m4 : ((a &&& 4294967295) * sr b (nI 32)).toInt = AL * BH := by
    have h : AL * BH = BH * AL := Int.mul_comm _ _
    have := lx_mulE (a := a &&& 4294967295) (b := sr b (nI 32)) (by rw [hB, lA, h]; omega) (by rw [hB, lA, h]; omega)
    rw [hB, lA] at this
    exact this
  have hc : AL * BH = BH * AL := Int.mul_comm _ _
  have m5 : ((a &&& 4294967295) * sr b (nI 32) + (hpM a b &&& 4294967295)).toInt = AL * BH + (AH * BL + AL * BL / 4294967296) % 4294967296 := by
    rw [lx_addE (by rw [m4, m3, hc]; omega) (by rw [m4, m3, hc]; omega), m4, m3]
  have m6 := sr_int ((a &&& 4294967295) * sr b (nI 32) + (hpM a b &&& 4294967295)) (k := 32) (by omega)
  have m7 := sr_int (hpM a b) (k := 32) (by omega)
  rw [show (2 : Int) ^ 32 = 4294967296 from by decide] at m6 m7
  rw [m5] at m6
  rw [m2] at m7
  -- the answer, up to a multiple
  have hfin : cg (hpF a b).toInt (AH * BH + (AH * BL + AL * BL / 4294967296) / 4294967296 + (AL * BH + (AH * BL + AL * BL / 4294967296) % 4294967296) / 4294967296) := by
    unfold hpF
    have q1 := cg_mulL (sr a (nI 32)) (sr b (nI 32))
    rw [hA, hB] at q1
    have q2 := (cg_addL (sr a (nI 32) * sr b (nI 32)) (sr (hpM a b) (nI 32))).tr (q1.add (cg.rf _))
    rw [m7] at q2
    have q3 := (cg_addL (sr a (nI 32) * sr b (nI 32) + sr (hpM a b) (nI 32)) (sr ((a &&& 4294967295) * sr b (nI 32) + (hpM a b &&& 4294967295)) (nI 32))).tr (q2.add (cg.rf _))
    rw [m6] at q3
    exact q3
  have hval : a.toInt * b.toInt / 18446744073709551616 = AH * BH + (AH * BL + AL * BL / 4294967296) / 4294967296 + (AL * BH + (AH * BL + AL * BL / 4294967296) % 4294967296) / 4294967296 := by
    have e : a.toInt * b.toInt = (AH * BH) * 18446744073709551616 + (AH * BL + AL * BH) * 4294967296 + AL * BL := by rw [eA, eB]; grind
    rw [e]
    generalize AH * BH = X1
    generalize AH * BL = X2
    generalize AL * BH = X3
    generalize AL * BL = X4
    omega
  have rng : -9223372036854775808 ≤ a.toInt * b.toInt / 18446744073709551616 ∧ a.toInt * b.toInt / 18446744073709551616 < 9223372036854775808 := by
    have p4 : -(9223372036854775808 * 9223372036854775808) ≤ a.toInt * b.toInt ∧ a.toInt * b.toInt ≤ 9223372036854775808 * 9223372036854775808 := by
      rcases Int.le_total 0 b.toInt with q | q
      · have := mulB (x := a.toInt) (y := b.toInt) (X := 9223372036854775808) (Y := 9223372036854775808) (by omega) (by omega) q (by omega) (by omega)
        exact this
      · have := mulB (x := a.toInt) (y := -b.toInt) (X := 9223372036854775808) (Y := 9223372036854775808) (by omega) (by omega) (by omega) (by omega) (by omega)
        have e : a.toInt * -b.toInt = -(a.toInt * b.toInt) := by grind
        omega
    omega
  rw [← hval] at hfin
  exact cg_eq hfin rng.1 rng.2
end
section
/-! ===== the unit's twos and inverse; differenceByUnit is the division ===== -/
theorem odd_part : ∀ n : Nat, 0 < n → ∃ t k, n = 2 ^ t * (2 * k + 1) := by
  intro n
  induction n using Nat.strongRecOn with
  | ind n ih =>
    intro hn
    by_cases q : n % 2 = 1
    · exact ⟨0, n / 2, by simp; omega⟩
    · obtain ⟨t, k, e⟩ := ih (n / 2) (by omega) (by omega)
      refine ⟨t + 1, k, ?_⟩
      rw [Nat.pow_succ]
      have : n = 2 * (n / 2) := by omega
      rw [this, e]
      grind
theorem and_compl {m k : Nat} (h : k < 2 ^ m) : k &&& (2 ^ m - (k + 1)) = 0 := by
  apply Nat.eq_of_testBit_eq
  intro i
  rw [Nat.testBit_and, Nat.testBit_two_pow_sub_succ h]
  cases k.testBit i <;> simp
theorem and_odd (a b : Nat) : (2 * a + 1) &&& (2 * b + 1) = 2 * (a &&& b) + 1 := by
  apply Nat.eq_of_testBit_eq
  intro i
  rw [Nat.testBit_and]
  cases i with
  | zero => simp [Nat.testBit_zero]
  | succ i =>
    rw [Nat.testBit_succ, Nat.testBit_succ, Nat.testBit_succ]
    rw [show (2 * a + 1) / 2 = a by omega, show (2 * b + 1) / 2 = b by omega, show (2 * (a &&& b) + 1) / 2 = (a &&& b) by omega, Nat.testBit_and]
theorem and_pow (t a b : Nat) : (2 ^ t * a) &&& (2 ^ t * b) = 2 ^ t * (a &&& b) := by
  rw [Nat.mul_comm _ a, Nat.mul_comm _ b, Nat.mul_comm _ (a &&& b), ← Nat.shiftLeft_eq, ← Nat.shiftLeft_eq, ← Nat.shiftLeft_eq, Nat.shiftLeft_and_distrib]
theorem uN_and (x y : Int64) : uN (x &&& y) = uN x &&& uN y := by
  show (x &&& y).toUInt64.toNat = _
  exact UInt64.toNat_and ..
theorem uN_lN {n : Nat} (h : n < 18446744073709551616) : uN (lN n) = n := by
  show (Int64.ofNat n).toUInt64.toNat = n
  exact Nat.mod_eq_of_lt h
/-- the lowest bit alone -/
theorem low_bit {y : Int64} (h : 0 < y.toInt) : ∃ t k : Nat, t < 63 ∧ y.toInt = 2 ^ t * (2 * k + 1) ∧ (y &&& -y) = lN (2 ^ t) := by
  have hu := uN_int y
  have hl := uN_lt y
  have hlt := y.toInt_lt
  rw [if_pos (by
    apply Classical.byContradiction
    intro q
    rw [if_neg q] at hu
    omega)] at hu
  obtain ⟨t, k, e⟩ := odd_part (uN y) (by omega)
  have ht : t < 63 := by
    apply Classical.byContradiction
    intro q
    have h1 : 2 ^ 63 ≤ 2 ^ t := Nat.pow_le_pow_right (by omega) (by omega)
    have h2 : 2 ^ t * 1 ≤ 2 ^ t * (2 * k + 1) := Nat.mul_le_mul_left _ (by omega)
    omega
  refine ⟨t, k, ht, ?_, ?_⟩
  · rw [hu, e]; simp
  · apply uN_inj
    rw [uN_and]
    have h64 : (18446744073709551616 : Nat) = 2 ^ t * (2 * 2 ^ (63 - t)) := by
      rw [show 2 * 2 ^ (63 - t) = 2 ^ (64 - t) by rw [show 64 - t = (63 - t) + 1 by omega, Nat.pow_succ]; omega, ← Nat.pow_add, show t + (64 - t) = 64 by omega]
    have hk : k < 2 ^ (63 - t) := by
      apply Classical.byContradiction
      intro q
      have h2 : 2 ^ t * (2 * 2 ^ (63 - t)) ≤ 2 ^ t * (2 * k + 1) := Nat.mul_le_mul_left _ (by omega)
      omega
    have hneg : uN (-y) = 2 ^ t * (2 * (2 ^ (63 - t) - (k + 1)) + 1) := by
      have h1 : cg (uN (-y) : Int) (-y.toInt) := (cg_uN (-y)).tr (by rw [Int64.toInt_neg]; exact cg_bm _)
      obtain ⟨z, h1⟩ := h1
      have h2 := uN_lt (-y)
      have h3 : 2 ^ t * (2 * (2 ^ (63 - t) - (k + 1)) + 1) = 18446744073709551616 - uN y := by
        rw [h64, e, ← Nat.mul_sub]
        congr 1
        omega
      rw [h3]
      omega
    rw [hneg, e, and_pow, and_odd, and_compl hk]
    rw [uN_lN (by
      have : 2 ^ t < 2 ^ 64 := Nat.pow_lt_pow_right (by omega) (by omega)
      omega)]
    simp
theorem bc_all : ∀ t, t < 64 → bcF (lN (2 ^ t) - 1) = nI t := by decide +kernel
/-- 1 - o times what is found, round by round -/
theorem nw_sq : ∀ (k : Nat) (o : Int64), ∃ y : Int, cg (nwF o k).toInt y ∧ 1 - o.toInt * y = (1 - o.toInt * o.toInt) ^ (2 ^ k)
  | 0, o => ⟨o.toInt, cg.rf _, by rw [show 2 ^ 0 = 1 from rfl, Int.pow_succ, Int.pow_zero, Int.one_mul]⟩
  | k + 1, o => by
    obtain ⟨y, h1, h2⟩ := nw_sq k o
    refine ⟨y * (2 - o.toInt * y), ?_, ?_⟩
    · show cg (nwF o k * (2 - o * nwF o k)).toInt _
      refine (cg_mulL _ _).tr (h1.mul ((cg_subL _ _).tr (cg.sub (cg.rf _) ((cg_mulL _ _).tr ((cg.rf _).mul h1)))))
    · rw [Nat.pow_succ, Int.pow_mul, ← h2]
      grind
theorem nw_inv {o : Int64} {k : Int} (h : o.toInt = 2 * k + 1) : cg (o.toInt * (nwF o 5).toInt) 1 := by
  obtain ⟨y, h1, h2⟩ := nw_sq 5 o
  refine ((cg.rf o.toInt).mul h1).tr ?_
  -- 8 goes into 1 - o o
  obtain ⟨q, hq⟩ : ∃ q, 1 - o.toInt * o.toInt = 8 * q := by
    have h3 : ∃ z, k * (k + 1) = 2 * z := by
      rcases (by omega : k % 2 = 0 ∨ k % 2 = 1) with e | e
      · exact ⟨(k / 2) * (k + 1), by
          have : k = 2 * (k / 2) := by omega
          generalize k / 2 = z at this
          subst this; grind⟩
      · exact ⟨k * ((k + 1) / 2), by
          have : k + 1 = 2 * ((k + 1) / 2) := by omega
          generalize (k + 1) / 2 = z at this
          rw [this]; grind⟩
    obtain ⟨z, hz⟩ := h3
    exact ⟨-z, by rw [h]; grind⟩
  rw [hq] at h2
  have h4 : (8 * q) ^ (2 ^ 5) = 18446744073709551616 * (4294967296 * q ^ 32) := by
    rw [show (2 : Nat) ^ 5 = 32 from rfl, Int.mul_pow]
    rw [show (8 : Int) ^ 32 = 18446744073709551616 * 4294967296 from by decide]
    grind
  exact ⟨-(4294967296 * q ^ 32), by omega⟩
/-- what takeUnit finds -/
def Unt (u : Int64) (tw : Int32) (iv : Int64) : Prop := 0 < u.toInt ∧ ∃ (t : Nat) (o : Int), t < 63 ∧ tw = nI t ∧ u.toInt = 2 ^ t * o ∧ cg (o * iv.toInt) 1
theorem Unt_take {y : Int64} (h : 0 < y.toInt) : Unt y (bcF ((y &&& -y) - 1)) (nwF (sr y (bcF ((y &&& -y) - 1))) 5) := by
  obtain ⟨t, k, ht, e, hb⟩ := low_bit h
  have hbc : bcF ((y &&& -y) - 1) = nI t := by rw [hb]; exact bc_all t (by omega)
  have ho : (sr y (nI t)).toInt = 2 * k + 1 := by
    rw [sr_int y (by omega), e]
    exact Int.mul_ediv_cancel_left _ (by
      have : (0 : Int) < 2 ^ t := Int.pow_pos (by omega)
      omega)
  rw [hbc]
  refine ⟨h, t, 2 * k + 1, ht, rfl, e, ?_⟩
  have := nw_inv (o := sr y (nI t)) (k := k) ho
  rw [ho] at this
  exact this
theorem Unt_1 : Unt 1 (bcF ((1 &&& -1) - 1)) (nwF (sr 1 (bcF ((1 &&& -1) - 1))) 5) := Unt_take (by decide)
theorem uN_or2 (x y : Int64) : uN (x ||| y) = uN x ||| uN y := by
  show (x ||| y).toUInt64.toNat = _
  exact UInt64.toNat_or ..
theorem sl_N (x : Int64) {k : Nat} (hk : k < 64) : uN (sl x (nI k)) = uN x * 2 ^ k % 18446744073709551616 := by
  unfold sl
  have h : ((nI k).toInt64 &&& 63).toBitVec.smod 64 = BitVec.ofNat 64 k := by
    have : ∀ k, k < 64 → ((nI k).toInt64 &&& 63).toBitVec.smod 64 = BitVec.ofNat 64 k := by decide +kernel
    exact this k hk
  show (x <<< ((nI k).toInt64 &&& 63)).toBitVec.toNat = x.toBitVec.toNat * 2 ^ k % 18446744073709551616
  rw [Int64.toBitVec_shiftLeft, h]
  rw [BitVec.shiftLeft_eq', BitVec.toNat_shiftLeft, Nat.shiftLeft_eq]
  rw [show (BitVec.ofNat 64 k).toNat = k from by simp; omega]
/-- the division by the unit -/
theorem dbF_int {u : Int64} {tw : Int32} {iv : Int64} (hU : Unt u tw iv) {a b c d : Int64} {z : Int} (hz : a.toInt * b.toInt - c.toInt * d.toInt = u.toInt * z) (h1 : -9223372036854775808 ≤ z) (h2 : z < 9223372036854775808) : (dbF tw iv a b c d).toInt = z := by
  obtain ⟨-, t, o, ht, rfl, hu, hiv⟩ := hU
  refine cg_eq ?_ h1 h2
  generalize hX : a.toInt * b.toInt = X at hz
  generalize hY : c.toInt * d.toInt = Y at hz
  -- low words
  have fX : (uN (a * b) : Int) = X % 18446744073709551616 := by
    obtain ⟨k, h⟩ := (cg_uN (a * b)).tr (cg_mulL a b)
    rw [hX] at h
    have := uN_lt (a * b)
    omega
  have fY : (uN (c * d) : Int) = Y % 18446744073709551616 := by
    obtain ⟨k, h⟩ := (cg_uN (c * d)).tr (cg_mulL c d)
    rw [hY] at h
    have := uN_lt (c * d)
    omega
  have fL : (uN (a * b - c * d) : Int) = (X - Y) % 18446744073709551616 := by
    obtain ⟨k, h⟩ := (cg_uN (a * b - c * d)).tr ((cg_subL (a * b) (c * d)).tr ((cg_uN (a * b)).sy.sub (cg_uN (c * d)).sy))
    rw [fX, fY] at h
    have := uN_lt (a * b - c * d)
    omega
  -- the upper word
  have hlt : (a * b + (-9223372036854775808) < c * d + (-9223372036854775808)) ↔ uN (a * b) < uN (c * d) := by
    rw [Int64.lt_iff_toInt_lt]
    have key : ∀ x : Int64, (x + (-9223372036854775808)).toInt = (uN x : Int) - 9223372036854775808 := fun x => by
      refine cg_eq ((cg_addL _ _).trans' ?_) (by omega) (by have := uN_lt x; omega)
      obtain ⟨k, h⟩ := cg_uN x
      rw [show (-9223372036854775808 : Int64).toInt = -9223372036854775808 from by decide]
      exact ⟨-k, by omega⟩
    rw [key, key]
    omega
  have fH : cg (dbH a b c d).toInt ((X - Y) / 18446744073709551616) := by
    have hp1 := hpF_int a b
    have hp2 := hpF_int c d
    rw [hX] at hp1
    rw [hY] at hp2
    unfold dbH
    split
    · rename_i q
      rw [hlt] at q
      refine (cg_subL _ _).tr ?_
      refine ((cg_subL (hpF a b) (hpF c d)).sub (cg.rf (1 : Int64).toInt)).tr ?_
      rw [hp1, hp2, show (1 : Int64).toInt = 1 from by decide]
      refine (cg.rf _).trans' ?_
      rw [show X / 18446744073709551616 - Y / 18446744073709551616 - 1 = (X - Y) / 18446744073709551616 by omega]
      exact cg.rf _
    · rename_i q
      rw [hlt] at q
      refine (cg_subL (hpF a b) (hpF c d)).tr ?_
      rw [hp1, hp2]
      rw [show X / 18446744073709551616 - Y / 18446744073709551616 = (X - Y) / 18446744073709551616 by omega]
      exact cg.rf _
  rw [hz, hu] at fL fH
  -- the two shifts
  have hT : (0 : Nat) < 2 ^ t := Nat.pow_pos (by omega)
  have h64 : (18446744073709551616 : Nat) = 2 ^ t * 2 ^ (64 - t) := by rw [← Nat.pow_add, show t + (64 - t) = 64 by omega]
  have s1 := ur_N (a * b - c * d) (k := t) (by omega)
  have s2 : uN (sl (sl (dbH a b c d) (nI 1)) (nI 63 - nI t)) = uN (dbH a b c d) % 2 ^ t * 2 ^ (64 - t) := by
    rw [show nI 63 - nI t = nI (63 - t) from pk_sub (by omega), sl_N _ (by omega), sl_N _ (by omega)]
    rw [Nat.mod_mul_mod, show uN (dbH a b c d) * 2 ^ 1 * 2 ^ (63 - t) = uN (dbH a b c d) * 2 ^ (64 - t) by rw [Nat.mul_assoc, ← Nat.pow_add, show 1 + (63 - t) = 64 - t by omega]]
    rw [h64, Nat.mul_mod_mul_right]
  have hlow : uN (a * b - c * d) / 2 ^ t < 2 ^ (64 - t) := by
    rw [Nat.div_lt_iff_lt_mul hT, Nat.mul_comm, ← h64]
    exact uN_lt _
  have s3 : uN (ur (a * b - c * d) (nI t) ||| sl (sl (dbH a b c d) (nI 1)) (nI 63 - nI t)) = uN (dbH a b c d) % 2 ^ t * 2 ^ (64 - t) + uN (a * b - c * d) / 2 ^ t := by
    rw [uN_or2, s1, s2, Nat.or_comm, ← Nat.shiftLeft_eq, Nat.shiftLeft_add_eq_or_of_lt hlow]
  -- as whole numbers
  have hQ : (2 : Int) ^ t * 2 ^ (64 - t) = 18446744073709551616 := by
    have := congrArg (Int.ofNat) h64
    simp at this
    omega
  have hTi : (0 : Int) < 2 ^ t := Int.pow_pos (by omega)
  have hSi : (0 : Int) < 2 ^ (64 - t) := Int.pow_pos (by omega)
  have s4 : cg (ur (a * b - c * d) (nI t) ||| sl (sl (dbH a b c d) (nI 1)) (nI 63 - nI t)).toInt (o * z) := by
    refine (cg_uN _).sy.tr ?_
    rw [s3]
    obtain ⟨kh, hkh⟩ := (cg_uN (dbH a b c d)).tr fH
    -- the number split
    have e1 : 2 ^ t * o * z = (2 ^ t * o * z / 18446744073709551616) * 18446744073709551616 + 2 ^ t * o * z % 18446744073709551616 := by omega
    have e2 : ((uN (dbH a b c d) % 2 ^ t * 2 ^ (64 - t) + uN (a * b - c * d) / 2 ^ t : Nat) : Int) = (uN (dbH a b c d) : Int) % 2 ^ t * 2 ^ (64 - t) + (uN (a * b - c * d) : Int) / 2 ^ t := by
      simp
    rw [e2, fL]
    generalize hN : 2 ^ t * o * z / 18446744073709551616 = N at e1 hkh
    generalize hL : 2 ^ t * o * z % 18446744073709551616 = L at e1
    generalize (uN (dbH a b c d) : Int) = V at hkh
    -- L is a multiple of 2^t
    have e3 : L = 2 ^ t * (o * z - N * 2 ^ (64 - t)) := by
      have : 2 ^ t * (o * z - N * 2 ^ (64 - t)) = 2 ^ t * o * z - N * (2 ^ t * 2 ^ (64 - t)) := by grind
      rw [this, hQ]; omega
    have e4 : L / 2 ^ t = o * z - N * 2 ^ (64 - t) := by
      rw [e3, Int.mul_ediv_cancel_left _ (by omega)]
    rw [e4]
    have e5 := Int.emod_add_mul_ediv V (2 ^ t)
    refine ⟨kh * 2 ^ (64 - t) - V / 2 ^ t, ?_⟩
    rw [← hQ]
    have e6 : V % 2 ^ t = V - 2 ^ t * (V / 2 ^ t) := by omega
    rw [e6]
    rw [show V = N + 18446744073709551616 * kh from hkh] at *
    generalize (N + 18446744073709551616 * kh) / 2 ^ t = D
    rw [← hQ]
    grind
  unfold dbF
  refine (cg_mulL _ _).tr ?_
  refine (s4.mul (cg.rf _)).tr ?_
  have := hiv.mul (cg.rf z)
  rw [show o * iv.toInt * z = o * z * iv.toInt by grind, Int.one_mul] at this
  exact this
end
section
/-! ===== PURE: determinants of whole numbers are whole; bounds with the last coordinate apart ===== -/
theorem rq_7 {x : Rat} (h : x * x ≤ 0) : x = 0 := by
  have h2 : x * x = 0 := Rat.le_antisymm h (rq_3 x)
  rcases Rat.mul_eq_zero.mp h2 with q | q <;> exact q
theorem ex_zero : ∀ (n : Nat) (x : Ex n), exP n x x ≤ 0 → x = exZ n
  | 0, x, h => rq_7 h
  | n + 1, x, h => by
    have h1 := exP_pos n x.1
    have h2 := exP_pos n x.2
    have h3 : exP n x.1 x.1 + exP n x.2 x.2 ≤ 0 := h
    have e1 := ex_zero n x.1 (by grind)
    have e2 := ex_zero n x.2 (by grind)
    show (x.1, x.2) = (exZ n, exZ n)
    rw [e1, e2]
theorem ex_cs {n : Nat} {x y : Ex n} {a b : Rat} (ha : 0 < a) (hb : 0 < b) (hx : exP n x x ≤ a * a) (hy : exP n y y ≤ b * b) : exP n x y ≤ a * b := by
  have h1 := exP_pos n (exA n (exS n b x) (exS n (-a) y))
  rw [exP_A, exP_Al, exP_Al, exP_S, exP_S, exP_S, exP_S, exP_Sl, exP_Sl, exP_Sl, exP_Sl, exP_comm n y x] at h1
  have h2 := Rat.mul_le_mul_of_nonneg_left hx (show 0 ≤ b * b by exact rq_3 b)
  have h3 := Rat.mul_le_mul_of_nonneg_left hy (show 0 ≤ a * a by exact rq_3 a)
  have hab := Rat.mul_pos ha hb
  apply Rat.le_of_mul_le_mul_left (c := a * b) _ hab
  grind
theorem ex_tri {n : Nat} {x y : Ex n} {a b : Rat} (ha : 0 ≤ a) (hb : 0 ≤ b) (hx : exP n x x ≤ a * a) (hy : exP n y y ≤ b * b) : exP n (exA n x y) (exA n x y) ≤ (a + b) * (a + b) := by
  by_cases qa : a = 0
  · subst qa
    have e := ex_zero n x (by grind)
    subst e
    rw [exZ_A]; grind
  · by_cases qb : b = 0
    · subst qb
      have e := ex_zero n y (by grind)
      subst e
      rw [exA_Z]; grind
    · have h1 := ex_cs (show 0 < a by grind) (show 0 < b by grind) hx hy
      rw [exP_A, exP_Al, exP_Al, exP_comm n y x]
      grind
theorem ex_sc {n : Nat} {x : Ex n} {k K a : Rat} (hK : k * k ≤ K * K) (hx : exP n x x ≤ a * a) : exP n (exS n k x) (exS n k x) ≤ (K * a) * (K * a) := by
  rw [exP_S, exP_Sl]
  have h1 := Rat.mul_le_mul_of_nonneg_left hx (show 0 ≤ k * k by exact rq_3 k)
  have h2 := Rat.mul_le_mul_of_nonneg_right hK (show 0 ≤ a * a by exact rq_3 a)
  grind
/-- the product of the bounds, and the sum of the products that leave one out -/
def pB (b : Nat → Rat) : Nat → Rat
  | 0 => 1
  | k + 1 => pB b k * b k
def sB (b : Nat → Rat) : Nat → Rat
  | 0 => 0
  | k + 1 => pB b k + sB b k * b k
theorem pB_pos {b : Nat → Rat} (h : ∀ k, 0 ≤ b k) : ∀ k, 0 ≤ pB b k
  | 0 => by simp only [pB]; grind
  | k + 1 => Rat.mul_nonneg (pB_pos h k) (h k)
theorem sB_pos {b : Nat → Rat} (h : ∀ k, 0 ≤ b k) : ∀ k, 0 ≤ sB b k
  | 0 => by simp only [sB]; grind
  | k + 1 => by
    have h1 := Rat.mul_nonneg (sB_pos h k) (h k)
    have h2 := pB_pos h k
    simp only [sB]; grind
theorem exD_fst (n : Nat) (col : Nat → Nat → Rat) : ∀ k, (exD (n + 1) k col).1 = exD n k col
  | 0 => rfl
  | k + 1 => by
    show exW n (col k) (exD (n + 1) k col).1 = exW n (col k) (exD n k col)
    rw [exD_fst n col k]
theorem exD_b {n : Nat} {col : Nat → Nat → Rat} {b : Nat → Rat} (hb : ∀ k, 0 ≤ b k) : ∀ k, (∀ i, i < k → exN n (col i) ≤ b i * b i) → exP n (exD n k col) (exD n k col) ≤ pB b k * pB b k
  | 0, _ => by simp only [exD, pB]; rw [exO_1]; grind
  | k + 1, h => by
    have h1 := exD_b hb k (fun i hi => h i (by omega))
    have h2 := exW_le n (col k) (exD n k col)
    have h3 := h k (by omega)
    have h4 := Rat.mul_le_mul_of_nonneg_right h3 (exP_pos n (exD n k col))
    have h5 := Rat.mul_le_mul_of_nonneg_left h1 (show 0 ≤ b k * b k from rq_3 _)
    simp only [exD, pB]
    grind
theorem exD_s {n : Nat} {col : Nat → Nat → Rat} {b : Nat → Rat} {K : Rat} (hb : ∀ k, 0 ≤ b k) (hK : 0 ≤ K) : ∀ k, (∀ i, i < k → exN n (col i) ≤ b i * b i) → (∀ i, i < k → col i n * col i n ≤ K * K) → exP n (exD (n + 1) k col).2 (exD (n + 1) k col).2 ≤ (K * sB b k) * (K * sB b k)
  | 0, _, _ => by
    show exP n (exZ n) (exZ n) ≤ _
    rw [← exS_0 n (exZ n), exP_S, Rat.zero_mul]
    exact rq_3 _
  | k + 1, h, h9 => by
    have h1 := exD_s hb hK k (fun i hi => h i (by omega)) (fun i hi => h9 i (by omega))
    have h2 := exD_b hb k (fun i hi => h i (by omega))
    have h3 := exW_le n (col k) (exD (n + 1) k col).2
    have h4 := h k (by omega)
    have h5 := Rat.mul_le_mul_of_nonneg_right h4 (exP_pos n (exD (n + 1) k col).2)
    have h6 := Rat.mul_le_mul_of_nonneg_left h1 (show 0 ≤ b k * b k from rq_3 _)
    show exP n (exA n (exS n (col k n) (exD (n + 1) k col).1) (exS n (-1) (exW n (col k) (exD (n + 1) k col).2))) (exA n (exS n (col k n) (exD (n + 1) k col).1) (exS n (-1) (exW n (col k) (exD (n + 1) k col).2))) ≤ _
    rw [exD_fst]
    have h7 := ex_sc (h9 k (by omega)) h2
    have h8 : exP n (exS n (-1) (exW n (col k) (exD (n + 1) k col).2)) (exS n (-1) (exW n (col k) (exD (n + 1) k col).2)) ≤ (K * (sB b k * b k)) * (K * (sB b k * b k)) := by
      rw [exP_S, exP_Sl]
      grind
    have h10 := ex_tri (Rat.mul_nonneg hK (pB_pos hb k)) (Rat.mul_nonneg hK (Rat.mul_nonneg (sB_pos hb k) (hb k))) h7 h8
    have e : K * pB b k + K * (sB b k * b k) = K * sB b (k + 1) := by simp only [sB]; grind
    rw [e] at h10
    exact h10
/-- with the last coordinate's unit column last, it is the determinant of the rest -/
theorem dt_last {n : Nat} {col : Nat → Nat → Rat} (h : ∀ t, t < n → col n t = 0) (h1 : col n n = 1) : dt (n + 1) col = dt n col := by
  unfold dt
  show exT n (exA n (exS n (col n n) (exD (n + 1) n col).1) (exS n (-1) (exW n (col n) (exD (n + 1) n col).2))) = _
  rw [exD_fst, h1, exS_1, exW_low n (col n) h, exS_Z, exA_Z]
theorem dt_b1 {n : Nat} {col : Nat → Nat → Rat} {b : Nat → Rat} (hb : ∀ k, 0 ≤ b k) (h : ∀ i, i < n → exN n (col i) ≤ b i * b i) : dt n col * dt n col ≤ pB b n * pB b n := by
  have h1 := exT_sq n (exD n n col)
  have h2 := exD_b hb n h
  unfold dt
  grind
theorem dt_b2 {n : Nat} {col : Nat → Nat → Rat} {b : Nat → Rat} {K : Rat} (hb : ∀ k, 0 ≤ b k) (hK : 0 ≤ K) (h : ∀ i, i < n + 1 → exN n (col i) ≤ b i * b i) (h9 : ∀ i, i < n + 1 → col i n * col i n ≤ K * K) : dt (n + 1) col * dt (n + 1) col ≤ (K * sB b (n + 1)) * (K * sB b (n + 1)) := by
  have h1 := exT_sq n (exD (n + 1) (n + 1) col).2
  have h2 := exD_s hb hK (n + 1) h h9
  show exT n (exD (n + 1) (n + 1) col).2 * exT n (exD (n + 1) (n + 1) col).2 ≤ _
  grind
/-- whole numbers -/
def isZ (q : Rat) : Prop := ∃ z : Int, q = (z : Rat)
theorem isZ_add {a b : Rat} (h : isZ a) (h2 : isZ b) : isZ (a + b) := by
  obtain ⟨x, rfl⟩ := h; obtain ⟨y, rfl⟩ := h2
  exact ⟨x + y, by rw [Rat.intCast_add]⟩
theorem isZ_mul {a b : Rat} (h : isZ a) (h2 : isZ b) : isZ (a * b) := by
  obtain ⟨x, rfl⟩ := h; obtain ⟨y, rfl⟩ := h2
  exact ⟨x * y, by rw [Rat.intCast_mul]⟩
def exI : (n : Nat) → Ex n → Prop
  | 0, x => isZ x
  | n + 1, x => exI n x.1 ∧ exI n x.2
theorem exI_Z : ∀ n, exI n (exZ n)
  | 0 => ⟨0, rfl⟩
  | n + 1 => ⟨exI_Z n, exI_Z n⟩
theorem exI_O : ∀ n, exI n (exO n)
  | 0 => ⟨1, rfl⟩
  | n + 1 => ⟨exI_O n, exI_Z n⟩
theorem exI_A : ∀ (n : Nat) (x y : Ex n), exI n x → exI n y → exI n (exA n x y)
  | 0, _, _, h, h2 => isZ_add h h2
  | n + 1, x, y, h, h2 => ⟨exI_A n x.1 y.1 h.1 h2.1, exI_A n x.2 y.2 h.2 h2.2⟩
theorem exI_S : ∀ (n : Nat) (a : Rat) (x : Ex n), isZ a → exI n x → exI n (exS n a x)
  | 0, _, _, h, h2 => isZ_mul h h2
  | n + 1, a, x, h, h2 => ⟨exI_S n a x.1 h h2.1, exI_S n a x.2 h h2.2⟩
theorem exI_W : ∀ (n : Nat) (v : Nat → Rat) (x : Ex n), (∀ t, isZ (v t)) → exI n x → exI n (exW n v x)
  | 0, _, _, _, _ => ⟨0, rfl⟩
  | n + 1, v, x, h, h2 => ⟨exI_W n v x.1 h h2.1, exI_A n _ _ (exI_S n _ _ (h n) h2.1) (exI_S n _ _ ⟨-1, by rfl⟩ (exI_W n v x.2 h h2.2))⟩
theorem exI_D (n : Nat) (col : Nat → Nat → Rat) (h : ∀ i t, isZ (col i t)) : ∀ k, exI n (exD n k col)
  | 0 => exI_O n
  | k + 1 => exI_W n _ _ (h k) (exI_D n col h k)
theorem exI_T : ∀ (n : Nat) (x : Ex n), exI n x → isZ (exT n x)
  | 0, _, h => h
  | n + 1, x, h => exI_T n x.2 h.2
theorem dt_int {n : Nat} {col : Nat → Nat → Rat} (h : ∀ i t, isZ (col i t)) : isZ (dt n col) := exI_T n _ (exI_D n col h n)
end
section
/-! ===== the table as the machine holds it: each cell is the unit times a coordinate ===== -/
def clm (C : Nat → Nat → Int) : Nat → Nat → Rat := fun j t => ((C j t : Int) : Rat)
def oI : Option Nat → Int32
  | none => -1
  | some k => nI k
/-- every determinant that a cell may be is below 2 to the 63rd -/
def Bnd (me nw : Nat) (C : Nat → Nat → Int) : Prop := ∀ h : Nat → Option Nat, (∀ i j, i < me → h i = some j → j < nw) → ∀ i j, i ≤ me → j ≤ nw →
  dt (me + 1) (fup (hB me (clm C) h) i (clm C j)) * dt (me + 1) (fup (hB me (clm C) h) i (clm C j)) < 85070591730234615865843651857942052864
def Gd (me nw : Nat) (C : Nat → Nat → Int) (M : Nat → Nat → Int64) (hd : Nat → Int32) (u : Int64) (tw : Int32) (iv : Int64) (h : Nat → Option Nat) (R : Nat → Nat → Rat) : Prop :=
  Stt me nw (clm C) h R ∧ Unt u tw iv ∧ (∃ g : Rat, g * g = 1 ∧ dt (me + 1) (hB me (clm C) h) = g * (u.toInt : Rat)) ∧ (∀ i j, i ≤ me → j ≤ nw → ((M i j).toInt : Rat) = (u.toInt : Rat) * cd (me + 1) R (clm C j) i) ∧ ∀ i, i < me → hd i = oI (h i)
theorem hB_Z {me : Nat} {C : Nat → Nat → Int} {h : Nat → Option Nat} (i t : Nat) : isZ (hB me (clm C) h i t) := by
  have hu : ∀ i t, isZ (un i t) := fun i t => by
    unfold un
    split
    · exact ⟨1, rfl⟩
    · exact ⟨0, rfl⟩
  unfold hB
  split
  · cases h i with
    | none => exact hu i t
    | some j => exact ⟨_, rfl⟩
  · exact hu i t
theorem z_small {z : Int} (h : (z : Rat) * (z : Rat) < 85070591730234615865843651857942052864) : -9223372036854775808 < z ∧ z < 9223372036854775808 := by
  have h1 : z * z < 85070591730234615865843651857942052864 := by
    have e : ((z * z : Int) : Rat) < ((85070591730234615865843651857942052864 : Int) : Rat) := by
      rw [Rat.intCast_mul]; exact h
    exact Rat.intCast_lt_intCast.mp e
  refine ⟨?_, ?_⟩
  · apply Classical.byContradiction
    intro q
    have := Int.mul_le_mul (show 9223372036854775808 ≤ -z by omega) (show 9223372036854775808 ≤ -z by omega) (by omega) (by omega)
    have e : -z * -z = z * z := by grind
    omega
  · apply Classical.byContradiction
    intro q
    have := Int.mul_le_mul (show 9223372036854775808 ≤ z by omega) (show 9223372036854775808 ≤ z by omega) (by omega) (by omega)
    omega
/-- a cell is a small whole number -/
theorem cell_z {me nw : Nat} {C : Nat → Nat → Int} {h : Nat → Option Nat} {R : Nat → Nat → Rat} (hB0 : Bnd me nw C) (hS : Stt me nw (clm C) h R) {u : Int} {g : Rat} (hg : g * g = 1) (hd : dt (me + 1) (hB me (clm C) h) = g * (u : Rat)) {i j : Nat} (hi : i ≤ me) (hj : j ≤ nw) :
    ∃ z : Int, (z : Rat) = (u : Rat) * cd (me + 1) R (clm C j) i ∧ -9223372036854775808 < z ∧ z < 9223372036854775808 := by
  have h1 := dt_cd hS.1 (show i < me + 1 by omega) (clm C j)
  have h2 := hB0 h hS.2 i j hi hj
  have hz : isZ (dt (me + 1) (fup (hB me (clm C) h) i (clm C j))) := dt_int (fun a t => by
    by_cases e : a = i
    · subst e; rw [fup_s]; exact ⟨_, rfl⟩
    · rw [fup_n _ _ e]; exact hB_Z a t)
  obtain ⟨y, hy⟩ := hz
  rw [hd] at h1
  rw [hy] at h1 h2
  have hgi : g = 1 ∨ g = -1 := by
    have : (g - 1) * (g + 1) = 0 := by grind
    rcases Rat.mul_eq_zero.mp this with q | q
    · exact Or.inl (by grind)
    · exact Or.inr (by grind)
  rcases hgi with e | e
  · subst e
    exact ⟨y, by grind, z_small h2⟩
  · subst e
    refine ⟨-y, ?_, ?_⟩
    · rw [Rat.intCast_neg]; grind
    · have := z_small h2
      omega
theorem neg_int {x : Int64} (h : -9223372036854775808 < x.toInt) : (-x).toInt = -x.toInt := by
  have h1 := x.toInt_lt
  exact cg_eq (by rw [Int64.toInt_neg]; exact cg_bm _) (by omega) (by omega)
theorem oI_up {h : Nat → Option Nat} {hd : Nat → Int32} {me r c : Nat} (hh : ∀ i, i < me → hd i = oI (h i)) : ∀ i, i < me → upd hd r (nI c) i = oI (fup h r (some c) i) := fun i hi => by
  by_cases e : i = r
  · subst e; simp [upd, fup, oI]
  · simp [upd, fup, e]; exact hh i hi
/-- an exchange keeps the table good -/
theorem Gd_x {me nw : Nat} {C : Nat → Nat → Int} {M : Nat → Nat → Int64} {hd : Nat → Int32} {u : Int64} {tw : Int32} {iv : Int64} {h : Nat → Option Nat} {R : Nat → Nat → Rat} (hB0 : Bnd me nw C) (G : Gd me nw C M hd u tw iv h R) {r c : Nat} (hr : r < me) (hc : c < nw) (hne : M r c ≠ 0) :
    Gd me nw C (xcM tw iv M r c me nw) (upd hd r (nI c)) (xcS M r c nw r c) (bcF ((xcS M r c nw r c &&& -(xcS M r c nw r c)) - 1)) (nwF (sr (xcS M r c nw r c) (bcF ((xcS M r c nw r c &&& -(xcS M r c nw r c)) - 1))) 5) (fup h r (some c)) (pv (me + 1) R r (clm C c)) := by
  obtain ⟨G1, G2, ⟨g, hg, hdt⟩, G4, G5⟩ := G
  have hu0 : 0 < u.toInt := G2.1
  have hu0q : (0 : Rat) < (u.toInt : Rat) := by
    have := Rat.intCast_lt_intCast.mpr hu0
    exact this
  have hz0 : (M r c).toInt ≠ 0 := fun q => hne (Int64.toInt_inj.mp (by rw [q]; rfl))
  have hMrc := G4 r c (by omega) (by omega)
  have hp : cd (me + 1) R (clm C c) r ≠ 0 := fun q => by
    rw [q, Rat.mul_zero] at hMrc
    exact hz0 (Rat.intCast_inj.mp hMrc)
  have S' := Stt_pv G1 hr hc hp
  -- the old cells are small
  have small : ∀ i j, i ≤ me → j ≤ nw → -9223372036854775808 < (M i j).toInt ∧ (M i j).toInt < 9223372036854775808 := fun i j hi hj => by
    obtain ⟨z, z1, z2⟩ := cell_z hB0 G1 hg hdt hi hj
    rw [← G4 i j hi hj] at z1
    rw [← Rat.intCast_inj.mp z1]
    exact z2
  -- the sign
  obtain ⟨sg, hsg, hsg2, hx⟩ : ∃ sg : Int, sg * sg = 1 ∧ 0 < sg * (M r c).toInt ∧ ∀ j, j ≤ nw → (xcS M r c nw r j).toInt = sg * (M r j).toInt := by
    by_cases q : M r c < 0
    · refine ⟨-1, by omega, ?_, fun j hj => ?_⟩
      · have := Int64.lt_iff_toInt_lt.mp q
        rw [show (0 : Int64).toInt = 0 from rfl] at this
        omega
      · unfold xcS
        rw [if_pos q]
        unfold ngF
        rw [fup_s, if_pos (by omega), neg_int (small r j (by omega) hj).1]
        omega
    · refine ⟨1, by omega, ?_, fun j hj => ?_⟩
      · have : ¬ (M r c).toInt < (0 : Int64).toInt := fun q2 => q (Int64.lt_iff_toInt_lt.mpr q2)
        rw [show (0 : Int64).toInt = 0 from rfl] at this
        omega
      · unfold xcS
        rw [if_neg q]
        omega
  have hx2 : ∀ i j, i ≠ r → xcS M r c nw i j = M i j := fun i j hi => by
    unfold xcS
    split
    · unfold ngF; rw [fup_n _ _ hi]
    · rfl
  have hsq : (sg : Rat) * (sg : Rat) = 1 := by rw [← Rat.intCast_mul, hsg]; rfl
  have hU' : (xcS M r c nw r c).toInt = sg * (M r c).toInt := hx c (by omega)
  have hU'q : ((xcS M r c nw r c).toInt : Rat) = (sg : Rat) * ((u.toInt : Rat) * cd (me + 1) R (clm C c) r) := by
    rw [hU', Rat.intCast_mul, hMrc]
  have hdt' : dt (me + 1) (hB me (clm C) (fup h r (some c))) = (g * (sg : Rat)) * ((xcS M r c nw r c).toInt : Rat) := by
    rw [hB_up hr, dt_cd G1.1 (by omega), hdt, hU'q]
    generalize cd (me + 1) R (clm C c) r = x
    generalize (u.toInt : Rat) = y
    generalize (sg : Rat) = s at hsq ⊢
    grind
  have hg' : (g * (sg : Rat)) * (g * (sg : Rat)) = 1 := by
    generalize (sg : Rat) = s at hsq ⊢
    grind
  refine ⟨S', Unt_take (by rw [hU']; exact hsg2), ⟨g * (sg : Rat), hg', hdt'⟩, fun i j hi hj => ?_, oI_up G5⟩
  obtain ⟨z, z1, z2, z3⟩ := cell_z hB0 S' hg' hdt' hi hj
  rw [← z1]
  refine congrArg (fun x : Int => (x : Rat)) ?_
  unfold xcM
  by_cases e : i = r
  · subst e
    rw [xcP_r, hx j hj]
    -- z is the same
    rw [pv_r, hU'q] at z1
    have h2 := G4 i j hi hj
    apply Rat.intCast_inj.mp
    rw [z1, Rat.intCast_mul, h2]
    grind
  · rw [show xcP tw iv (xcS M r c nw) r c nw (me + 1) 0 i j = dbF tw iv (xcS M r c nw r c) (xcS M r c nw i j) (xcS M r c nw i c) (xcS M r c nw r j) from by
      unfold xcP; rw [if_pos ⟨e, hj, Or.inl (by omega)⟩]]
    refine dbF_int G2 ?_ (by omega) z3
    rw [hx2 i j e, hx2 i c e, hx c (by omega), hx j hj]
    apply Rat.intCast_inj.mp
    rw [pv_o _ _ e, hU'q] at z1
    have g1 := G4 i j hi hj
    have g2 := G4 i c hi (by omega)
    have g3 := G4 r j (by omega) hj
    rw [Rat.intCast_sub, Rat.intCast_mul, Rat.intCast_mul, Rat.intCast_mul, Rat.intCast_mul, Rat.intCast_mul, z1, g1, g2, g3, hMrc]
    grind
end
section
/-! ===== PURE: the steps by Bland's rule don't come back: fewer than 2 to the number of columns ===== -/
/-- the rows that hold none have nothing of the columns -/
def Zr (me nw : Nat) (col : Nat → Nat → Rat) (h : Nat → Option Nat) (R : Nat → Nat → Rat) (k : Nat) : Prop := ∀ i, i < k → h i = none → ∀ j, j < nw → cd (me + 1) R (col j) i = 0
/-- one step of the first kind -/
def StP (me nw : Nat) (col : Nat → Nat → Rat) (h : Nat → Option Nat) (R : Nat → Nat → Rat) (c o r : Nat) : Prop :=
  Stt me nw col h R ∧ Zr me nw col h R me ∧ c < nw ∧ r < me ∧ h r = some o ∧ cd (me + 1) R (col c) me < 0 ∧ (∀ j, j < c → 0 ≤ cd (me + 1) R (col j) me) ∧ 0 < cd (me + 1) R (col c) r ∧ ∀ i j, i < me → h i = some j → 0 < cd (me + 1) R (col c) i → o ≤ j
def HiP (me nw : Nat) (col : Nat → Nat → Rat) (s : Nat) (h : Nat → Option Nat) : Prop :=
  ∃ (hs : Nat → Nat → Option Nat) (Rs : Nat → Nat → Nat → Rat) (inn out rw : Nat → Nat), hs s = h ∧ ∀ k, k < s → StP me nw col (hs k) (Rs k) (inn k) (out k) (rw k) ∧ hs (k + 1) = fup (hs k) (rw k) (some (inn k))
theorem HiP_0 {me nw : Nat} {col : Nat → Nat → Rat} {h : Nat → Option Nat} : HiP me nw col 0 h := ⟨fun _ => h, fun _ _ _ => 0, fun _ => 0, fun _ => 0, fun _ => 0, rfl, fun k hk => by omega⟩
theorem HiP_s {me nw : Nat} {col : Nat → Nat → Rat} {s : Nat} {h : Nat → Option Nat} {R : Nat → Nat → Rat} {c o r : Nat} (H : HiP me nw col s h) (S : StP me nw col h R c o r) : HiP me nw col (s + 1) (fup h r (some c)) := by
  obtain ⟨hs, Rs, inn, out, rw, e, hk⟩ := H
  refine ⟨fun k => if k = s + 1 then fup h r (some c) else hs k, fun k => if k = s then R else Rs k, fun k => if k = s then c else inn k, fun k => if k = s then o else out k, fun k => if k = s then r else rw k, by simp, fun k hk2 => ?_⟩
  by_cases q : k = s
  · subst q
    simp only [if_true, if_neg (show k ≠ k + 1 by omega)]
    rw [e]
    exact ⟨S, rfl⟩
  · have := hk k (by omega)
    simp only [if_neg q, if_neg (show k ≠ s + 1 by omega), if_neg (show k + 1 ≠ s + 1 by omega)]
    exact this
/-- who holds x -/
def Hx (me : Nat) (h : Nat → Option Nat) (x : Nat) : Prop := ∃ i, i < me ∧ h i = some x
theorem Hx_one {me n : Nat} {col : Nat → Nat → Rat} {h : Nat → Option Nat} {R : Nat → Nat → Rat} (H : Stt me n col h R) {i k x : Nat} (hi : i < me) (hk : k < me) (e : h i = some x) (e2 : h k = some x) : i = k := by
  have a1 := Stt_held H hi e (k := k) (by omega)
  have a2 := Stt_held H hk e2 (k := k) (by omega)
  rw [a2] at a1
  by_cases q : k = i
  · exact q.symm
  · simp [q] at a1
theorem Hx_up {me n : Nat} {col : Nat → Nat → Rat} {h : Nat → Option Nat} {R : Nat → Nat → Rat} (H : Stt me n col h R) {r c o : Nat} (hr : r < me) (e : h r = some o) (x : Nat) : Hx me (fup h r (some c)) x ↔ (x = c ∨ (x ≠ o ∧ Hx me h x)) := by
  constructor
  · rintro ⟨i, hi, q⟩
    by_cases q2 : i = r
    · subst q2; rw [fup_s] at q; exact Or.inl (Option.some.inj q).symm
    · rw [fup_n _ _ q2] at q
      refine Or.inr ⟨fun q3 => ?_, i, hi, q⟩
      subst q3
      exact q2 (Hx_one H hi hr q e)
  · rintro (q | ⟨q, i, hi, q2⟩)
    · subst q; exact ⟨r, hr, fup_s _ _ _⟩
    · refine ⟨i, hi, ?_⟩
      have : i ≠ r := fun q3 => by subst q3; rw [e] at q2; exact q (Option.some.inj q2).symm
      rw [fup_n _ _ this]; exact q2
/-- from the steps to the sets: what comes back -/
theorem hist_cycle {me nw : Nat} {col : Nat → Nat → Rat} {s : Nat} (hs : Nat → Nat → Option Nat) (Rs : Nat → Nat → Nat → Rat) (inn out rw : Nat → Nat) (hK : 2 ^ nw ≤ s)
    (h1 : ∀ k, k < s → Stt me nw col (hs k) (Rs k) ∧ inn k < nw ∧ rw k < me ∧ hs k (rw k) = some (out k) ∧ ¬ Hx me (hs k) (inn k) ∧ hs (k + 1) = fup (hs k) (rw k) (some (inn k))) :
    ∃ i j f s1 s2, i < j ∧ j ≤ s ∧ (∀ x, x < nw → (Hx me (hs i) x ↔ Hx me (hs j) x)) ∧ i ≤ s1 ∧ s1 < j ∧ i ≤ s2 ∧ s2 < j ∧ inn s1 = f ∧ out s2 = f ∧ (∀ k, i ≤ k → k < j → inn k ≤ f ∧ out k ≤ f) ∧ ∀ k k', i ≤ k → k ≤ j → i ≤ k' → k' ≤ j → ∀ x, f < x → (Hx me (hs k) x ↔ Hx me (hs k') x) := by
  let dec : ∀ k x, Decidable (Hx me (hs k) x) := fun k x => Classical.propDecidable _
  let X : Nat → Nat → Bool := fun k x => @decide _ (dec k x)
  have hX : ∀ k x, X k x = true ↔ Hx me (hs k) x := fun k x => @decide_eq_true_iff _ (dec k x)
  have hX2 : ∀ k x, X k x = false ↔ ¬ Hx me (hs k) x := fun k x => @decide_eq_false_iff_not _ (dec k x)
  obtain ⟨i, j, f, s1, s2, a1, a2, a3, a4, a5, a6, a7, a8, a9, a10⟩ := cycle (n := nw) X inn out s hK (fun k hk => (h1 k hk).2.1) (fun k hk => (h1 k hk).1.2 (rw k) _ (h1 k hk).2.2.1 (h1 k hk).2.2.2.1) (fun k hk => ⟨(hX2 _ _).mpr (h1 k hk).2.2.2.2.1, (hX _ _).mpr ⟨rw k, (h1 k hk).2.2.1, (h1 k hk).2.2.2.1⟩⟩) (fun k hk x => by
    obtain ⟨b1, b2, b3, b4, b5, b6⟩ := h1 k hk
    have := Hx_up b1 b3 b4 (c := inn k) x
    rw [← b6] at this
    by_cases q1 : x = inn k
    · rw [if_pos q1]; exact (hX _ _).mpr (this.mpr (Or.inl q1))
    · rw [if_neg q1]
      by_cases q2 : x = out k
      · rw [if_pos q2]
        refine (hX2 _ _).mpr fun q3 => ?_
        rcases this.mp q3 with q4 | q4
        · exact q1 q4
        · exact q4.1 q2
      · rw [if_neg q2]
        cases q3 : X k x
        · refine (hX2 _ _).mpr fun q4 => ?_
          rcases this.mp q4 with q5 | q5
          · exact q1 q5
          · exact (hX2 _ _).mp q3 q5.2
        · exact (hX _ _).mpr (this.mpr (Or.inr ⟨q2, (hX _ _).mp q3⟩)))
  refine ⟨i, j, f, s1, s2, a1, a2, fun x hx => ?_, a4, a5, a6, a7, a8, a9, a10, ?_⟩
  · rw [← hX, ← hX, a3 x hx]
  · have step : ∀ d k, i ≤ k → k + d ≤ j → ∀ x, f < x → (Hx me (hs k) x ↔ Hx me (hs (k + d)) x) := by
      intro d
      induction d with
      | zero => intro k _ _ x _; exact Iff.rfl
      | succ d ih =>
        intro k hk hd x hx
        rw [ih k hk (by omega) x hx]
        obtain ⟨b1, b2, b3, b4, b5, b6⟩ := h1 (k + d) (by omega)
        have q := a10 (k + d) (by omega) (by omega)
        rw [← Nat.add_assoc, b6, Hx_up b1 b3 b4]
        constructor
        · intro q2; exact Or.inr ⟨by omega, q2⟩
        · rintro (q2 | q2)
          · omega
          · exact q2.2
    intro k k' hk1 hk2 hk3 hk4 x hx
    rcases Nat.le_total k k' with q | q
    · have := step (k' - k) k hk1 (by omega) x hx
      rw [show k + (k' - k) = k' by omega] at this
      exact this
    · have := step (k - k') k' hk3 (by omega) x hx
      rw [show k' + (k - k') = k by omega] at this
      exact this.symm
theorem HiP_lt {me nw : Nat} {col : Nat → Nat → Rat} {s : Nat} {h : Nat → Option Nat} (H : HiP me nw col s h) : s < 2 ^ nw := by
  apply Classical.byContradiction
  intro q
  obtain ⟨hs, Rs, inn, out, rw, e, hk⟩ := H
  have hnh : ∀ k, k < s → ¬ Hx me (hs k) (inn k) := fun k hk1 ⟨i, hi, q2⟩ => by
    obtain ⟨S, -⟩ := hk k hk1
    have := Stt_held S.1 hi q2 (k := me) (by omega)
    rw [if_neg (by omega)] at this
    have := S.2.2.2.2.2.1
    grind
  obtain ⟨i, j, f, s1, s2, a1, a2, a3, a4, a5, a6, a7, a8, a9, a10, a11⟩ := hist_cycle (me := me) (nw := nw) (s := s) (col := col) hs Rs inn out rw (by omega) (fun k hk1 => by
    obtain ⟨S, q2⟩ := hk k hk1
    exact ⟨S.1, S.2.2.1, S.2.2.2.1, S.2.2.2.2.1, hnh k hk1, q2⟩)
  obtain ⟨S1, -⟩ := hk s1 (by omega)
  obtain ⟨S2, -⟩ := hk s2 (by omega)
  obtain ⟨p1, p2, p3, p4, p5, p6, p7, p8, p9⟩ := S1
  obtain ⟨r1, r2, r3, r4, r5, r6, r7, r8, r9⟩ := S2
  rw [a8] at p6 p7
  rw [a9] at r5 r9
  refine bland_p p1 r1 (fun i hi e2 j hj => r2 i hi e2 j hj) p6 p7 r3 r6 r4 r5 r8 r9 ?_ (fun i9 j9 hi9 e9 hf9 => ?_)
  · have h1 := (a10 s2 a6 a7).1
    have h2 : inn s2 ≠ f := fun q3 => hnh s2 (by omega) ⟨rw s2, r4, by rw [q3]; exact r5⟩
    omega
  · have := (a11 s2 s1 a6 (by omega) a4 (by omega) j9 hf9).mp ⟨i9, hi9, e9⟩
    exact this
/-- one step of the second kind -/
def StD (me nw : Nat) (col : Nat → Nat → Rat) (b : Nat → Rat) (h : Nat → Option Nat) (R : Nat → Nat → Rat) (c o r : Nat) : Prop :=
  Stt me nw col h R ∧ (∀ i, i < me → h i = none → cd (me + 1) R b i = 0) ∧ c < nw ∧ r < me ∧ h r = some o ∧ (∀ j, j < nw → 0 ≤ cd (me + 1) R (col j) me) ∧ cd (me + 1) R b r < 0 ∧ (∀ i j, i < me → h i = some j → cd (me + 1) R b i < 0 → o ≤ j) ∧ cd (me + 1) R (col c) r < 0 ∧
  ∀ j, j < c → cd (me + 1) R (col j) r < 0 → cd (me + 1) R (col c) me * (-cd (me + 1) R (col j) r) < cd (me + 1) R (col j) me * (-cd (me + 1) R (col c) r)
def HiD (me nw : Nat) (col : Nat → Nat → Rat) (b : Nat → Rat) (s : Nat) (h : Nat → Option Nat) (R : Nat → Nat → Rat) : Prop :=
  ∃ (hs : Nat → Nat → Option Nat) (Rs : Nat → Nat → Nat → Rat) (inn out rw : Nat → Nat), hs s = h ∧ Rs s = R ∧ ∀ k, k < s → StD me nw col b (hs k) (Rs k) (inn k) (out k) (rw k) ∧ hs (k + 1) = fup (hs k) (rw k) (some (inn k)) ∧ Rs (k + 1) = pv (me + 1) (Rs k) (rw k) (col (inn k))
theorem HiD_0 {me nw : Nat} {col : Nat → Nat → Rat} {b : Nat → Rat} {h : Nat → Option Nat} {R : Nat → Nat → Rat} : HiD me nw col b 0 h R := ⟨fun _ => h, fun _ => R, fun _ => 0, fun _ => 0, fun _ => 0, rfl, rfl, fun k hk => by omega⟩
theorem HiD_s {me nw : Nat} {col : Nat → Nat → Rat} {b : Nat → Rat} {s : Nat} {h : Nat → Option Nat} {R : Nat → Nat → Rat} {c o r : Nat} (H : HiD me nw col b s h R) (S : StD me nw col b h R c o r) : HiD me nw col b (s + 1) (fup h r (some c)) (pv (me + 1) R r (col c)) := by
  obtain ⟨hs, Rs, inn, out, rw, e, e1, hk⟩ := H
  refine ⟨fun k => if k = s + 1 then fup h r (some c) else hs k, fun k => if k = s + 1 then pv (me + 1) R r (col c) else Rs k, fun k => if k = s then c else inn k, fun k => if k = s then o else out k, fun k => if k = s then r else rw k, by simp, by simp, fun k hk2 => ?_⟩
  by_cases q : k = s
  · subst q
    simp only [if_true, if_neg (show k ≠ k + 1 by omega)]
    rw [e, e1]
    exact ⟨S, rfl, rfl⟩
  · have := hk k (by omega)
    simp only [if_neg q, if_neg (show k ≠ s + 1 by omega), if_neg (show k + 1 ≠ s + 1 by omega)]
    exact this
theorem HiD_lt {me nw : Nat} {col : Nat → Nat → Rat} {b : Nat → Rat} {s : Nat} {h : Nat → Option Nat} {R : Nat → Nat → Rat} (HS : Stt me nw col h R) (HZ : ∀ i, i < me → h i = none → cd (me + 1) R b i = 0) (H : HiD me nw col b s h R) : s < 2 ^ nw := by
  apply Classical.byContradiction
  intro q
  obtain ⟨hs, Rs, inn, out, rw, e, e1, hk⟩ := H
  have hStt : ∀ k, k ≤ s → Stt me nw col (hs k) (Rs k) ∧ ∀ i, i < me → hs k i = none → cd (me + 1) (Rs k) b i = 0 := fun k hk1 => by
    by_cases q2 : k = s
    · subst q2; rw [e, e1]; exact ⟨HS, HZ⟩
    · obtain ⟨S, -⟩ := hk k (by omega)
      exact ⟨S.1, S.2.1⟩
  have hnh : ∀ k, k < s → ¬ Hx me (hs k) (inn k) := fun k hk1 ⟨i, hi, q2⟩ => by
    obtain ⟨S, -⟩ := hk k hk1
    have g1 := Stt_held S.1 hi q2 (k := rw k) (by have := S.2.2.2.1; omega)
    have g2 := S.2.2.2.2.2.2.2.2.1
    rw [g1] at g2
    split at g2 <;> grind
  obtain ⟨i, j, f, s1, s2, a1, a2, a3, a4, a5, a6, a7, a8, a9, a10, a11⟩ := hist_cycle (me := me) (nw := nw) (s := s) (col := col) hs Rs inn out rw (by omega) (fun k hk1 => by
    obtain ⟨S, q2, -⟩ := hk k hk1
    exact ⟨S.1, S.2.2.1, S.2.2.2.1, S.2.2.2.2.1, hnh k hk1, q2⟩)
  -- the corner doesn't grow; it comes back; so each step between costs nothing
  have hcor : ∀ k, k < s → cd (me + 1) (Rs (k + 1)) b me ≤ cd (me + 1) (Rs k) b me ∧ (cd (me + 1) (Rs k) b me ≤ cd (me + 1) (Rs (k + 1)) b me → cd (me + 1) (Rs k) (col (inn k)) me = 0) := fun k hk1 => by
    obtain ⟨⟨S1, S2, S3, S4, S5, S6, S7, S8, S9, S10⟩, -, q3⟩ := hk k hk1
    rw [q3, pv_o _ _ (by omega)]
    have g1 := S6 (inn k) S3
    generalize cd (me + 1) (Rs k) (col (inn k)) me = x at g1
    generalize cd (me + 1) (Rs k) (col (inn k)) (rw k) = y at S9
    generalize cd (me + 1) (Rs k) b (rw k) = z at S7
    generalize cd (me + 1) (Rs k) b me = w
    have hy : 0 < (-y)⁻¹ := Rat.inv_pos.mpr (by grind)
    have hyy : -y * (-y)⁻¹ = 1 := Rat.mul_inv_cancel _ (by grind)
    have e9 : x / y = -(x * (-y)⁻¹) := by
      have : x / y * y = x := Rat.div_mul_cancel (by grind)
      generalize x / y = t at this
      generalize (-y)⁻¹ = v at hyy
      subst this
      grind
    rw [e9]
    have p1 := Rat.mul_nonneg (Rat.mul_nonneg g1 (Rat.le_of_lt hy)) (show 0 ≤ -z by grind)
    refine ⟨by grind, fun q4 => ?_⟩
    have p2 : x * (-y)⁻¹ * (-z) = 0 := by grind
    rcases Rat.mul_eq_zero.mp p2 with p3 | p3
    · rcases Rat.mul_eq_zero.mp p3 with p4 | p4
      · exact p4
      · grind
    · grind
  have hmono : ∀ d k, k + d ≤ s → cd (me + 1) (Rs (k + d)) b me ≤ cd (me + 1) (Rs k) b me := by
    intro d
    induction d with
    | zero => intro k _; show _ ≤ _; exact Rat.le_refl
    | succ d ih =>
      intro k hd
      have g1 := ih k (by omega)
      have g2 := (hcor (k + d) (by omega)).1
      rw [← Nat.add_assoc]
      grind
  have hsame : cd (me + 1) (Rs i) b me = cd (me + 1) (Rs j) b me := by
    refine Stt_corner (hStt i (by omega)).1 (hStt j a2).1 b (hStt j a2).2 (fun i9 j9 hi9 e9 => ?_)
    exact (a3 j9 ((hStt j a2).1.2 i9 j9 hi9 e9)).mpr ⟨i9, hi9, e9⟩
  have hzero : ∀ k, i ≤ k → k < j → cd (me + 1) (Rs k) (col (inn k)) me = 0 := fun k hk1 hk2 => by
    apply (hcor k (by omega)).2
    have g1 := hmono (k - i) i (by omega)
    have g2 := hmono (j - (k + 1)) (k + 1) (by omega)
    rw [show i + (k - i) = k by omega] at g1
    rw [show k + 1 + (j - (k + 1)) = j by omega] at g2
    grind
  have hcost : ∀ d k, i ≤ k → k + d ≤ j → ∀ v, cd (me + 1) (Rs (k + d)) v me = cd (me + 1) (Rs k) v me := by
    intro d
    induction d with
    | zero => intro k _ _ v; rfl
    | succ d ih =>
      intro k hk1 hd v
      obtain ⟨⟨S1, S2, S3, S4, S5, S6, S7, S8, S9, S10⟩, -, q3⟩ := hk (k + d) (by omega)
      rw [← Nat.add_assoc, q3, pv_o _ _ (by omega), hzero (k + d) (by omega) (by omega), ih k hk1 (by omega) v]
      grind
  have hcost2 : ∀ k k', i ≤ k → k ≤ j → i ≤ k' → k' ≤ j → ∀ v, cd (me + 1) (Rs k) v me = cd (me + 1) (Rs k') v me := fun k k' b1 b2 b3 b4 v => by
    have g1 := hcost (k - i) i (by omega) (by omega) v
    have g2 := hcost (k' - i) i (by omega) (by omega) v
    rw [show i + (k - i) = k by omega] at g1
    rw [show i + (k' - i) = k' by omega] at g2
    rw [g1, g2]
  obtain ⟨⟨p1, p2, p3, p4, p5, p6, p7, p8, p9, p10⟩, -⟩ := hk s1 (by omega)
  obtain ⟨⟨r1, r2, r3, r4, r5, r6, r7, r8, r9, r10⟩, -⟩ := hk s2 (by omega)
  have z1 := hzero s1 a4 a5
  rw [a8] at p9 p10 z1
  rw [a9] at r5 r8
  refine bland_d p1 r1 b r2 p4 p7 p9 (fun i9 j9 hi9 e9 hf9 => ?_) r4 r5 r7 r8 (fun i9 j9 hi9 e9 hf9 => ?_)
  · apply Classical.byContradiction
    intro q2
    have g1 := p10 j9 hf9 (by grind)
    have g2 : cd (me + 1) (Rs s1) (col j9) me = 0 := by
      rw [hcost2 s1 s2 a4 (by omega) a6 (by omega), Stt_held r1 hi9 e9 (by omega), if_neg (by omega)]
    rw [g2, z1] at g1
    grind
  · obtain ⟨k, hk1, hk2⟩ := (a11 s2 s1 a6 (by omega) a4 (by omega) j9 hf9).mp ⟨i9, hi9, e9⟩
    refine ⟨k, hk1, fun q3 => ?_, hk2⟩
    subst q3
    rw [p5] at hk2
    have := (a10 s1 a4 a5).2
    have := Option.some.inj hk2
    omega
end
section
/-! ===== Weighing: holdColumns, fallsForEver, reachesRightSides: what their answers mean ===== -/
abbrev wgS : Type := (Nat → Nat → Int64) × (Nat → Int32) × Int64 × Int32 × Int64 × (Nat → Option Nat) × (Nat → Nat → Rat)
abbrev GdS (me nw : Nat) (C : Nat → Nat → Int) (v : wgS) : Prop := Gd me nw C v.1 v.2.1 v.2.2.1 v.2.2.2.1 v.2.2.2.2.1 v.2.2.2.2.2.1 v.2.2.2.2.2.2
theorem Gd_zero {me nw : Nat} {C : Nat → Nat → Int} {M : Nat → Nat → Int64} {hd : Nat → Int32} {u : Int64} {tw : Int32} {iv : Int64} {h : Nat → Option Nat} {R : Nat → Nat → Rat} (G : Gd me nw C M hd u tw iv h R) {i j : Nat} (hi : i ≤ me) (hj : j ≤ nw) : M i j = 0 ↔ cd (me + 1) R (clm C j) i = 0 := by
  have h1 := G.2.2.2.1 i j hi hj
  have h2 : (0 : Rat) < (u.toInt : Rat) := Rat.intCast_lt_intCast.mpr G.2.1.1
  constructor
  · intro q
    rw [q, show (0 : Int64).toInt = 0 from rfl] at h1
    rcases Rat.mul_eq_zero.mp h1.symm with q2 | q2
    · grind
    · exact q2
  · intro q
    rw [q, Rat.mul_zero] at h1
    exact Int64.toInt_inj.mp (Rat.intCast_inj.mp h1)
theorem Gd_neg {me nw : Nat} {C : Nat → Nat → Int} {M : Nat → Nat → Int64} {hd : Nat → Int32} {u : Int64} {tw : Int32} {iv : Int64} {h : Nat → Option Nat} {R : Nat → Nat → Rat} (G : Gd me nw C M hd u tw iv h R) {i j : Nat} (hi : i ≤ me) (hj : j ≤ nw) : M i j < 0 ↔ cd (me + 1) R (clm C j) i < 0 := by
  have h1 := G.2.2.2.1 i j hi hj
  have h2 : (0 : Rat) < (u.toInt : Rat) := Rat.intCast_lt_intCast.mpr G.2.1.1
  have h3 : M i j < 0 ↔ ((M i j).toInt : Rat) < 0 := by
    rw [Int64.lt_iff_toInt_lt]
    exact (Rat.intCast_lt_intCast (a := (M i j).toInt) (b := 0)).symm
  rw [h3, h1]
  constructor
  · intro q
    apply Classical.byContradiction
    intro q2
    have := Rat.mul_nonneg (Rat.le_of_lt h2) (Rat.not_lt.mp q2)
    grind
  · intro q
    have := Rat.mul_pos h2 (show 0 < -cd (me + 1) R (clm C j) i by grind)
    grind
theorem Gd_pos {me nw : Nat} {C : Nat → Nat → Int} {M : Nat → Nat → Int64} {hd : Nat → Int32} {u : Int64} {tw : Int32} {iv : Int64} {h : Nat → Option Nat} {R : Nat → Nat → Rat} (G : Gd me nw C M hd u tw iv h R) {i j : Nat} (hi : i ≤ me) (hj : j ≤ nw) : 0 < M i j ↔ 0 < cd (me + 1) R (clm C j) i := by
  have h1 := G.2.2.2.1 i j hi hj
  have h2 : (0 : Rat) < (u.toInt : Rat) := Rat.intCast_lt_intCast.mpr G.2.1.1
  have h3 : 0 < M i j ↔ 0 < ((M i j).toInt : Rat) := by
    rw [Int64.lt_iff_toInt_lt]
    exact (Rat.intCast_lt_intCast (a := 0) (b := (M i j).toInt)).symm
  rw [h3, h1]
  constructor
  · intro q
    apply Classical.byContradiction
    intro q2
    have := Rat.mul_nonneg (Rat.le_of_lt h2) (show 0 ≤ -cd (me + 1) R (clm C j) i by grind)
    grind
  · intro q
    exact Rat.mul_pos h2 q
theorem oI_none {o : Option Nat} (h : ∀ j, o = some j → j < 2 ^ 31) : oI o = -1 ↔ o = none := by
  cases o with
  | none => simp [oI]
  | some k => simp [oI]; exact nI_m1 (h k rfl)
/-- a row that holds none keeps its zeros -/
theorem Zr_pv {me nw : Nat} {col : Nat → Nat → Rat} {h : Nat → Option Nat} {R : Nat → Nat → Rat} {k r c : Nat} (hZ : Zr me nw col h R k) (hc : c < nw) : ∀ i, i < k → i ≠ r → h i = none → ∀ j, j < nw → cd (me + 1) (pv (me + 1) R r (col c)) (col j) i = 0 := fun i hi hr hn j hj => by
  rw [pv_o _ _ hr, hZ i hi hn j hj, hZ i hi hn c hc]; grind
set_option maxHeartbeats 1000000 in
set_option maxRecDepth 100000 in
/-- holdColumns(): each row holds a column, or has nothing of any -/
theorem c_X0_holdColumns (l : Launch) (dC : Nat → ClassId) (dI : Nat → Nat → Nat) (h0 qc qh : Nat) (r : Nat → Nat) (cA cI cJ : ClassId) (sz : Nat) (me nw : Nat) (u : Int64) (tw : Int32) (iv : Int64) (hd : Nat → Int32) (M : Nat → Nat → Int64) (C : Nat → Nat → Int) (h : Nat → Option Nat) (R : Nat → Nat → Rat) (hm : me < 10) (hn : nw < 17) (hB0 : Bnd me nw C) (hG : Gd me nw C M hd u tw iv h R) (hno : ∀ i, i < me → h i = none) : Met l yX0_holdColumns wsX0_holdColumns ({ frames := 3, cells := 0, slots := 0, locals := 101 }) (va_Pc [.ref h0] (fun U => U.heap.size = sz ∧ va_P (dC, dI) vwCl (wgW h0 qc qh r cA cI cJ me nw u tw iv hd M) U.heap ∧ va_K (dC, dI) vwCl (wgT cA cI cJ) U ∧ va_D (fun _ => True) (wgW h0 qc qh r cA cI cJ me nw u tw iv hd M))) (va_Qv (fun v : wgS => GdS me nw C v ∧ Zr me nw (clm C) v.2.2.2.2.2.1 v.2.2.2.2.2.2 me) (fun v t => va_P (dC, dI) vwCl (wgW h0 qc qh r cA cI cJ me nw v.2.2.1 v.2.2.2.1 v.2.2.2.2.1 v.2.1 v.1) t.heap ∧ va_K (dC, dI) vwCl (wgT cA cI cJ) t ∧ va_D (va_A (wgW h0 qc qh r cA cI cJ me nw u tw iv hd M) sz) (wgW h0 qc qh r cA cI cJ me nw v.2.2.1 v.2.2.2.1 v.2.2.2.2.1 v.2.1 v.1)) (va_A (wgW h0 qc qh r cA cI cJ me nw u tw iv hd M) sz)) 0 0 (va_A (wgW h0 qc qh r cA cI cJ me nw u tw iv hd M) sz) := by
  refine Met.ofW (cc := cX0_holdColumns) (maxL := 3) (ret := none) (by decide) rfl ?_
  intro p e s m args below meth c s₁ B hml hv
  obtain ⟨rfl, hsz, hP, hK, hD0⟩ := hv
  have hx := B.exec
  have hb := B.bytes
  have hr := B.returns
  have hts := atoms_spec (ws := wsX0_holdColumns) B.pre
  have hown : s.vm.findClass RX0 = some m.cls := findClass_of_methodNamed B.named
  subst hsz
  have hD := hD0.self (sz := s.heap.size)
  clear hD0
  generalize hAe : va_A (wgW h0 qc qh r cA cI cJ me nw u tw iv hd M) s.heap.size = A at hD ⊢
  have hA : ∀ q : Nat, s.heap.size ≤ q → A q := fun q h => by rw [← hAe]; exact Or.inr h
  have hl := lv_entry ([.ref h0]) (n := 3) (Nat.le_of_ble_eq_true rfl)
  rw [lg_entry_eq]
  generalize (lg_sl ([.ref h0]) ++ List.replicate (3 - (lg_sl ([.ref h0])).length) Slot.unset).toArray = ls at hl ⊢
  have hl : lv_has ls 3 [(0, .ref h0)] := hl
  have hP : va_P (dC, dI) vwCl (wgW h0 qc qh r cA cI cJ me nw u tw iv hd M) s.heap := hP
  obtain ⟨H, hH⟩ : ∃ H, H = s.heap := ⟨_, rfl⟩
  have hS : va_S A s.heap H [] := by rw [hH]; exact va_S.rf
  rw [← hH] at hP ⊢
  refine lv_iconst (v := nI 0) hx hb dX0_holdColumns_0 (by decide) ?_
  refine lv_istore_n (lv' := [(1, .int (nI 0)), (0, .ref h0)]) hx hb dX0_holdColumns_1 rfl hl (by decide) rfl (fun ls hl => ?_)
  have loop : ∀ (d k : Nat) (M : Nat → Nat → Int64) (hd : Nat → Int32) (u : Int64) (tw : Int32) (iv : Int64) (h : Nat → Option Nat) (R : Nat → Nat → Rat) (H : Heap) (locs : List Loc) (ls : Array Slot), k + d = me → Gd me nw C M hd u tw iv h R → Zr me nw (clm C) h R k → (∀ i, k ≤ i → i < me → h i = none) → va_P (dC, dI) vwCl (wgW h0 qc qh r cA cI cJ me nw u tw iv hd M) H → va_K (dC, dI) vwCl (wgT cA cI cJ) s → va_D A (wgW h0 qc qh r cA cI cJ me nw u tw iv hd M) → va_S A s.heap H locs → lv_has ls 3 [(1, .int (nI k)), (0, .ref h0)] → W p l e (headSpec wsX0_holdColumns ({ frames := 3, cells := 0, slots := 0, locals := 101 })).room s m #[.ref h0] below meth c H locs 0 0 (MQ below (va_Qv (fun v : wgS => GdS me nw C v ∧ Zr me nw (clm C) v.2.2.2.2.2.1 v.2.2.2.2.2.2 me) (fun v t => va_P (dC, dI) vwCl (wgW h0 qc qh r cA cI cJ me nw v.2.2.1 v.2.2.2.1 v.2.2.2.2.1 v.2.1 v.1) t.heap ∧ va_K (dC, dI) vwCl (wgT cA cI cJ) t ∧ va_D A (wgW h0 qc qh r cA cI cJ me nw v.2.2.1 v.2.2.2.1 v.2.2.2.2.1 v.2.1 v.1)) A) #[.ref h0] s 0 0 A) (F0 m 2 ls []) := by
    clear hP hK hD hS hl hG hno
    intro d
    induction d with
    | zero =>
      intro k M hd u tw iv h R H locs ls hk hG hZ hno hP hK hD hS hl
      refine lv_iload_n hx hb dX0_holdColumns_2 rfl (lv_at hl 0 rfl) ?_
      refine lv_aload_n hx hb dX0_holdColumns_3 rfl (lv_at hl 1 rfl) ?_
      refine va_get (D := (dC, dI)) (ci := 0) (v := .int (nI me)) (C := RX0) (T := TX0) (N := 7) hx hb hts (fun _ h => List.mem_cons_of_mem _ (List.mem_append_right _ h)) hown hK hP 0 rfl rfl 2 (by decide) (hts (.fieldLink RX0 20 "RankFinder$Weighing" "equations" "I") (List.mem_of_getElem? (i := 1) rfl)) (fun _ h9 => h9) rfl dX0_holdColumns_4 ?_
      refine lv_icmp_ge (tgt := 33) hx hb dX0_holdColumns_7 (by decide) (fun c1 => ?_) (fun c1 => ?_)
      · obtain rfl : k = me := by omega
        exact W.vret hx hb hr (fun t ht hW => ⟨⟨(M, hd, u, tw, iv, h, R), rfl, ⟨hG, hZ⟩, by rw [ht]; exact hP, va_K.moved hW.alike hK, hD⟩, hS.F ht⟩) hS.2.2 dX0_holdColumns_33
      · exact absurd (nI_le (by omega) (by omega)) c1
    | succ d ih =>
      intro k M hd u tw iv h R H locs ls hk hG hZ hno hP hK hD hS hl
      refine lv_iload_n hx hb dX0_holdColumns_2 rfl (lv_at hl 0 rfl) ?_
      refine lv_aload_n hx hb dX0_holdColumns_3 rfl (lv_at hl 1 rfl) ?_
      refine va_get (D := (dC, dI)) (ci := 0) (v := .int (nI me)) (C := RX0) (T := TX0) (N := 7) hx hb hts (fun _ h => List.mem_cons_of_mem _ (List.mem_append_right _ h)) hown hK hP 0 rfl rfl 2 (by decide) (hts (.fieldLink RX0 20 "RankFinder$Weighing" "equations" "I") (List.mem_of_getElem? (i := 1) rfl)) (fun _ h9 => h9) rfl dX0_holdColumns_4 ?_
      refine lv_icmp_ge (tgt := 33) hx hb dX0_holdColumns_7 (by decide) (fun c1 => ?_) (fun c1 => ?_)
      · exact absurd c1 (nI_ge (by omega) (by omega))
      · refine lv_aload_n hx hb dX0_holdColumns_10 rfl (lv_at hl 1 rfl) ?_
        refine lv_iload_n hx hb dX0_holdColumns_11 rfl (lv_at hl 0 rfl) ?_
        have hFc : ∀ q, va_A (wgW h0 qc qh r cA cI cJ me nw u tw iv hd M) H.size q → A q := va_fall hD hS hA
        refine va_calli (va_runV (As := [.int (nI k)]) (rest := []) ⟨hx, hb, hml, hown, hts⟩ (c_X0_firstColumnOf l dC dI h0 qc qh r cA cI cJ H.size me nw u tw iv hd M k (by omega) hn) (cwV 1 hts gX0_holdColumns_X0_firstColumnOf rfl rfl rfl (by decide +kernel) ⟨Nat.le_of_ble_eq_true rfl, Nat.le_of_ble_eq_true rfl⟩) ⟨fun a U g mk q => by obtain ⟨q0, q1, qP, qK, qD⟩ := q; exact ⟨q0, q1, qP, va_K.moved (u := U) (U := U.calling g mk a) (Vm.Alike.refl U.vm) qK, qD⟩, va_recv hK hP (ci := 0) (q0 := 0) rfl rfl, fun U hU hW => ⟨rfl, by rw [hU], by rw [hU]; exact hP, va_K.moved hW.alike hK, hD.weaken (fun _ _ _ _ => trivial)⟩⟩ rfl rfl hl.1 rfl (lv_room (Nat.le_of_ble_eq_true rfl)) dX0_holdColumns_12 ⟨(Nat.zero_le _), (Nat.zero_le _)⟩) hS (fun q _ h => hFc q h) hFc (fun r_12 v9 t H1 locs ht hvm hw hB hz1 hk1 hS => ?_)
        obtain ⟨hP1, hK1, hD1⟩ := hB
        rw [ht] at hP1
        clear hP hD hK
        have hK := va_K.moved hvm.symm hK1
        have hP := hP1
        have hD := hD1.weaken (B := A) (fun _ q _ h => hFc q.1 h)
        clear hP1 hD1 hK1 hFc hk1 hz1 ht hvm
        generalize H1 = H at hP hS ⊢
        rcases hw with ⟨c9, hc1, rfl, hc2, hc3⟩ | ⟨rfl, hz⟩
        · refine lv_istore_n (lv' := [(2, .int (nI c9)), (1, .int (nI k)), (0, .ref h0)]) hx hb dX0_holdColumns_15 rfl hl (by decide) rfl (fun ls hl => ?_)
          refine lv_iload_n hx hb dX0_holdColumns_16 rfl (lv_at hl 0 rfl) ?_
          refine lv_iconst (v := (-1)) hx hb dX0_holdColumns_17 (by decide) ?_
          refine lv_icmp_eq (tgt := 27) hx hb dX0_holdColumns_18 (by decide) (fun c2 => ?_) (fun c2 => ?_)
          · exact absurd c2 (nI_m1 (by omega))
          · refine lv_aload_n hx hb dX0_holdColumns_21 rfl (lv_at hl 2 rfl) ?_
            refine lv_iload_n hx hb dX0_holdColumns_22 rfl (lv_at hl 1 rfl) ?_
            refine lv_iload_n hx hb dX0_holdColumns_23 rfl (lv_at hl 0 rfl) ?_
            have hFc : ∀ q, va_A (wgW h0 qc qh r cA cI cJ me nw u tw iv hd M) H.size q → A q := va_fall hD hS hA
            refine va_callv (va_runV (As := [.int (nI k), .int (nI c9)]) (rest := []) ⟨hx, hb, hml, hown, hts⟩ (c_X0_exchange l dC dI h0 qc qh r cA cI cJ H.size me nw u tw iv hd M k c9 hm hn (by omega) hc1) (cwV 2 hts gX0_holdColumns_X0_exchange rfl rfl rfl (by decide +kernel) ⟨Nat.le_of_ble_eq_true rfl, Nat.le_of_ble_eq_true rfl⟩) ⟨fun a U g mk q => by obtain ⟨q0, q1, qP, qK, qD⟩ := q; exact ⟨q0, q1, qP, va_K.moved (u := U) (U := U.calling g mk a) (Vm.Alike.refl U.vm) qK, qD⟩, va_recv hK hP (ci := 0) (q0 := 0) rfl rfl, fun U hU hW => ⟨rfl, by rw [hU], by rw [hU]; exact hP, va_K.moved hW.alike hK, hD.weaken (fun _ _ _ _ => trivial)⟩⟩ rfl rfl hl.1 rfl (lv_room (Nat.le_of_ble_eq_true rfl)) dX0_holdColumns_24 ⟨(Nat.zero_le _), (Nat.zero_le _)⟩) hS (fun q _ h => hFc q h) hFc (fun v9 t H1 locs ht hvm hw hB hz1 hk1 hS => ?_)
            obtain ⟨hP1, hK1, hD1⟩ := hB
            rw [ht] at hP1
            clear hP hD hK
            have hK := va_K.moved hvm.symm hK1
            have hP := hP1
            have hD := hD1.weaken (B := A) (fun _ q _ h => hFc q.1 h)
            clear hP1 hD1 hK1 hFc hk1 hz1 ht hvm
            generalize H1 = H at hP hS ⊢
            refine lv_iinc (v := nI (k + 1)) (lv' := [(1, .int (nI (k + 1))), (2, .int (nI c9)), (0, .ref h0)]) hx hb dX0_holdColumns_27 hl (k := 1) rfl (nI_1 _) (by decide) rfl (fun ls hl => ?_)
            refine lv_goto (tgt := 2) hx hb dX0_holdColumns_30 (by decide) ?_
            have G2 := Gd_x hB0 hG (show k < me by omega) hc1 hc2
            refine ih (k + 1) (xcM tw iv M k c9 me nw) (upd hd k (nI c9)) (xcS M k c9 nw k c9) (bcF (((xcS M k c9 nw k c9) &&& -(xcS M k c9 nw k c9)) - 1)) (nwF (sr (xcS M k c9 nw k c9) (bcF (((xcS M k c9 nw k c9) &&& -(xcS M k c9 nw k c9)) - 1))) 5) (fup h k (some c9)) (pv (me + 1) R k (clm C c9)) H _ ls (by omega) G2 (fun i hi hni j hj => ?_) (fun i hi hi2 => ?_) hP hK hD hS (lv_sub hl [0, 2] rfl)
            · by_cases e9 : i = k
              · subst e9; rw [fup_s] at hni; cases hni
              · rw [fup_n _ _ e9] at hni; exact Zr_pv hZ hc1 i (by omega) e9 hni j hj
            · rw [fup_n _ _ (show i ≠ k by omega)]; exact hno i (by omega) hi2
        · refine lv_istore_n (lv' := [(2, .int (-1)), (1, .int (nI k)), (0, .ref h0)]) hx hb dX0_holdColumns_15 rfl hl (by decide) rfl (fun ls hl => ?_)
          refine lv_iload_n hx hb dX0_holdColumns_16 rfl (lv_at hl 0 rfl) ?_
          refine lv_iconst (v := (-1)) hx hb dX0_holdColumns_17 (by decide) ?_
          refine lv_icmp_eq (tgt := 27) hx hb dX0_holdColumns_18 (by decide) (fun c2 => ?_) (fun c2 => ?_)
          · refine lv_iinc (v := nI (k + 1)) (lv' := [(1, .int (nI (k + 1))), (2, .int (-1)), (0, .ref h0)]) hx hb dX0_holdColumns_27 hl (k := 1) rfl (nI_1 _) (by decide) rfl (fun ls hl => ?_)
            refine lv_goto (tgt := 2) hx hb dX0_holdColumns_30 (by decide) ?_
            refine ih (k + 1) M hd u tw iv h R H _ ls (by omega) hG (fun i hi hni j hj => ?_) (fun i hi hi2 => hno i (by omega) hi2) hP hK hD hS (lv_sub hl [0, 2] rfl)
            by_cases e9 : i = k
            · subst e9; exact (Gd_zero hG (by omega) (by omega)).mp (hz j hj)
            · exact hZ i (by omega) hni j hj
          · exact absurd rfl c2
  exact loop me 0 M hd u tw iv h R H [] ls (by omega) hG (fun i hi => by omega) (fun i _ hi => hno i hi) hP hK hD hS (lv_sub hl [0, 1] rfl)
set_option maxHeartbeats 1000000 in
set_option maxRecDepth 100000 in
/-- fallsForEver() -/
theorem c_X0_fallsForEver (l : Launch) (dC : Nat → ClassId) (dI : Nat → Nat → Nat) (h0 qc qh : Nat) (r : Nat → Nat) (cA cI cJ : ClassId) (sz : Nat) (me nw : Nat) (u : Int64) (tw : Int32) (iv : Int64) (hd : Nat → Int32) (M : Nat → Nat → Int64) (C : Nat → Nat → Int) (h : Nat → Option Nat) (R : Nat → Nat → Rat) (hm : me < 10) (hn : nw < 17) (hB0 : Bnd me nw C) (hG : Gd me nw C M hd u tw iv h R) (hno : ∀ i, i < me → h i = none) : Met l yX0_fallsForEver wsX0_fallsForEver ({ frames := 4, cells := 0, slots := 0, locals := 123 }) (va_Pc [.ref h0] (fun U => U.heap.size = sz ∧ va_P (dC, dI) vwCl (wgW h0 qc qh r cA cI cJ me nw u tw iv hd M) U.heap ∧ va_K (dC, dI) vwCl (wgT cA cI cJ) U ∧ va_D (fun _ => True) (wgW h0 qc qh r cA cI cJ me nw u tw iv hd M))) (va_Qi (fun (x : Int32) (v : wgS) => (x = 1 ∧ (∃ w : Nat → Rat, (∀ j, j < nw → 0 ≤ w j) ∧ (∀ t, t < me → sm nw (fun j => w j * clm C j t) = 0) ∧ sm nw (fun j => w j * clm C j me) < 0)) ∨ (x = 0 ∧ GdS me nw C v ∧ Zr me nw (clm C) v.2.2.2.2.2.1 v.2.2.2.2.2.2 me ∧ ∀ j, j < nw → 0 ≤ cd (me + 1) v.2.2.2.2.2.2 (clm C j) me)) (fun v t => va_P (dC, dI) vwCl (wgW h0 qc qh r cA cI cJ me nw v.2.2.1 v.2.2.2.1 v.2.2.2.2.1 v.2.1 v.1) t.heap ∧ va_K (dC, dI) vwCl (wgT cA cI cJ) t ∧ va_D (va_A (wgW h0 qc qh r cA cI cJ me nw u tw iv hd M) sz) (wgW h0 qc qh r cA cI cJ me nw v.2.2.1 v.2.2.2.1 v.2.2.2.2.1 v.2.1 v.1)) (va_A (wgW h0 qc qh r cA cI cJ me nw u tw iv hd M) sz)) 0 0 (va_A (wgW h0 qc qh r cA cI cJ me nw u tw iv hd M) sz) := by
  refine Met.ofW (cc := cX0_fallsForEver) (maxL := 4) (ret := (some .boolean)) (by decide) rfl ?_
  intro p e s m args below meth c s₁ B hml hv
  obtain ⟨rfl, hsz, hP, hK, hD0⟩ := hv
  have hx := B.exec
  have hb := B.bytes
  have hr := B.returns
  have hts := atoms_spec (ws := wsX0_fallsForEver) B.pre
  have hown : s.vm.findClass RX0 = some m.cls := findClass_of_methodNamed B.named
  subst hsz
  have hD := hD0.self (sz := s.heap.size)
  clear hD0
  generalize hAe : va_A (wgW h0 qc qh r cA cI cJ me nw u tw iv hd M) s.heap.size = A at hD ⊢
  have hA : ∀ q : Nat, s.heap.size ≤ q → A q := fun q h => by rw [← hAe]; exact Or.inr h
  have hl := lv_entry ([.ref h0]) (n := 4) (Nat.le_of_ble_eq_true rfl)
  rw [lg_entry_eq]
  generalize (lg_sl ([.ref h0]) ++ List.replicate (4 - (lg_sl ([.ref h0])).length) Slot.unset).toArray = ls at hl ⊢
  have hl : lv_has ls 4 [(0, .ref h0)] := hl
  have hP : va_P (dC, dI) vwCl (wgW h0 qc qh r cA cI cJ me nw u tw iv hd M) s.heap := hP
  obtain ⟨H, hH⟩ : ∃ H, H = s.heap := ⟨_, rfl⟩
  have hS : va_S A s.heap H [] := by rw [hH]; exact va_S.rf
  rw [← hH] at hP ⊢
  refine lv_aload_n hx hb dX0_fallsForEver_0 rfl (lv_at hl 0 rfl) ?_
  have hFc : ∀ q, va_A (wgW h0 qc qh r cA cI cJ me nw u tw iv hd M) H.size q → A q := va_fall hD hS hA
  refine va_callv (va_runV (As := []) (rest := []) ⟨hx, hb, hml, hown, hts⟩ (c_X0_holdColumns l dC dI h0 qc qh r cA cI cJ H.size me nw u tw iv hd M C h R hm hn hB0 hG hno) (cwV 0 hts gX0_fallsForEver_X0_holdColumns rfl rfl rfl (by decide +kernel) ⟨Nat.le_of_ble_eq_true rfl, Nat.le_of_ble_eq_true rfl⟩) ⟨fun a U g mk q => by obtain ⟨q0, q1, qP, qK, qD⟩ := q; exact ⟨q0, q1, qP, va_K.moved (u := U) (U := U.calling g mk a) (Vm.Alike.refl U.vm) qK, qD⟩, va_recv hK hP (ci := 0) (q0 := 0) rfl rfl, fun U hU hW => ⟨rfl, by rw [hU], by rw [hU]; exact hP, va_K.moved hW.alike hK, hD.weaken (fun _ _ _ _ => trivial)⟩⟩ rfl rfl hl.1 rfl (lv_room (Nat.le_of_ble_eq_true rfl)) dX0_fallsForEver_1 ⟨(Nat.zero_le _), (Nat.zero_le _)⟩) hS (fun q _ h => hFc q h) hFc (fun v9 t H1 locs ht hvm hw hB hz1 hk1 hS => ?_)
  obtain ⟨hP1, hK1, hD1⟩ := hB
  rw [ht] at hP1
  clear hP hD hK
  have hK := va_K.moved hvm.symm hK1
  have hP := hP1
  have hD := hD1.weaken (B := A) (fun _ q _ h => hFc q.1 h)
  clear hP1 hD1 hK1 hFc hk1 hz1 ht hvm
  generalize H1 = H at hP hS ⊢
  clear hG hno
  obtain ⟨M, hd, u, tw, iv, h, R⟩ := v9
  obtain ⟨hG, hZ⟩ := hw
  have hG : Gd me nw C M hd u tw iv h R := hG
  have hZ : Zr me nw (clm C) h R me := hZ
  have hP : va_P (dC, dI) vwCl (wgW h0 qc qh r cA cI cJ me nw u tw iv hd M) H := hP
  have hD : va_D A (wgW h0 qc qh r cA cI cJ me nw u tw iv hd M) := hD
  refine lv_iconst (v := nI 0) hx hb dX0_fallsForEver_4 (by decide) ?_
  refine lv_istore_n (lv' := [(1, .int (nI 0)), (0, .ref h0)]) hx hb dX0_fallsForEver_5 rfl hl (by decide) rfl (fun ls hl => ?_)
  have loop : ∀ (d k : Nat) (M : Nat → Nat → Int64) (hd : Nat → Int32) (u : Int64) (tw : Int32) (iv : Int64) (h : Nat → Option Nat) (R : Nat → Nat → Rat) (H : Heap) (locs : List Loc) (ls : Array Slot), k + d = 1000000 → Gd me nw C M hd u tw iv h R → Zr me nw (clm C) h R me → HiP me nw (clm C) k h → va_P (dC, dI) vwCl (wgW h0 qc qh r cA cI cJ me nw u tw iv hd M) H → va_K (dC, dI) vwCl (wgT cA cI cJ) s → va_D A (wgW h0 qc qh r cA cI cJ me nw u tw iv hd M) → va_S A s.heap H locs → lv_has ls 4 [(1, .int (nI k)), (0, .ref h0)] → W p l e (headSpec wsX0_fallsForEver ({ frames := 4, cells := 0, slots := 0, locals := 123 })).room s m #[.ref h0] below meth c H locs 0 0 (MQ below (va_Qi (fun (x : Int32) (v : wgS) => (x = 1 ∧ (∃ w : Nat → Rat, (∀ j, j < nw → 0 ≤ w j) ∧ (∀ t, t < me → sm nw (fun j => w j * clm C j t) = 0) ∧ sm nw (fun j => w j * clm C j me) < 0)) ∨ (x = 0 ∧ GdS me nw C v ∧ Zr me nw (clm C) v.2.2.2.2.2.1 v.2.2.2.2.2.2 me ∧ ∀ j, j < nw → 0 ≤ cd (me + 1) v.2.2.2.2.2.2 (clm C j) me)) (fun v t => va_P (dC, dI) vwCl (wgW h0 qc qh r cA cI cJ me nw v.2.2.1 v.2.2.2.1 v.2.2.2.2.1 v.2.1 v.1) t.heap ∧ va_K (dC, dI) vwCl (wgT cA cI cJ) t ∧ va_D A (wgW h0 qc qh r cA cI cJ me nw v.2.2.1 v.2.2.2.1 v.2.2.2.2.1 v.2.1 v.1)) A) #[.ref h0] s 0 0 A) (F0 m 6 ls []) := by
    clear hP hK hD hS hl hG hZ
    intro d
    induction d with
    | zero =>
      intro k M hd u tw iv h R H locs ls hk hG hZ hH hP hK hD hS hl
      have h1 := HiP_lt hH
      have h2 : 2 ^ nw ≤ 2 ^ 16 := Nat.pow_le_pow_right (by omega) (by omega)
      omega
    | succ d ih =>
      intro k M hd u tw iv h R H locs ls hk hG hZ hH hP hK hD hS hl
      refine lv_iload_n hx hb dX0_fallsForEver_6 rfl (lv_at hl 0 rfl) ?_
      refine lv_ldc (v := nI 1000000) hx hb hown (hts (.constant RX0 59 (1000000)) (List.mem_of_getElem? (i := 1) rfl)) dX0_fallsForEver_7 ?_
      refine lv_icmp_ge (tgt := 49) hx hb dX0_fallsForEver_9 (by decide) (fun c1 => ?_) (fun c1 => ?_)
      · exact absurd c1 (nI_ge (by omega) (by omega))
      · refine lv_aload_n hx hb dX0_fallsForEver_12 rfl (lv_at hl 1 rfl) ?_
        have hFc : ∀ q, va_A (wgW h0 qc qh r cA cI cJ me nw u tw iv hd M) H.size q → A q := va_fall hD hS hA
        refine va_calli (va_runV (As := []) (rest := []) ⟨hx, hb, hml, hown, hts⟩ (c_X0_columnThatSaves l dC dI h0 qc qh r cA cI cJ H.size me nw u tw iv hd M hm hn) (cwV 0 hts gX0_fallsForEver_X0_columnThatSaves rfl rfl rfl (by decide +kernel) ⟨Nat.le_of_ble_eq_true rfl, Nat.le_of_ble_eq_true rfl⟩) ⟨fun a U g mk q => by obtain ⟨q0, q1, qP, qK, qD⟩ := q; exact ⟨q0, q1, qP, va_K.moved (u := U) (U := U.calling g mk a) (Vm.Alike.refl U.vm) qK, qD⟩, va_recv hK hP (ci := 0) (q0 := 0) rfl rfl, fun U hU hW => ⟨rfl, by rw [hU], by rw [hU]; exact hP, va_K.moved hW.alike hK, hD.weaken (fun _ _ _ _ => trivial)⟩⟩ rfl rfl hl.1 rfl (lv_room (Nat.le_of_ble_eq_true rfl)) dX0_fallsForEver_13 ⟨(Nat.zero_le _), (Nat.zero_le _)⟩) hS (fun q _ h => hFc q h) hFc (fun r_13 v9 t H1 locs ht hvm hw hB hz1 hk1 hS => ?_)
        obtain ⟨hP1, hK1, hD1⟩ := hB
        rw [ht] at hP1
        clear hP hD hK
        have hK := va_K.moved hvm.symm hK1
        have hP := hP1
        have hD := hD1.weaken (B := A) (fun _ q _ h => hFc q.1 h)
        clear hP1 hD1 hK1 hFc hk1 hz1 ht hvm
        generalize H1 = H at hP hS ⊢
        rcases hw with ⟨c9, hc1, rfl, hc2, hc3⟩ | ⟨rfl, hz⟩
        · refine lv_istore_n (lv' := [(2, .int (nI c9)), (1, .int (nI k)), (0, .ref h0)]) hx hb dX0_fallsForEver_16 rfl hl (by decide) rfl (fun ls hl => ?_)
          refine lv_iload_n hx hb dX0_fallsForEver_17 rfl (lv_at hl 0 rfl) ?_
          refine lv_iconst (v := (-1)) hx hb dX0_fallsForEver_18 (by decide) ?_
          refine lv_icmp_ne (tgt := 24) hx hb dX0_fallsForEver_19 (by decide) (fun c2 => ?_) (fun c2 => ?_)
          · rw [Gd_neg hG (Nat.le_refl _) (by omega)] at hc2
            refine lv_aload_n hx hb dX0_fallsForEver_24 rfl (lv_at hl 2 rfl) ?_
            refine lv_iload_n hx hb dX0_fallsForEver_25 rfl (lv_at hl 0 rfl) ?_
            have hFc : ∀ q, va_A (wgW h0 qc qh r cA cI cJ me nw u tw iv hd M) H.size q → A q := va_fall hD hS hA
            refine va_calli (va_runV (As := [.int (nI c9)]) (rest := []) ⟨hx, hb, hml, hown, hts⟩ (c_X0_rowThatLimits l dC dI h0 qc qh r cA cI cJ H.size me nw u tw iv hd M c9 hm hn hc1) (cwV 1 hts gX0_fallsForEver_X0_rowThatLimits rfl rfl rfl (by decide +kernel) ⟨Nat.le_of_ble_eq_true rfl, Nat.le_of_ble_eq_true rfl⟩) ⟨fun a U g mk q => by obtain ⟨q0, q1, qP, qK, qD⟩ := q; exact ⟨q0, q1, qP, va_K.moved (u := U) (U := U.calling g mk a) (Vm.Alike.refl U.vm) qK, qD⟩, va_recv hK hP (ci := 0) (q0 := 0) rfl rfl, fun U hU hW => ⟨rfl, by rw [hU], by rw [hU]; exact hP, va_K.moved hW.alike hK, hD.weaken (fun _ _ _ _ => trivial)⟩⟩ rfl rfl hl.1 rfl (lv_room (Nat.le_of_ble_eq_true rfl)) dX0_fallsForEver_26 ⟨(Nat.zero_le _), (Nat.zero_le _)⟩) hS (fun q _ h => hFc q h) hFc (fun r_26 v9 t H1 locs ht hvm hw hB hz1 hk1 hS => ?_)
            obtain ⟨hP1, hK1, hD1⟩ := hB
            rw [ht] at hP1
            clear hP hD hK
            have hK := va_K.moved hvm.symm hK1
            have hP := hP1
            have hD := hD1.weaken (B := A) (fun _ q _ h => hFc q.1 h)
            clear hP1 hD1 hK1 hFc hk1 hz1 ht hvm
            generalize H1 = H at hP hS ⊢
            have hoI : ∀ i, i < me → (hd i = -1 ↔ h i = none) := fun i hi => by rw [hG.2.2.2.2 i hi]; exact oI_none (fun j q => by have := hG.1.2 i j hi q; omega)
            rcases hw with ⟨rfl, hz⟩ | ⟨b9, hb1, rfl, hb2, hb3, hb4⟩
            · refine lv_istore_n (lv' := [(3, .int (-1)), (2, .int (nI c9)), (1, .int (nI k)), (0, .ref h0)]) hx hb dX0_fallsForEver_29 rfl hl (by decide) rfl (fun ls hl => ?_)
              refine lv_iload_n hx hb dX0_fallsForEver_30 rfl (lv_at hl 0 rfl) ?_
              refine lv_iconst (v := (-1)) hx hb dX0_fallsForEver_31 (by decide) ?_
              refine lv_icmp_ne (tgt := 37) hx hb dX0_fallsForEver_32 (by decide) (fun c3 => ?_) (fun c3 => ?_)
              · exact absurd rfl c3
              · refine lv_iconst (v := nI 1) hx hb dX0_fallsForEver_35 (by decide) ?_
                exact W.zret (v := (nI 1)) hx hb hr (by rfl) (fun t ht hW => ⟨⟨(nI 1), (M, hd, u, tw, iv, h, R), rfl, Or.inl ⟨rfl, Stt_falls hG.1 hZ hc1 hc2 (fun i j hi q => by
                  apply Rat.not_lt.mp
                  intro q2
                  have q3 := hz i hi ((Gd_pos hG (by omega) (by omega)).mpr q2)
                  rw [hoI i hi, q] at q3
                  cases q3)⟩, by rw [ht]; exact hP, va_K.moved hW.alike hK, hD⟩, hS.F ht⟩) hS.2.2 dX0_fallsForEver_36
            · refine lv_istore_n (lv' := [(3, .int (nI b9)), (2, .int (nI c9)), (1, .int (nI k)), (0, .ref h0)]) hx hb dX0_fallsForEver_29 rfl hl (by decide) rfl (fun ls hl => ?_)
              refine lv_iload_n hx hb dX0_fallsForEver_30 rfl (lv_at hl 0 rfl) ?_
              refine lv_iconst (v := (-1)) hx hb dX0_fallsForEver_31 (by decide) ?_
              refine lv_icmp_ne (tgt := 37) hx hb dX0_fallsForEver_32 (by decide) (fun c3 => ?_) (fun c3 => ?_)
              · refine lv_aload_n hx hb dX0_fallsForEver_37 rfl (lv_at hl 3 rfl) ?_
                refine lv_iload_n hx hb dX0_fallsForEver_38 rfl (lv_at hl 0 rfl) ?_
                refine lv_iload_n hx hb dX0_fallsForEver_39 rfl (lv_at hl 1 rfl) ?_
                have hFc : ∀ q, va_A (wgW h0 qc qh r cA cI cJ me nw u tw iv hd M) H.size q → A q := va_fall hD hS hA
                refine va_callv (va_runV (As := [.int (nI b9), .int (nI c9)]) (rest := []) ⟨hx, hb, hml, hown, hts⟩ (c_X0_exchange l dC dI h0 qc qh r cA cI cJ H.size me nw u tw iv hd M b9 c9 hm hn hb1 hc1) (cwV 2 hts gX0_fallsForEver_X0_exchange rfl rfl rfl (by decide +kernel) ⟨Nat.le_of_ble_eq_true rfl, Nat.le_of_ble_eq_true rfl⟩) ⟨fun a U g mk q => by obtain ⟨q0, q1, qP, qK, qD⟩ := q; exact ⟨q0, q1, qP, va_K.moved (u := U) (U := U.calling g mk a) (Vm.Alike.refl U.vm) qK, qD⟩, va_recv hK hP (ci := 0) (q0 := 0) rfl rfl, fun U hU hW => ⟨rfl, by rw [hU], by rw [hU]; exact hP, va_K.moved hW.alike hK, hD.weaken (fun _ _ _ _ => trivial)⟩⟩ rfl rfl hl.1 rfl (lv_room (Nat.le_of_ble_eq_true rfl)) dX0_fallsForEver_40 ⟨(Nat.zero_le _), (Nat.zero_le _)⟩) hS (fun q _ h => hFc q h) hFc (fun v9 t H1 locs ht hvm hw hB hz1 hk1 hS => ?_)
                obtain ⟨hP1, hK1, hD1⟩ := hB
                rw [ht] at hP1
                clear hP hD hK
                have hK := va_K.moved hvm.symm hK1
                have hP := hP1
                have hD := hD1.weaken (B := A) (fun _ q _ h => hFc q.1 h)
                clear hP1 hD1 hK1 hFc hk1 hz1 ht hvm
                generalize H1 = H at hP hS ⊢
                refine lv_iinc (v := nI (k + 1)) (lv' := [(1, .int (nI (k + 1))), (3, .int (nI b9)), (2, .int (nI c9)), (0, .ref h0)]) hx hb dX0_fallsForEver_43 hl (k := 2) rfl (nI_1 _) (by decide) rfl (fun ls hl => ?_)
                refine lv_goto (tgt := 6) hx hb dX0_fallsForEver_46 (by decide) ?_
                obtain ⟨o9, ho9⟩ : ∃ o, h b9 = some o := by
                  cases q : h b9 with
                  | none => exact absurd ((hoI b9 hb1).mpr q) hb3
                  | some o => exact ⟨o, rfl⟩
                have hbp := (Gd_pos hG (show b9 ≤ me by omega) (show c9 ≤ nw by omega)).mp hb2
                have G2 := Gd_x hB0 hG hb1 hc1 (fun q => by have := (Gd_zero hG (show b9 ≤ me by omega) (show c9 ≤ nw by omega)).mp q; grind)
                have hS9 : StP me nw (clm C) h R c9 o9 b9 := ⟨hG.1, hZ, hc1, hb1, ho9, hc2, fun j hj => Rat.not_lt.mp (fun q => hc3 j hj ((Gd_neg hG (Nat.le_refl _) (by omega)).mpr q)), hbp, fun i j hi q q2 => by
                  have q3 := hb4 i hi ((Gd_pos hG (by omega) (by omega)).mpr q2) (fun q4 => by rw [hoI i hi, q] at q4; cases q4)
                  rw [hG.2.2.2.2 i hi, hG.2.2.2.2 b9 hb1, q, ho9] at q3
                  exact Nat.not_lt.mp (fun q5 => q3 (nI_lt q5 (by have := hG.1.2 b9 o9 hb1 ho9; omega)))⟩
                refine ih (k + 1) (xcM tw iv M b9 c9 me nw) (upd hd b9 (nI c9)) (xcS M b9 c9 nw b9 c9) (bcF (((xcS M b9 c9 nw b9 c9) &&& -(xcS M b9 c9 nw b9 c9)) - 1)) (nwF (sr (xcS M b9 c9 nw b9 c9) (bcF (((xcS M b9 c9 nw b9 c9) &&& -(xcS M b9 c9 nw b9 c9)) - 1))) 5) (fup h b9 (some c9)) (pv (me + 1) R b9 (clm C c9)) H _ ls (by omega) G2 (fun i hi hni j hj => ?_) (HiP_s hH hS9) hP hK hD hS (lv_sub hl [0, 3] rfl)
                by_cases e9 : i = b9
                · subst e9; rw [fup_s] at hni; cases hni
                · rw [fup_n _ _ e9] at hni; exact Zr_pv hZ hc1 i (by omega) e9 hni j hj
              · exact absurd c3 (nI_m1 (by omega))
          · exact absurd c2 (nI_m1 (by omega))
        · refine lv_istore_n (lv' := [(2, .int (-1)), (1, .int (nI k)), (0, .ref h0)]) hx hb dX0_fallsForEver_16 rfl hl (by decide) rfl (fun ls hl => ?_)
          refine lv_iload_n hx hb dX0_fallsForEver_17 rfl (lv_at hl 0 rfl) ?_
          refine lv_iconst (v := (-1)) hx hb dX0_fallsForEver_18 (by decide) ?_
          refine lv_icmp_ne (tgt := 24) hx hb dX0_fallsForEver_19 (by decide) (fun c2 => ?_) (fun c2 => ?_)
          · exact absurd rfl c2
          · refine lv_iconst (v := nI 0) hx hb dX0_fallsForEver_22 (by decide) ?_
            exact W.zret (v := (nI 0)) hx hb hr (by rfl) (fun t ht hW => ⟨⟨(nI 0), (M, hd, u, tw, iv, h, R), rfl, Or.inr ⟨rfl, hG, hZ, fun j hj => Rat.not_lt.mp (fun q => hz j hj ((Gd_neg hG (Nat.le_refl _) (by omega)).mpr q))⟩, by rw [ht]; exact hP, va_K.moved hW.alike hK, hD⟩, hS.F ht⟩) hS.2.2 dX0_fallsForEver_23
  exact loop 1000000 0 M hd u tw iv h R H _ ls (by omega) hG hZ HiP_0 hP hK hD hS (lv_sub hl [0, 1] rfl)
end
section
/-! ===== Weighing: reachesRightSides ===== -/
/-- a cost and a cell, multiplied, fit -/
def Bnd2 (me nw : Nat) (C : Nat → Nat → Int) : Prop := ∀ h : Nat → Option Nat, (∀ i j, i < me → h i = some j → j < nw) → ∀ i j o, i < me → j < nw → o < nw →
  (dt (me + 1) (fup (hB me (clm C) h) me (clm C o)) * dt (me + 1) (fup (hB me (clm C) h) i (clm C j))) * (dt (me + 1) (fup (hB me (clm C) h) me (clm C o)) * dt (me + 1) (fup (hB me (clm C) h) i (clm C j))) < 85070591730234615865843651857942052864
theorem Gd_prod {me nw : Nat} {C : Nat → Nat → Int} {M : Nat → Nat → Int64} {hd : Nat → Int32} {u : Int64} {tw : Int32} {iv : Int64} {h : Nat → Option Nat} {R : Nat → Nat → Rat} (hB2 : Bnd2 me nw C) (G : Gd me nw C M hd u tw iv h R) {i j o : Nat} (hi : i < me) (hj : j < nw) (ho : o < nw) : (M me o * M i j).toInt = (M me o).toInt * (M i j).toInt := by
  obtain ⟨G1, G2, ⟨g, hg, hdt⟩, G4, G5⟩ := G
  have b := hB2 h G1.2 i j o hi hj ho
  rw [dt_cd G1.1 (show me < me + 1 by omega), dt_cd G1.1 (show i < me + 1 by omega), hdt] at b
  have e1 := G4 me o (by omega) (by omega)
  have e2 := G4 i j (by omega) (by omega)
  have e3 : (((M me o).toInt * (M i j).toInt : Int) : Rat) * (((M me o).toInt * (M i j).toInt : Int) : Rat) < 85070591730234615865843651857942052864 := by
    rw [Rat.intCast_mul, e1, e2]
    generalize cd (me + 1) R (clm C o) me = x at b ⊢
    generalize cd (me + 1) R (clm C j) i = y at b ⊢
    generalize (u.toInt : Rat) = z at b ⊢
    have : (x * (g * z) * (y * (g * z))) * (x * (g * z) * (y * (g * z))) = (z * x * (z * y)) * (z * x * (z * y)) * ((g * g) * (g * g)) := by grind
    rw [this, hg] at b
    grind
  have := z_small e3
  exact lx_mulE (by omega) (by omega)
theorem Gd_cheap {me nw : Nat} {C : Nat → Nat → Int} {M : Nat → Nat → Int64} {hd : Nat → Int32} {u : Int64} {tw : Int32} {iv : Int64} {h : Nat → Option Nat} {R : Nat → Nat → Rat} (hB2 : Bnd2 me nw C) (G : Gd me nw C M hd u tw iv h R) {i j o : Nat} (hi : i < me) (hj : j < nw) (ho : o < nw) (n1 : cd (me + 1) R (clm C j) i < 0) (n2 : cd (me + 1) R (clm C o) i < 0) :
    M me o * M i j < M me j * M i o ↔ cd (me + 1) R (clm C j) me / (-cd (me + 1) R (clm C j) i) < cd (me + 1) R (clm C o) me / (-cd (me + 1) R (clm C o) i) := by
  rw [Int64.lt_iff_toInt_lt, Gd_prod hB2 G hi hj ho, Gd_prod hB2 G hi ho hj]
  have hu : (0 : Rat) < (u.toInt : Rat) := Rat.intCast_lt_intCast.mpr G.2.1.1
  rw [← Rat.intCast_lt_intCast, Rat.intCast_mul, Rat.intCast_mul, G.2.2.2.1 me o (by omega) (by omega), G.2.2.2.1 i j (by omega) (by omega), G.2.2.2.1 me j (by omega) (by omega), G.2.2.2.1 i o (by omega) (by omega)]
  generalize cd (me + 1) R (clm C o) me = co
  generalize cd (me + 1) R (clm C j) me = cj
  generalize cd (me + 1) R (clm C o) i = xo at n2 ⊢
  generalize cd (me + 1) R (clm C j) i = xj at n1 ⊢
  generalize (u.toInt : Rat) = w at hu ⊢
  have hw := Rat.mul_pos hu hu
  have p1 : 0 < -xj := by grind
  have p2 : 0 < -xo := by grind
  have d1 : cj / -xj * -xj = cj := Rat.div_mul_cancel (by grind)
  have d2 : co / -xo * -xo = co := Rat.div_mul_cancel (by grind)
  generalize cj / -xj = s at d1 ⊢
  generalize co / -xo = t at d2 ⊢
  have p3 := Rat.mul_pos p1 p2
  have p4 := Rat.mul_pos hw p3
  constructor
  · intro q
    apply Classical.byContradiction
    intro q2
    have := Rat.mul_nonneg (Rat.le_of_lt p4) (show 0 ≤ s - t by grind)
    subst d1; subst d2
    grind
  · intro q
    have := Rat.mul_pos p4 (show 0 < t - s by grind)
    subst d1; subst d2
    grind
theorem rq_8 {cj cc xj xc : Rat} (n1 : xj < 0) (n2 : xc < 0) (h : ¬ cj / -xj < cc / -xc) : cc * (-xj) ≤ cj * (-xc) := by
  have d1 : cj / -xj * -xj = cj := Rat.div_mul_cancel (by grind)
  have d2 : cc / -xc * -xc = cc := Rat.div_mul_cancel (by grind)
  generalize cj / -xj = s at d1 h
  generalize cc / -xc = t at d2 h
  have := Rat.mul_nonneg (Rat.le_of_lt (Rat.mul_pos (show 0 < -xj by grind) (show 0 < -xc by grind))) (show 0 ≤ s - t by grind)
  subst d1; subst d2
  grind
theorem rq_9 {cj cc xj xc : Rat} (n1 : xj < 0) (n2 : xc < 0) (h : cc / -xc < cj / -xj) : cc * (-xj) < cj * (-xc) := by
  have d1 : cj / -xj * -xj = cj := Rat.div_mul_cancel (by grind)
  have d2 : cc / -xc * -xc = cc := Rat.div_mul_cancel (by grind)
  generalize cj / -xj = s at d1 h
  generalize cc / -xc = t at d2 h
  have := Rat.mul_pos (Rat.mul_pos (show 0 < -xj by grind) (show 0 < -xc by grind)) (show 0 < s - t by grind)
  subst d1; subst d2
  grind
/-- the costs stay 0 or more -/
theorem rq_10 {cj cc xj xc : Rat} (h1 : 0 ≤ cj) (h2 : 0 ≤ cc) (n2 : xc < 0) (h : xj < 0 → cc * (-xj) ≤ cj * (-xc)) : 0 ≤ cj - cc / xc * xj := by
  have d2 : cc / xc * xc = cc := Rat.div_mul_cancel (by grind)
  generalize cc / xc = t at d2 ⊢
  subst d2
  have hp : 0 < -xc := by grind
  have ht : t ≤ 0 := by
    apply Classical.byContradiction
    intro q
    have := Rat.mul_pos (show 0 < t by grind) hp
    grind
  by_cases q : xj < 0
  · have g1 := h q
    apply Rat.le_of_mul_le_mul_left (c := -xc) _ hp
    grind
  · have := Rat.mul_nonneg (show 0 ≤ -t by grind) (show 0 ≤ xj by grind)
    grind
set_option maxHeartbeats 1000000 in
set_option maxRecDepth 100000 in
/-- reachesRightSides() -/
theorem c_X0_reachesRightSides (l : Launch) (dC : Nat → ClassId) (dI : Nat → Nat → Nat) (h0 qc qh : Nat) (r : Nat → Nat) (cA cI cJ : ClassId) (sz : Nat) (me nw : Nat) (u : Int64) (tw : Int32) (iv : Int64) (hd : Nat → Int32) (M : Nat → Nat → Int64) (C : Nat → Nat → Int) (h : Nat → Option Nat) (R : Nat → Nat → Rat) (hm : me < 10) (hn : nw < 17) (hB0 : Bnd me nw C) (hB2 : Bnd2 me nw C) (hG : Gd me nw C M hd u tw iv h R) (hZ : Zr me nw (clm C) h R me) (hC : (∀ j, j < nw → 0 ≤ cd (me + 1) R (clm C j) me)) : Met l yX0_reachesRightSides wsX0_reachesRightSides ({ frames := 3, cells := 0, slots := 0, locals := 101 }) (va_Pc [.ref h0] (fun U => U.heap.size = sz ∧ va_P (dC, dI) vwCl (wgW h0 qc qh r cA cI cJ me nw u tw iv hd M) U.heap ∧ va_K (dC, dI) vwCl (wgT cA cI cJ) U ∧ va_D (fun _ => True) (wgW h0 qc qh r cA cI cJ me nw u tw iv hd M))) (va_Qi (fun (x : Int32) (v : wgS) => (x = 1 ∧ GdS me nw C v ∧ (∀ j, j < nw → 0 ≤ cd (me + 1) v.2.2.2.2.2.2 (clm C j) me) ∧ (∀ i, i < me → v.2.2.2.2.2.1 i = none → cd (me + 1) v.2.2.2.2.2.2 (clm C nw) i = 0) ∧ ∀ i j, i < me → v.2.2.2.2.2.1 i = some j → 0 ≤ cd (me + 1) v.2.2.2.2.2.2 (clm C nw) i) ∨ (x = 0 ∧ (∃ z : Nat → Rat, (∀ j, j < nw → 0 ≤ sm me (fun t => z t * clm C j t)) ∧ sm me (fun t => z t * clm C nw t) < 0))) (fun v t => va_P (dC, dI) vwCl (wgW h0 qc qh r cA cI cJ me nw v.2.2.1 v.2.2.2.1 v.2.2.2.2.1 v.2.1 v.1) t.heap ∧ va_K (dC, dI) vwCl (wgT cA cI cJ) t ∧ va_D (va_A (wgW h0 qc qh r cA cI cJ me nw u tw iv hd M) sz) (wgW h0 qc qh r cA cI cJ me nw v.2.2.1 v.2.2.2.1 v.2.2.2.2.1 v.2.1 v.1)) (va_A (wgW h0 qc qh r cA cI cJ me nw u tw iv hd M) sz)) 0 0 (va_A (wgW h0 qc qh r cA cI cJ me nw u tw iv hd M) sz) := by
  refine Met.ofW (cc := cX0_reachesRightSides) (maxL := 4) (ret := (some .boolean)) (by decide) rfl ?_
  intro p e s m args below meth c s₁ B hml hv
  obtain ⟨rfl, hsz, hP, hK, hD0⟩ := hv
  have hx := B.exec
  have hb := B.bytes
  have hr := B.returns
  have hts := atoms_spec (ws := wsX0_reachesRightSides) B.pre
  have hown : s.vm.findClass RX0 = some m.cls := findClass_of_methodNamed B.named
  subst hsz
  have hD := hD0.self (sz := s.heap.size)
  clear hD0
  generalize hAe : va_A (wgW h0 qc qh r cA cI cJ me nw u tw iv hd M) s.heap.size = A at hD ⊢
  have hA : ∀ q : Nat, s.heap.size ≤ q → A q := fun q h => by rw [← hAe]; exact Or.inr h
  have hl := lv_entry ([.ref h0]) (n := 4) (Nat.le_of_ble_eq_true rfl)
  rw [lg_entry_eq]
  generalize (lg_sl ([.ref h0]) ++ List.replicate (4 - (lg_sl ([.ref h0])).length) Slot.unset).toArray = ls at hl ⊢
  have hl : lv_has ls 4 [(0, .ref h0)] := hl
  have hP : va_P (dC, dI) vwCl (wgW h0 qc qh r cA cI cJ me nw u tw iv hd M) s.heap := hP
  obtain ⟨H, hH⟩ : ∃ H, H = s.heap := ⟨_, rfl⟩
  have hS : va_S A s.heap H [] := by rw [hH]; exact va_S.rf
  rw [← hH] at hP ⊢
  refine lv_aload_n hx hb dX0_reachesRightSides_0 rfl (lv_at hl 0 rfl) ?_
  have hoI : ∀ i, i < me → (hd i = -1 ↔ h i = none) := fun i hi => by rw [hG.2.2.2.2 i hi]; exact oI_none (fun j q => by have := hG.1.2 i j hi q; omega)
  have hFc : ∀ q, va_A (wgW h0 qc qh r cA cI cJ me nw u tw iv hd M) H.size q → A q := va_fall hD hS hA
  refine va_calli (va_runV (As := []) (rest := []) ⟨hx, hb, hml, hown, hts⟩ (c_X0_hasBareContradiction l dC dI h0 qc qh r cA cI cJ H.size me nw u tw iv hd M hm hn) (cwV 0 hts gX0_reachesRightSides_X0_hasBareContradiction rfl rfl rfl (by decide +kernel) ⟨Nat.le_of_ble_eq_true rfl, Nat.le_of_ble_eq_true rfl⟩) ⟨fun a U g mk q => by obtain ⟨q0, q1, qP, qK, qD⟩ := q; exact ⟨q0, q1, qP, va_K.moved (u := U) (U := U.calling g mk a) (Vm.Alike.refl U.vm) qK, qD⟩, va_recv hK hP (ci := 0) (q0 := 0) rfl rfl, fun U hU hW => ⟨rfl, by rw [hU], by rw [hU]; exact hP, va_K.moved hW.alike hK, hD.weaken (fun _ _ _ _ => trivial)⟩⟩ rfl rfl hl.1 rfl (lv_room (Nat.le_of_ble_eq_true rfl)) dX0_reachesRightSides_1 ⟨(Nat.zero_le _), (Nat.zero_le _)⟩) hS (fun q _ h => hFc q h) hFc (fun r_1 v9 t H1 locs ht hvm hw hB hz1 hk1 hS => ?_)
  obtain ⟨hP1, hK1, hD1⟩ := hB
  rw [ht] at hP1
  clear hP hD hK
  have hK := va_K.moved hvm.symm hK1
  have hP := hP1
  have hD := hD1.weaken (B := A) (fun _ q _ h => hFc q.1 h)
  clear hP1 hD1 hK1 hFc hk1 hz1 ht hvm
  generalize H1 = H at hP hS ⊢
  rcases hw with ⟨rfl, i9, hi9, hh9, hz9⟩ | ⟨rfl, hz⟩
  · refine lv_if_eq (tgt := 9) hx hb dX0_reachesRightSides_4 (by decide) (fun c1 => ?_) (fun c1 => ?_)
    · exact absurd c1 (by decide)
    · rw [hoI i9 hi9] at hh9
      have q1 : cd (me + 1) R (clm C nw) i9 ≠ 0 := fun q => hz9 ((Gd_zero hG (by omega) (Nat.le_refl _)).mpr q)
      have q2 : (∃ z : Nat → Rat, (∀ j, j < nw → 0 ≤ sm me (fun t => z t * clm C j t)) ∧ sm me (fun t => z t * clm C nw t) < 0) := by
        by_cases q3 : cd (me + 1) R (clm C nw) i9 < 0
        · exact ⟨fun t => R i9 t, fun j hj => by rw [← Stt_row hG.1 hi9, hZ i9 hi9 hh9 j hj]; grind, by rw [← Stt_row hG.1 hi9]; exact q3⟩
        · have e1 : ∀ v : Nat → Rat, sm me (fun t => -R i9 t * v t) = -cd (me + 1) R v i9 := fun v => by
            rw [Stt_row hG.1 hi9, show sm me (fun t => -R i9 t * v t) = sm me (fun t => (-1) * (R i9 t * v t)) from sm_congr (fun t _ => by grind), sm_mul]; grind
          exact ⟨fun t => -R i9 t, fun j hj => by rw [e1, hZ i9 hi9 hh9 j hj]; grind, by rw [e1]; grind⟩
      refine lv_iconst (v := nI 0) hx hb dX0_reachesRightSides_7 (by decide) ?_
      exact W.zret (v := (nI 0)) hx hb hr (by rfl) (fun t ht hW => ⟨⟨(nI 0), (M, hd, u, tw, iv, h, R), rfl, Or.inr ⟨rfl, q2⟩, by rw [ht]; exact hP, va_K.moved hW.alike hK, hD⟩, hS.F ht⟩) hS.2.2 dX0_reachesRightSides_8
  · refine lv_if_eq (tgt := 9) hx hb dX0_reachesRightSides_4 (by decide) (fun c1 => ?_) (fun c1 => ?_)
    · have hBz : (∀ i, i < me → h i = none → cd (me + 1) R (clm C nw) i = 0) := fun i hi q => (Gd_zero hG (by omega) (Nat.le_refl _)).mp (hz i hi ((hoI i hi).mpr q))
      clear hz c1 hoI
      refine lv_iconst (v := nI 0) hx hb dX0_reachesRightSides_9 (by decide) ?_
      refine lv_istore_n (lv' := [(1, .int (nI 0)), (0, .ref h0)]) hx hb dX0_reachesRightSides_10 rfl hl (by decide) rfl (fun ls hl => ?_)
      have loop : ∀ (d k : Nat) (M : Nat → Nat → Int64) (hd : Nat → Int32) (u : Int64) (tw : Int32) (iv : Int64) (h : Nat → Option Nat) (R : Nat → Nat → Rat) (H : Heap) (locs : List Loc) (ls : Array Slot), k + d = 1000000 → Gd me nw C M hd u tw iv h R → Zr me nw (clm C) h R me → (∀ j, j < nw → 0 ≤ cd (me + 1) R (clm C j) me) → (∀ i, i < me → h i = none → cd (me + 1) R (clm C nw) i = 0) → HiD me nw (clm C) (clm C nw) k h R → va_P (dC, dI) vwCl (wgW h0 qc qh r cA cI cJ me nw u tw iv hd M) H → va_K (dC, dI) vwCl (wgT cA cI cJ) s → va_D A (wgW h0 qc qh r cA cI cJ me nw u tw iv hd M) → va_S A s.heap H locs → lv_has ls 4 [(1, .int (nI k)), (0, .ref h0)] → W p l e (headSpec wsX0_reachesRightSides ({ frames := 3, cells := 0, slots := 0, locals := 101 })).room s m #[.ref h0] below meth c H locs 0 0 (MQ below (va_Qi (fun (x : Int32) (v : wgS) => (x = 1 ∧ GdS me nw C v ∧ (∀ j, j < nw → 0 ≤ cd (me + 1) v.2.2.2.2.2.2 (clm C j) me) ∧ (∀ i, i < me → v.2.2.2.2.2.1 i = none → cd (me + 1) v.2.2.2.2.2.2 (clm C nw) i = 0) ∧ ∀ i j, i < me → v.2.2.2.2.2.1 i = some j → 0 ≤ cd (me + 1) v.2.2.2.2.2.2 (clm C nw) i) ∨ (x = 0 ∧ (∃ z : Nat → Rat, (∀ j, j < nw → 0 ≤ sm me (fun t => z t * clm C j t)) ∧ sm me (fun t => z t * clm C nw t) < 0))) (fun v t => va_P (dC, dI) vwCl (wgW h0 qc qh r cA cI cJ me nw v.2.2.1 v.2.2.2.1 v.2.2.2.2.1 v.2.1 v.1) t.heap ∧ va_K (dC, dI) vwCl (wgT cA cI cJ) t ∧ va_D A (wgW h0 qc qh r cA cI cJ me nw v.2.2.1 v.2.2.2.1 v.2.2.2.2.1 v.2.1 v.1)) A) #[.ref h0] s 0 0 A) (F0 m 11 ls []) := by
        clear hP hK hD hS hl hG hZ hC hBz
        intro d
        induction d with
        | zero =>
          intro k M hd u tw iv h R H locs ls hk hG hZ hC hBz hH hP hK hD hS hl
          have h1 := HiD_lt hG.1 hBz hH
          have h2 : 2 ^ nw ≤ 2 ^ 16 := Nat.pow_le_pow_right (by omega) (by omega)
          omega
        | succ d ih =>
          intro k M hd u tw iv h R H locs ls hk hG hZ hC hBz hH hP hK hD hS hl
          have hoI : ∀ i, i < me → (hd i = -1 ↔ h i = none) := fun i hi => by rw [hG.2.2.2.2 i hi]; exact oI_none (fun j q => by have := hG.1.2 i j hi q; omega)
          refine lv_iload_n hx hb dX0_reachesRightSides_11 rfl (lv_at hl 0 rfl) ?_
          refine lv_ldc (v := nI 1000000) hx hb hown (hts (.constant RX0 59 (1000000)) (List.mem_of_getElem? (i := 1) rfl)) dX0_reachesRightSides_12 ?_
          refine lv_icmp_ge (tgt := 54) hx hb dX0_reachesRightSides_14 (by decide) (fun c1 => ?_) (fun c1 => ?_)
          · exact absurd c1 (nI_ge (by omega) (by omega))
          · refine lv_aload_n hx hb dX0_reachesRightSides_17 rfl (lv_at hl 1 rfl) ?_
            have hFc : ∀ q, va_A (wgW h0 qc qh r cA cI cJ me nw u tw iv hd M) H.size q → A q := va_fall hD hS hA
            refine va_calli (va_runV (As := []) (rest := []) ⟨hx, hb, hml, hown, hts⟩ (c_X0_rowBelowZero l dC dI h0 qc qh r cA cI cJ H.size me nw u tw iv hd M hm hn) (cwV 0 hts gX0_reachesRightSides_X0_rowBelowZero rfl rfl rfl (by decide +kernel) ⟨Nat.le_of_ble_eq_true rfl, Nat.le_of_ble_eq_true rfl⟩) ⟨fun a U g mk q => by obtain ⟨q0, q1, qP, qK, qD⟩ := q; exact ⟨q0, q1, qP, va_K.moved (u := U) (U := U.calling g mk a) (Vm.Alike.refl U.vm) qK, qD⟩, va_recv hK hP (ci := 0) (q0 := 0) rfl rfl, fun U hU hW => ⟨rfl, by rw [hU], by rw [hU]; exact hP, va_K.moved hW.alike hK, hD.weaken (fun _ _ _ _ => trivial)⟩⟩ rfl rfl hl.1 rfl (lv_room (Nat.le_of_ble_eq_true rfl)) dX0_reachesRightSides_18 ⟨(Nat.zero_le _), (Nat.zero_le _)⟩) hS (fun q _ h => hFc q h) hFc (fun r_18 v9 t H1 locs ht hvm hw hB hz1 hk1 hS => ?_)
            obtain ⟨hP1, hK1, hD1⟩ := hB
            rw [ht] at hP1
            clear hP hD hK
            have hK := va_K.moved hvm.symm hK1
            have hP := hP1
            have hD := hD1.weaken (B := A) (fun _ q _ h => hFc q.1 h)
            clear hP1 hD1 hK1 hFc hk1 hz1 ht hvm
            generalize H1 = H at hP hS ⊢
            rcases hw with ⟨rfl, hz⟩ | ⟨b9, hb1, rfl, hb2, hb3, hb4⟩
            · refine lv_istore_n (lv' := [(2, .int (-1)), (1, .int (nI k)), (0, .ref h0)]) hx hb dX0_reachesRightSides_21 rfl hl (by decide) rfl (fun ls hl => ?_)
              refine lv_iload_n hx hb dX0_reachesRightSides_22 rfl (lv_at hl 0 rfl) ?_
              refine lv_iconst (v := (-1)) hx hb dX0_reachesRightSides_23 (by decide) ?_
              refine lv_icmp_ne (tgt := 29) hx hb dX0_reachesRightSides_24 (by decide) (fun c2 => ?_) (fun c2 => ?_)
              · exact absurd rfl c2
              · refine lv_iconst (v := nI 1) hx hb dX0_reachesRightSides_27 (by decide) ?_
                exact W.zret (v := (nI 1)) hx hb hr (by rfl) (fun t ht hW => ⟨⟨(nI 1), (M, hd, u, tw, iv, h, R), rfl, Or.inl ⟨rfl, hG, hC, hBz, fun i j hi q => by
                  apply Rat.not_lt.mp
                  intro q2
                  have q3 := hz i hi ((Gd_neg hG (by omega) (Nat.le_refl _)).mpr q2)
                  have q : h i = some j := q
                  rw [hoI i hi, q] at q3
                  cases q3⟩, by rw [ht]; exact hP, va_K.moved hW.alike hK, hD⟩, hS.F ht⟩) hS.2.2 dX0_reachesRightSides_28
            · refine lv_istore_n (lv' := [(2, .int (nI b9)), (1, .int (nI k)), (0, .ref h0)]) hx hb dX0_reachesRightSides_21 rfl hl (by decide) rfl (fun ls hl => ?_)
              refine lv_iload_n hx hb dX0_reachesRightSides_22 rfl (lv_at hl 0 rfl) ?_
              refine lv_iconst (v := (-1)) hx hb dX0_reachesRightSides_23 (by decide) ?_
              refine lv_icmp_ne (tgt := 29) hx hb dX0_reachesRightSides_24 (by decide) (fun c2 => ?_) (fun c2 => ?_)
              · rw [Gd_neg hG (by omega) (Nat.le_refl _)] at hb2
                obtain ⟨o9, ho9⟩ : ∃ o, h b9 = some o := by
                  cases q : h b9 with
                  | none => exact absurd ((hoI b9 hb1).mpr q) hb3
                  | some o => exact ⟨o, rfl⟩
                refine lv_aload_n hx hb dX0_reachesRightSides_29 rfl (lv_at hl 2 rfl) ?_
                refine lv_iload_n hx hb dX0_reachesRightSides_30 rfl (lv_at hl 0 rfl) ?_
                have hFc : ∀ q, va_A (wgW h0 qc qh r cA cI cJ me nw u tw iv hd M) H.size q → A q := va_fall hD hS hA
                refine va_calli (va_runV (As := [.int (nI b9)]) (rest := []) ⟨hx, hb, hml, hown, hts⟩ (c_X0_columnThatLifts l dC dI h0 qc qh r cA cI cJ H.size me nw u tw iv hd M b9 (fun j => cd (me + 1) R (clm C j) me / (-cd (me + 1) R (clm C j) b9)) hm (by omega) hn (fun j o hj ho n1 n2 => Gd_cheap hB2 hG hb1 hj ho ((Gd_neg hG (by omega) (by omega)).mp n1) ((Gd_neg hG (by omega) (by omega)).mp n2))) (cwV 1 hts gX0_reachesRightSides_X0_columnThatLifts rfl rfl rfl (by decide +kernel) ⟨Nat.le_of_ble_eq_true rfl, Nat.le_of_ble_eq_true rfl⟩) ⟨fun a U g mk q => by obtain ⟨q0, q1, qP, qK, qD⟩ := q; exact ⟨q0, q1, qP, va_K.moved (u := U) (U := U.calling g mk a) (Vm.Alike.refl U.vm) qK, qD⟩, va_recv hK hP (ci := 0) (q0 := 0) rfl rfl, fun U hU hW => ⟨rfl, by rw [hU], by rw [hU]; exact hP, va_K.moved hW.alike hK, hD.weaken (fun _ _ _ _ => trivial)⟩⟩ rfl rfl hl.1 rfl (lv_room (Nat.le_of_ble_eq_true rfl)) dX0_reachesRightSides_31 ⟨(Nat.zero_le _), (Nat.zero_le _)⟩) hS (fun q _ h => hFc q h) hFc (fun r_31 v9 t H1 locs ht hvm hw hB hz1 hk1 hS => ?_)
                obtain ⟨hP1, hK1, hD1⟩ := hB
                rw [ht] at hP1
                clear hP hD hK
                have hK := va_K.moved hvm.symm hK1
                have hP := hP1
                have hD := hD1.weaken (B := A) (fun _ q _ h => hFc q.1 h)
                clear hP1 hD1 hK1 hFc hk1 hz1 ht hvm
                generalize H1 = H at hP hS ⊢
                rcases hw with ⟨rfl, hz⟩ | ⟨c9, hc1, rfl, hc2, hc3⟩
                · refine lv_istore_n (lv' := [(3, .int (-1)), (2, .int (nI b9)), (1, .int (nI k)), (0, .ref h0)]) hx hb dX0_reachesRightSides_34 rfl hl (by decide) rfl (fun ls hl => ?_)
                  refine lv_iload_n hx hb dX0_reachesRightSides_35 rfl (lv_at hl 0 rfl) ?_
                  refine lv_iconst (v := (-1)) hx hb dX0_reachesRightSides_36 (by decide) ?_
                  refine lv_icmp_ne (tgt := 42) hx hb dX0_reachesRightSides_37 (by decide) (fun c3 => ?_) (fun c3 => ?_)
                  · exact absurd rfl c3
                  · refine lv_iconst (v := nI 0) hx hb dX0_reachesRightSides_40 (by decide) ?_
                    exact W.zret (v := (nI 0)) hx hb hr (by rfl) (fun t ht hW => ⟨⟨(nI 0), (M, hd, u, tw, iv, h, R), rfl, Or.inr ⟨rfl, fun t => R b9 t, fun j hj => by rw [← Stt_row hG.1 hb1]; exact Rat.not_lt.mp (fun q => hz j hj ((Gd_neg hG (by omega) (by omega)).mpr q)), by rw [← Stt_row hG.1 hb1]; exact hb2⟩, by rw [ht]; exact hP, va_K.moved hW.alike hK, hD⟩, hS.F ht⟩) hS.2.2 dX0_reachesRightSides_41
                · refine lv_istore_n (lv' := [(3, .int (nI c9)), (2, .int (nI b9)), (1, .int (nI k)), (0, .ref h0)]) hx hb dX0_reachesRightSides_34 rfl hl (by decide) rfl (fun ls hl => ?_)
                  refine lv_iload_n hx hb dX0_reachesRightSides_35 rfl (lv_at hl 0 rfl) ?_
                  refine lv_iconst (v := (-1)) hx hb dX0_reachesRightSides_36 (by decide) ?_
                  refine lv_icmp_ne (tgt := 42) hx hb dX0_reachesRightSides_37 (by decide) (fun c3 => ?_) (fun c3 => ?_)
                  · refine lv_aload_n hx hb dX0_reachesRightSides_42 rfl (lv_at hl 3 rfl) ?_
                    refine lv_iload_n hx hb dX0_reachesRightSides_43 rfl (lv_at hl 1 rfl) ?_
                    refine lv_iload_n hx hb dX0_reachesRightSides_44 rfl (lv_at hl 0 rfl) ?_
                    have hFc : ∀ q, va_A (wgW h0 qc qh r cA cI cJ me nw u tw iv hd M) H.size q → A q := va_fall hD hS hA
                    refine va_callv (va_runV (As := [.int (nI b9), .int (nI c9)]) (rest := []) ⟨hx, hb, hml, hown, hts⟩ (c_X0_exchange l dC dI h0 qc qh r cA cI cJ H.size me nw u tw iv hd M b9 c9 hm hn hb1 hc1) (cwV 2 hts gX0_reachesRightSides_X0_exchange rfl rfl rfl (by decide +kernel) ⟨Nat.le_of_ble_eq_true rfl, Nat.le_of_ble_eq_true rfl⟩) ⟨fun a U g mk q => by obtain ⟨q0, q1, qP, qK, qD⟩ := q; exact ⟨q0, q1, qP, va_K.moved (u := U) (U := U.calling g mk a) (Vm.Alike.refl U.vm) qK, qD⟩, va_recv hK hP (ci := 0) (q0 := 0) rfl rfl, fun U hU hW => ⟨rfl, by rw [hU], by rw [hU]; exact hP, va_K.moved hW.alike hK, hD.weaken (fun _ _ _ _ => trivial)⟩⟩ rfl rfl hl.1 rfl (lv_room (Nat.le_of_ble_eq_true rfl)) dX0_reachesRightSides_45 ⟨(Nat.zero_le _), (Nat.zero_le _)⟩) hS (fun q _ h => hFc q h) hFc (fun v9 t H1 locs ht hvm hw hB hz1 hk1 hS => ?_)
                    obtain ⟨hP1, hK1, hD1⟩ := hB
                    rw [ht] at hP1
                    clear hP hD hK
                    have hK := va_K.moved hvm.symm hK1
                    have hP := hP1
                    have hD := hD1.weaken (B := A) (fun _ q _ h => hFc q.1 h)
                    clear hP1 hD1 hK1 hFc hk1 hz1 ht hvm
                    generalize H1 = H at hP hS ⊢
                    refine lv_iinc (v := nI (k + 1)) (lv' := [(1, .int (nI (k + 1))), (3, .int (nI c9)), (2, .int (nI b9)), (0, .ref h0)]) hx hb dX0_reachesRightSides_48 hl (k := 2) rfl (nI_1 _) (by decide) rfl (fun ls hl => ?_)
                    refine lv_goto (tgt := 11) hx hb dX0_reachesRightSides_51 (by decide) ?_
                    rw [Gd_neg hG (by omega) (by omega)] at hc2
                    have hn9 : ∀ j, j < nw → cd (me + 1) R (clm C j) b9 < 0 → M b9 j < 0 := fun j hj q => (Gd_neg hG (by omega) (by omega)).mpr q
                    have G2 := Gd_x hB0 hG hb1 hc1 (fun q => by have := (Gd_zero hG (show b9 ≤ me by omega) (show c9 ≤ nw by omega)).mp q; grind)
                    have hS9 : StD me nw (clm C) (clm C nw) h R c9 o9 b9 := ⟨hG.1, hBz, hc1, hb1, ho9, hC, hb2, fun i j hi q q2 => by
                      have q3 := hb4 i hi ((Gd_neg hG (by omega) (Nat.le_refl _)).mpr q2) (fun q4 => by rw [hoI i hi, q] at q4; cases q4)
                      rw [hG.2.2.2.2 i hi, hG.2.2.2.2 b9 hb1, q, ho9] at q3
                      exact Nat.not_lt.mp (fun q5 => q3 (nI_lt q5 (by have := hG.1.2 b9 o9 hb1 ho9; omega))), hc2, fun j hj q => rq_9 q hc2 ((hc3 j (by omega) (hn9 j (by omega) q)).2 hj)⟩
                    refine ih (k + 1) (xcM tw iv M b9 c9 me nw) (upd hd b9 (nI c9)) (xcS M b9 c9 nw b9 c9) (bcF (((xcS M b9 c9 nw b9 c9) &&& -(xcS M b9 c9 nw b9 c9)) - 1)) (nwF (sr (xcS M b9 c9 nw b9 c9) (bcF (((xcS M b9 c9 nw b9 c9) &&& -(xcS M b9 c9 nw b9 c9)) - 1))) 5) (fup h b9 (some c9)) (pv (me + 1) R b9 (clm C c9)) H _ ls (by omega) G2 (fun i hi hni j hj => ?_) (fun j hj => ?_) (fun i hi hni => ?_) (HiD_s hH hS9) hP hK hD hS (lv_sub hl [0, 3] rfl)
                    · by_cases e9 : i = b9
                      · subst e9; rw [fup_s] at hni; cases hni
                      · rw [fup_n _ _ e9] at hni; exact Zr_pv hZ hc1 i (by omega) e9 hni j hj
                    · rw [pv_o _ _ (show me ≠ b9 by omega)]
                      exact rq_10 (hC j hj) (hC c9 hc1) hc2 (fun q => rq_8 q hc2 (hc3 j hj (hn9 j hj q)).1)
                    · by_cases e9 : i = b9
                      · subst e9; rw [fup_s] at hni; cases hni
                      · rw [fup_n _ _ e9] at hni; rw [pv_o _ _ e9, hBz i hi hni, hZ i hi hni c9 hc1]; grind
                  · exact absurd c3 (nI_m1 (by omega))
              · exact absurd c2 (nI_m1 (by omega))
      exact loop 1000000 0 M hd u tw iv h R H _ ls (by omega) hG hZ hC hBz HiD_0 hP hK hD hS (lv_sub hl [0, 1] rfl)
    · exact absurd rfl c1
end
section
/-! ===== Arrays.fill; Weighing.clear ===== -/
def filL (f : Nat → Int64) (k : Nat) (v : Int64) : Nat → Int64 := fun j => if j < k then v else f j
def filI (f : Nat → Int32) (k : Nat) (v : Int32) : Nat → Int32 := fun j => if j < k then v else f j
theorem filL_s (f : Nat → Int64) (k : Nat) (v : Int64) : vp_updL (filL f k v) k v = filL f (k + 1) v := by
  funext j; unfold vp_updL filL
  by_cases e : j = k
  · subst e; simp
  · by_cases h : j < k
    · simp [e, h, show j < k + 1 by omega]
    · simp [e, h, show ¬ j < k + 1 by omega]
theorem filI_s (f : Nat → Int32) (k : Nat) (v : Int32) : upd (filI f k v) k v = filI f (k + 1) v := by
  funext j; unfold upd filI
  by_cases e : j = k
  · subst e; simp
  · by_cases h : j < k
    · simp [e, h, show j < k + 1 by omega]
    · simp [e, h, show ¬ j < k + 1 by omega]
theorem filL_0 (f : Nat → Int64) (v : Int64) : filL f 0 v = f := by funext j; simp [filL]
theorem filI_0 (f : Nat → Int32) (v : Int32) : filI f 0 v = f := by funext j; simp [filI]
/-- behind a call whose world is one cell of this world -/
theorem jn_at {D : va_G} {cl : List vw_C} {A : Nat → Prop} {ws : va_W} {k a : Nat} {e e' : va_E} {H H1 : Heap} (hP : va_P D cl ws H) (hD : va_D A ws) (hk : ws[k]? = some (a, e)) (hF : ∀ q : Nat, q < H.size → ¬ va_A [(a, e)] H.size q → H1[q]? = H[q]?) (hP1 : va_P D cl [(a, e')] H1) : va_P D cl (ws.set k (a, e')) H1 ∧ va_D A (ws.set k (a, e')) := by
  refine ⟨?_, hD.set hk⟩
  intro j q hj
  rw [List.getElem?_set] at hj
  by_cases h : k = j
  · subst h
    rw [if_pos rfl] at hj
    split at hj
    · cases hj
      exact hP1 0 _ rfl
    · cases hj
  · rw [if_neg h] at hj
    have h1 := hP j q hj
    refine h1.kept (hF q.1 h1.lt ?_)
    rintro (⟨i, e9, h9⟩ | h9)
    · cases i with
      | zero =>
        simp at h9
        exact h (hD.1 k j _ _ hk hj h9.1)
      | succ i => simp at h9
    · have := h1.lt; omega
theorem va_oneD {A : Nat → Prop} {a : Nat} {e : va_E} (h : A a) : va_D A [(a, e)] := by
  refine ⟨fun i j p q hi hj _ => ?_, fun k q hk => ?_⟩
  · cases i with
    | zero => cases j with
      | zero => rfl
      | succ j => simp at hj
    | succ i => simp at hi
  · cases k with
    | zero => simp at hk; rw [← hk]; exact h
    | succ k => simp at hk
theorem va_oneP {D : va_G} {cl : List vw_C} {ws : va_W} {k a : Nat} {e : va_E} {H : Heap} (hP : va_P D cl ws H) (hk : ws[k]? = some (a, e)) : va_P D cl [(a, e)] H := fun i q hi => by
  cases i with
  | zero => simp at hi; rw [← hi]; exact hP k _ hk
  | succ i => simp at hi
theorem va_oneA {A0 : Nat → Prop} {ws : va_W} {k a : Nat} {e : va_E} {H0 H : Heap} {locs : List Loc} (hD : va_D A0 ws) (hk : ws[k]? = some (a, e)) (hS : va_S A0 H0 H locs) (hA : ∀ q, H0.size ≤ q → A0 q) : ∀ q, va_A [(a, e)] H.size q → A0 q := fun q h => by
  rcases h with ⟨i, e9, h⟩ | h
  · cases i with
    | zero => simp at h; rw [← h.1]; exact hD.2 k _ hk
    | succ i => simp at h
  · exact hA q (Nat.le_trans hS.1 h)
set_option maxHeartbeats 1000000 in
set_option maxRecDepth 100000 in
/-- Arrays.fill -/
theorem c_J7_fillL (l : Launch) (dC : Nat → ClassId) (dI : Nat → Nat → Nat) (sz : Nat) (cX : ClassId) (a n : Nat) (f : Nat → Int64) (y9 : Int64) (hn : n < 2 ^ 31) : Met l yJ7_fill_d0a16 wsJ7_fill_d0a16 ({ frames := 0, cells := 0, slots := 0, locals := 0 }) (va_Pc [.ref a, .long y9] (fun U => U.heap.size = sz ∧ va_P (dC, dI) vwCl [(a, .inl (cX, n, .inr (.inl f)))] U.heap ∧ va_K (dC, dI) vwCl [(cX, .long)] U ∧ va_D (fun _ => True) [(a, .inl (cX, n, .inr (.inl f)))])) (va_Qv (fun v : Unit => True) (fun v t => va_P (dC, dI) vwCl [(a, .inl (cX, n, .inr (.inl (filL f n y9))))] t.heap ∧ va_K (dC, dI) vwCl [(cX, .long)] t ∧ va_D (va_A [(a, .inl (cX, n, .inr (.inl f)))] sz) [(a, .inl (cX, n, .inr (.inl (filL f n y9))))]) (va_A [(a, .inl (cX, n, .inr (.inl f)))] sz)) 0 0 (va_A [(a, .inl (cX, n, .inr (.inl f)))] sz) := by
  refine Met.ofW (cc := cJ7_fill_d0a16) (maxL := 5) (ret := none) (by decide) rfl ?_
  intro p e s m args below meth c s₁ B hml hv
  obtain ⟨rfl, hsz, hP, hK, hD0⟩ := hv
  have hx := B.exec
  have hb := B.bytes
  have hr := B.returns
  have hts := atoms_spec (ws := wsJ7_fill_d0a16) B.pre
  have hown : s.vm.findClass RJ7 = some m.cls := findClass_of_methodNamed B.named
  subst hsz
  have hD := hD0.self (sz := s.heap.size)
  clear hD0
  generalize hAe : va_A [(a, .inl (cX, n, .inr (.inl f)))] s.heap.size = A at hD ⊢
  have hA : ∀ q : Nat, s.heap.size ≤ q → A q := fun q h => by rw [← hAe]; exact Or.inr h
  have hl := lv_entry ([.ref a, .long y9]) (n := 5) (Nat.le_of_ble_eq_true rfl)
  rw [lg_entry_eq]
  generalize (lg_sl ([.ref a, .long y9]) ++ List.replicate (5 - (lg_sl ([.ref a, .long y9])).length) Slot.unset).toArray = ls at hl ⊢
  have hl : lv_has ls 5 [(0, .ref a), (1, .long y9)] := hl
  have hP : va_P (dC, dI) vwCl [(a, .inl (cX, n, .inr (.inl f)))] s.heap := hP
  obtain ⟨H, hH⟩ : ∃ H, H = s.heap := ⟨_, rfl⟩
  have hS : va_S A s.heap H [] := by rw [hH]; exact va_S.rf
  rw [← hH] at hP ⊢
  refine lv_iconst (v := nI 0) hx hb dJ7_fill_d0a16_0 (by decide) ?_
  refine lv_istore_n (lv' := [(3, .int (nI 0)), (0, .ref a), (1, .long y9)]) hx hb dJ7_fill_d0a16_1 rfl hl (by decide) rfl (fun ls hl => ?_)
  refine lv_aload_n hx hb dJ7_fill_d0a16_2 rfl (lv_at hl 1 rfl) ?_
  refine va_alen (v := nI n) hx hb hK hP 0 0 rfl rfl rfl dJ7_fill_d0a16_3 ?_
  refine lv_istore (lv' := [(4, .int (nI n)), (3, .int (nI 0)), (0, .ref a), (1, .long y9)]) hx hb dJ7_fill_d0a16_4 hl (by decide) rfl (fun ls hl => ?_)
  have loop : ∀ (d k : Nat) (H : Heap) (locs : List Loc) (ls : Array Slot), k + d = n → va_P (dC, dI) vwCl [(a, .inl (cX, n, .inr (.inl (filL f k y9))))] H → va_D A [(a, .inl (cX, n, .inr (.inl (filL f k y9))))] → va_S A s.heap H locs → lv_has ls 5 [(3, .int (nI k)), (4, .int (nI n)), (0, .ref a), (1, .long y9)] → W p l e (headSpec wsJ7_fill_d0a16 ({ frames := 0, cells := 0, slots := 0, locals := 0 })).room s m #[.ref a, .long y9] below meth c H locs 0 0 (MQ below (va_Qv (fun v : Unit => True) (fun v t => va_P (dC, dI) vwCl [(a, .inl (cX, n, .inr (.inl (filL f n y9))))] t.heap ∧ va_K (dC, dI) vwCl [(cX, .long)] t ∧ va_D A [(a, .inl (cX, n, .inr (.inl (filL f n y9))))]) A) #[.ref a, .long y9] s 0 0 A) (F0 m 6 ls []) := by
    clear hP hD hS hl
    intro d
    induction d with
    | zero =>
      intro k H locs ls hk hP hD hS hl
      refine lv_iload_n hx hb dJ7_fill_d0a16_6 rfl (lv_at hl 0 rfl) ?_
      refine lv_iload hx hb dJ7_fill_d0a16_7 (lv_at hl 1 rfl) ?_
      refine lv_icmp_ge (tgt := 22) hx hb dJ7_fill_d0a16_9 (by decide) (fun c1 => ?_) (fun c1 => ?_)
      · obtain rfl : k = n := by omega
        exact W.vret hx hb hr (fun t ht hW => ⟨⟨(), rfl, trivial, by rw [ht]; exact hP, va_K.moved hW.alike hK, hD⟩, hS.F ht⟩) hS.2.2 dJ7_fill_d0a16_22
      · exact absurd (nI_le (by omega) (by omega)) c1
    | succ d ih =>
      intro k H locs ls hk hP hD hS hl
      refine lv_iload_n hx hb dJ7_fill_d0a16_6 rfl (lv_at hl 0 rfl) ?_
      refine lv_iload hx hb dJ7_fill_d0a16_7 (lv_at hl 1 rfl) ?_
      refine lv_icmp_ge (tgt := 22) hx hb dJ7_fill_d0a16_9 (by decide) (fun c1 => ?_) (fun c1 => ?_)
      · exact absurd c1 (nI_ge (by omega) (by omega))
      · refine lv_aload_n hx hb dJ7_fill_d0a16_12 rfl (lv_at hl 2 rfl) ?_
        refine lv_iload_n hx hb dJ7_fill_d0a16_13 rfl (lv_at hl 0 rfl) ?_
        refine lv_lload_n hx hb dJ7_fill_d0a16_14 rfl (lv_at hl 3 rfl) ?_
        refine na_last hx hb hK hP hD hS 0 0 rfl rfl (show k < n by omega) hn dJ7_fill_d0a16_15 (fun H locs hP hD hS => ?_)
        rw [filL_s] at hP hD
        have hP : va_P (dC, dI) vwCl [(a, .inl (cX, n, .inr (.inl (filL f (k + 1) y9))))] H := hP
        have hD : va_D A [(a, .inl (cX, n, .inr (.inl (filL f (k + 1) y9))))] := hD
        refine lv_iinc (v := nI (k + 1)) (lv' := [(3, .int (nI (k + 1))), (4, .int (nI n)), (0, .ref a), (1, .long y9)]) hx hb dJ7_fill_d0a16_16 hl (k := 0) rfl (nI_1 _) (by decide) rfl (fun ls hl => ?_)
        refine lv_goto (tgt := 6) hx hb dJ7_fill_d0a16_19 (by decide) ?_
        exact ih (k + 1) H _ ls (by omega) hP hD hS (lv_sub hl [0, 1, 2, 3] rfl)
  exact loop n 0 H [] ls (by omega) (by rw [filL_0]; exact hP) (by rw [filL_0]; exact hD) hS (lv_sub hl [1, 0, 2, 3] rfl)
set_option maxHeartbeats 1000000 in
set_option maxRecDepth 100000 in
/-- Arrays.fill -/
theorem c_J7_fillI (l : Launch) (dC : Nat → ClassId) (dI : Nat → Nat → Nat) (sz : Nat) (cX : ClassId) (a n : Nat) (f : Nat → Int32) (y9 : Int32) (hn : n < 2 ^ 31) : Met l yJ7_fill_53178 wsJ7_fill_53178 ({ frames := 0, cells := 0, slots := 0, locals := 0 }) (va_Pc [.ref a, .int y9] (fun U => U.heap.size = sz ∧ va_P (dC, dI) vwCl [(a, .inl (cX, n, .inl f))] U.heap ∧ va_K (dC, dI) vwCl [(cX, .int)] U ∧ va_D (fun _ => True) [(a, .inl (cX, n, .inl f))])) (va_Qv (fun v : Unit => True) (fun v t => va_P (dC, dI) vwCl [(a, .inl (cX, n, .inl (filI f n y9)))] t.heap ∧ va_K (dC, dI) vwCl [(cX, .int)] t ∧ va_D (va_A [(a, .inl (cX, n, .inl f))] sz) [(a, .inl (cX, n, .inl (filI f n y9)))]) (va_A [(a, .inl (cX, n, .inl f))] sz)) 0 0 (va_A [(a, .inl (cX, n, .inl f))] sz) := by
  refine Met.ofW (cc := cJ7_fill_53178) (maxL := 4) (ret := none) (by decide) rfl ?_
  intro p e s m args below meth c s₁ B hml hv
  obtain ⟨rfl, hsz, hP, hK, hD0⟩ := hv
  have hx := B.exec
  have hb := B.bytes
  have hr := B.returns
  have hts := atoms_spec (ws := wsJ7_fill_53178) B.pre
  have hown : s.vm.findClass RJ7 = some m.cls := findClass_of_methodNamed B.named
  subst hsz
  have hD := hD0.self (sz := s.heap.size)
  clear hD0
  generalize hAe : va_A [(a, .inl (cX, n, .inl f))] s.heap.size = A at hD ⊢
  have hA : ∀ q : Nat, s.heap.size ≤ q → A q := fun q h => by rw [← hAe]; exact Or.inr h
  have hl := lv_entry ([.ref a, .int y9]) (n := 4) (Nat.le_of_ble_eq_true rfl)
  rw [lg_entry_eq]
  generalize (lg_sl ([.ref a, .int y9]) ++ List.replicate (4 - (lg_sl ([.ref a, .int y9])).length) Slot.unset).toArray = ls at hl ⊢
  have hl : lv_has ls 4 [(0, .ref a), (1, .int y9)] := hl
  have hP : va_P (dC, dI) vwCl [(a, .inl (cX, n, .inl f))] s.heap := hP
  obtain ⟨H, hH⟩ : ∃ H, H = s.heap := ⟨_, rfl⟩
  have hS : va_S A s.heap H [] := by rw [hH]; exact va_S.rf
  rw [← hH] at hP ⊢
  refine lv_iconst (v := nI 0) hx hb dJ7_fill_53178_0 (by decide) ?_
  refine lv_istore_n (lv' := [(2, .int (nI 0)), (0, .ref a), (1, .int y9)]) hx hb dJ7_fill_53178_1 rfl hl (by decide) rfl (fun ls hl => ?_)
  refine lv_aload_n hx hb dJ7_fill_53178_2 rfl (lv_at hl 1 rfl) ?_
  refine va_alen (v := nI n) hx hb hK hP 0 0 rfl rfl rfl dJ7_fill_53178_3 ?_
  refine lv_istore_n (lv' := [(3, .int (nI n)), (2, .int (nI 0)), (0, .ref a), (1, .int y9)]) hx hb dJ7_fill_53178_4 rfl hl (by decide) rfl (fun ls hl => ?_)
  have loop : ∀ (d k : Nat) (H : Heap) (locs : List Loc) (ls : Array Slot), k + d = n → va_P (dC, dI) vwCl [(a, .inl (cX, n, .inl (filI f k y9)))] H → va_D A [(a, .inl (cX, n, .inl (filI f k y9)))] → va_S A s.heap H locs → lv_has ls 4 [(2, .int (nI k)), (3, .int (nI n)), (0, .ref a), (1, .int y9)] → W p l e (headSpec wsJ7_fill_53178 ({ frames := 0, cells := 0, slots := 0, locals := 0 })).room s m #[.ref a, .int y9] below meth c H locs 0 0 (MQ below (va_Qv (fun v : Unit => True) (fun v t => va_P (dC, dI) vwCl [(a, .inl (cX, n, .inl (filI f n y9)))] t.heap ∧ va_K (dC, dI) vwCl [(cX, .int)] t ∧ va_D A [(a, .inl (cX, n, .inl (filI f n y9)))]) A) #[.ref a, .int y9] s 0 0 A) (F0 m 5 ls []) := by
    clear hP hD hS hl
    intro d
    induction d with
    | zero =>
      intro k H locs ls hk hP hD hS hl
      refine lv_iload_n hx hb dJ7_fill_53178_5 rfl (lv_at hl 0 rfl) ?_
      refine lv_iload_n hx hb dJ7_fill_53178_6 rfl (lv_at hl 1 rfl) ?_
      refine lv_icmp_ge (tgt := 20) hx hb dJ7_fill_53178_7 (by decide) (fun c1 => ?_) (fun c1 => ?_)
      · obtain rfl : k = n := by omega
        exact W.vret hx hb hr (fun t ht hW => ⟨⟨(), rfl, trivial, by rw [ht]; exact hP, va_K.moved hW.alike hK, hD⟩, hS.F ht⟩) hS.2.2 dJ7_fill_53178_20
      · exact absurd (nI_le (by omega) (by omega)) c1
    | succ d ih =>
      intro k H locs ls hk hP hD hS hl
      refine lv_iload_n hx hb dJ7_fill_53178_5 rfl (lv_at hl 0 rfl) ?_
      refine lv_iload_n hx hb dJ7_fill_53178_6 rfl (lv_at hl 1 rfl) ?_
      refine lv_icmp_ge (tgt := 20) hx hb dJ7_fill_53178_7 (by decide) (fun c1 => ?_) (fun c1 => ?_)
      · exact absurd c1 (nI_ge (by omega) (by omega))
      · refine lv_aload_n hx hb dJ7_fill_53178_10 rfl (lv_at hl 2 rfl) ?_
        refine lv_iload_n hx hb dJ7_fill_53178_11 rfl (lv_at hl 0 rfl) ?_
        refine lv_iload_n hx hb dJ7_fill_53178_12 rfl (lv_at hl 3 rfl) ?_
        refine na_iast hx hb hK hP hD hS 0 0 rfl rfl (show k < n by omega) hn dJ7_fill_53178_13 (fun H locs hP hD hS => ?_)
        rw [filI_s] at hP hD
        have hP : va_P (dC, dI) vwCl [(a, .inl (cX, n, .inl (filI f (k + 1) y9)))] H := hP
        have hD : va_D A [(a, .inl (cX, n, .inl (filI f (k + 1) y9)))] := hD
        refine lv_iinc (v := nI (k + 1)) (lv' := [(2, .int (nI (k + 1))), (3, .int (nI n)), (0, .ref a), (1, .int y9)]) hx hb dJ7_fill_53178_14 hl (k := 0) rfl (nI_1 _) (by decide) rfl (fun ls hl => ?_)
        refine lv_goto (tgt := 5) hx hb dJ7_fill_53178_17 (by decide) ?_
        exact ih (k + 1) H _ ls (by omega) hP hD hS (lv_sub hl [0, 1, 2, 3] rfl)
  exact loop n 0 H [] ls (by omega) (by rw [filI_0]; exact hP) (by rw [filI_0]; exact hD) hS (lv_sub hl [1, 0, 2, 3] rfl)
/-- the rows before k are zeros -/
def clF (M : Nat → Nat → Int64) (k : Nat) : Nat → Nat → Int64 := fun i j => if i < k ∧ j < 17 then 0 else M i j
theorem clF_0 (M : Nat → Nat → Int64) : clF M 0 = M := by funext i j; simp [clF]
theorem clF_s (M : Nat → Nat → Int64) (k : Nat) : fup (clF M k) k (filL (clF M k k) 17 0) = clF M (k + 1) := by
  funext i j
  unfold fup filL clF
  by_cases e : i = k
  · subst e
    by_cases h : j < 17
    · simp [h]
    · simp [h]
  · by_cases h : i < k
    · simp [e, h, show i < k + 1 by omega]
    · simp [e, h, show ¬ i < k + 1 by omega]
theorem wgW_row {h0 qc qh : Nat} {r : Nat → Nat} {cA cI cJ : ClassId} {m n : Nat} {u : Int64} {tw : Int32} {iv : Int64} {hd : Nat → Int32} {M : Nat → Nat → Int64} {i : Nat} (hi : i < 10) (f : Nat → Int64) : (wgW h0 qc qh r cA cI cJ m n u tw iv hd M).set (3 + i) (r i, .inl (cJ, 17, .inr (.inl f))) = wgW h0 qc qh r cA cI cJ m n u tw iv hd (fup M i f) := by
  refine (gG_set (k := 3 + i) hi rfl _).trans ?_
  refine congrArg (fun g => _ ++ (List.range 10).map g) ?_
  funext k
  by_cases e : k = i
  · subst e; simp [fup]
  · simp [fup, e]
set_option maxHeartbeats 1000000 in
set_option maxRecDepth 100000 in
/-- clear(a, b) -/
theorem c_X0_clear (l : Launch) (dC : Nat → ClassId) (dI : Nat → Nat → Nat) (h0 qc qh : Nat) (r : Nat → Nat) (cA cI cJ : ClassId) (sz : Nat) (me nw : Nat) (u : Int64) (tw : Int32) (iv : Int64) (hd : Nat → Int32) (M : Nat → Nat → Int64) (a b : Nat) (ha : a ≤ 9) (hb9 : b ≤ 16) : Met l yX0_clear wsX0_clear ({ frames := 2, cells := 0, slots := 0, locals := 48 }) (va_Pc [.ref h0, .int (nI a), .int (nI b)] (fun U => U.heap.size = sz ∧ va_P (dC, dI) vwCl (wgW h0 qc qh r cA cI cJ me nw u tw iv hd M) U.heap ∧ va_K (dC, dI) vwCl (wgT cA cI cJ) U ∧ va_D (fun _ => True) (wgW h0 qc qh r cA cI cJ me nw u tw iv hd M))) (va_Qv (fun v : Unit => True) (fun v t => va_P (dC, dI) vwCl (wgW h0 qc qh r cA cI cJ a b 1 (bcF ((1 &&& -1) - 1)) (nwF (sr 1 (bcF ((1 &&& -1) - 1))) 5) (filI hd 9 (-1)) (clF M (a + 1))) t.heap ∧ va_K (dC, dI) vwCl (wgT cA cI cJ) t ∧ va_D (va_A (wgW h0 qc qh r cA cI cJ me nw u tw iv hd M) sz) (wgW h0 qc qh r cA cI cJ a b 1 (bcF ((1 &&& -1) - 1)) (nwF (sr 1 (bcF ((1 &&& -1) - 1))) 5) (filI hd 9 (-1)) (clF M (a + 1)))) (va_A (wgW h0 qc qh r cA cI cJ me nw u tw iv hd M) sz)) 0 0 (va_A (wgW h0 qc qh r cA cI cJ me nw u tw iv hd M) sz) := by
  refine Met.ofW (cc := cX0_clear) (maxL := 4) (ret := none) (by decide) rfl ?_
  intro p e s m args below meth c s₁ B hml hv
  obtain ⟨rfl, hsz, hP, hK, hD0⟩ := hv
  have hx := B.exec
  have hb := B.bytes
  have hr := B.returns
  have hts := atoms_spec (ws := wsX0_clear) B.pre
  have hown : s.vm.findClass RX0 = some m.cls := findClass_of_methodNamed B.named
  subst hsz
  have hD := hD0.self (sz := s.heap.size)
  clear hD0
  generalize hAe : va_A (wgW h0 qc qh r cA cI cJ me nw u tw iv hd M) s.heap.size = A at hD ⊢
  have hA : ∀ q : Nat, s.heap.size ≤ q → A q := fun q h => by rw [← hAe]; exact Or.inr h
  have hl := lv_entry ([.ref h0, .int (nI a), .int (nI b)]) (n := 4) (Nat.le_of_ble_eq_true rfl)
  rw [lg_entry_eq]
  generalize (lg_sl ([.ref h0, .int (nI a), .int (nI b)]) ++ List.replicate (4 - (lg_sl ([.ref h0, .int (nI a), .int (nI b)])).length) Slot.unset).toArray = ls at hl ⊢
  have hl : lv_has ls 4 [(0, .ref h0), (1, .int (nI a)), (2, .int (nI b))] := hl
  have hP : va_P (dC, dI) vwCl (wgW h0 qc qh r cA cI cJ me nw u tw iv hd M) s.heap := hP
  obtain ⟨H, hH⟩ : ∃ H, H = s.heap := ⟨_, rfl⟩
  have hS : va_S A s.heap H [] := by rw [hH]; exact va_S.rf
  rw [← hH] at hP ⊢
  refine lv_aload_n hx hb dX0_clear_0 rfl (lv_at hl 0 rfl) ?_
  refine lv_iload_n hx hb dX0_clear_1 rfl (lv_at hl 1 rfl) ?_
  refine lv_bipush (v := nI 9) hx hb dX0_clear_2 (by decide) ?_
  refine va_mmin (R := (headSpec wsX0_clear ({ frames := 2, cells := 0, slots := 0, locals := 48 })).room) hx hb (hml.trans hl.1.symm) hown (hts (.methodLink RX0 37 Lib.Math.min.name) (List.mem_of_getElem? (i := 1) rfl)) (hts (.static Lib.Math.min.name) (List.mem_of_getElem? (i := 2) rfl)) (hts (.initialized "java/lang/Math") (List.mem_of_getElem? (i := 3) rfl)) (hts (.code Lib.Math.min.name Lib.Math.min.code 2 (some .int)) (List.mem_of_getElem? (i := 4) rfl)) (Nat.le_of_ble_eq_true rfl) (Nat.le_of_ble_eq_true rfl) (Nat.zero_le _) (Nat.zero_le _) dX0_clear_4 ?_
  rw [if_neg (nI_nlt (show a ≤ 9 by omega) (by omega))]
  refine va_put (D := (dC, dI)) (ci := 0) (v := .int (nI a)) (ty := .int) (C := RX0) (T := TX0) (N := 7) hx hb hts (fun _ h => List.mem_cons_of_mem _ (List.mem_append_right _ h)) tyX0 tyX0_ok nmX0 hown hK hP hD hS 0 rfl rfl 2 (by decide) (hts (.fieldLink RX0 20 "RankFinder$Weighing" "equations" "I") (List.mem_of_getElem? (i := 5) rfl)) (fun _ h9 => h9) rfl (by decide +kernel) rfl rfl (Nat.le_of_ble_eq_true rfl) dX0_clear_7 (fun H locs hP hD hS => ?_)
  have hP : va_P (dC, dI) vwCl (wgW h0 qc qh r cA cI cJ a nw u tw iv hd M) H := hP
  have hD : va_D A (wgW h0 qc qh r cA cI cJ a nw u tw iv hd M) := hD
  refine lv_aload_n hx hb dX0_clear_10 rfl (lv_at hl 0 rfl) ?_
  refine lv_iload_n hx hb dX0_clear_11 rfl (lv_at hl 2 rfl) ?_
  refine lv_bipush (v := nI 16) hx hb dX0_clear_12 (by decide) ?_
  refine va_mmin (R := (headSpec wsX0_clear ({ frames := 2, cells := 0, slots := 0, locals := 48 })).room) hx hb (hml.trans hl.1.symm) hown (hts (.methodLink RX0 37 Lib.Math.min.name) (List.mem_of_getElem? (i := 1) rfl)) (hts (.static Lib.Math.min.name) (List.mem_of_getElem? (i := 2) rfl)) (hts (.initialized "java/lang/Math") (List.mem_of_getElem? (i := 3) rfl)) (hts (.code Lib.Math.min.name Lib.Math.min.code 2 (some .int)) (List.mem_of_getElem? (i := 4) rfl)) (Nat.le_of_ble_eq_true rfl) (Nat.le_of_ble_eq_true rfl) (Nat.zero_le _) (Nat.zero_le _) dX0_clear_14 ?_
  rw [if_neg (nI_nlt (show b ≤ 16 by omega) (by omega))]
  refine va_put (D := (dC, dI)) (ci := 0) (v := .int (nI b)) (ty := .int) (C := RX0) (T := TX0) (N := 7) hx hb hts (fun _ h => List.mem_cons_of_mem _ (List.mem_append_right _ h)) tyX0 tyX0_ok nmX0 hown hK hP hD hS 0 rfl rfl 3 (by decide) (hts (.fieldLink RX0 24 "RankFinder$Weighing" "weights" "I") (List.mem_of_getElem? (i := 6) rfl)) (fun _ h9 => h9) rfl (by decide +kernel) rfl rfl (Nat.le_of_ble_eq_true rfl) dX0_clear_17 (fun H locs hP hD hS => ?_)
  have hP : va_P (dC, dI) vwCl (wgW h0 qc qh r cA cI cJ a b u tw iv hd M) H := hP
  have hD : va_D A (wgW h0 qc qh r cA cI cJ a b u tw iv hd M) := hD
  refine lv_iconst (v := nI 0) hx hb dX0_clear_20 (by decide) ?_
  refine lv_istore_n (lv' := [(3, .int (nI 0)), (0, .ref h0), (1, .int (nI a)), (2, .int (nI b))]) hx hb dX0_clear_21 rfl hl (by decide) rfl (fun ls hl => ?_)
  have loop : ∀ (d k : Nat) (H : Heap) (locs : List Loc) (ls : Array Slot), k + d = a + 1 → va_P (dC, dI) vwCl (wgW h0 qc qh r cA cI cJ a b u tw iv hd (clF M k)) H → va_K (dC, dI) vwCl (wgT cA cI cJ) s → va_D A (wgW h0 qc qh r cA cI cJ a b u tw iv hd (clF M k)) → va_S A s.heap H locs → lv_has ls 4 [(3, .int (nI k)), (0, .ref h0), (1, .int (nI a)), (2, .int (nI b))] → W p l e (headSpec wsX0_clear ({ frames := 2, cells := 0, slots := 0, locals := 48 })).room s m #[.ref h0, .int (nI a), .int (nI b)] below meth c H locs 0 0 (MQ below (va_Qv (fun v : Unit => True) (fun v t => va_P (dC, dI) vwCl (wgW h0 qc qh r cA cI cJ a b 1 (bcF ((1 &&& -1) - 1)) (nwF (sr 1 (bcF ((1 &&& -1) - 1))) 5) (filI hd 9 (-1)) (clF M (a + 1))) t.heap ∧ va_K (dC, dI) vwCl (wgT cA cI cJ) t ∧ va_D A (wgW h0 qc qh r cA cI cJ a b 1 (bcF ((1 &&& -1) - 1)) (nwF (sr 1 (bcF ((1 &&& -1) - 1))) 5) (filI hd 9 (-1)) (clF M (a + 1)))) A) #[.ref h0, .int (nI a), .int (nI b)] s 0 0 A) (F0 m 22 ls []) := by
    clear hP hK hD hS hl
    intro d
    induction d with
    | zero =>
      intro k H locs ls hk hP hK hD hS hl
      refine lv_iload_n hx hb dX0_clear_22 rfl (lv_at hl 0 rfl) ?_
      refine lv_aload_n hx hb dX0_clear_23 rfl (lv_at hl 1 rfl) ?_
      refine va_get (D := (dC, dI)) (ci := 0) (v := .int (nI a)) (C := RX0) (T := TX0) (N := 7) hx hb hts (fun _ h => List.mem_cons_of_mem _ (List.mem_append_right _ h)) hown hK hP 0 rfl rfl 2 (by decide) (hts (.fieldLink RX0 20 "RankFinder$Weighing" "equations" "I") (List.mem_of_getElem? (i := 5) rfl)) (fun _ h9 => h9) rfl dX0_clear_24 ?_
      refine lv_icmp_gt (tgt := 46) hx hb dX0_clear_27 (by decide) (fun c1 => ?_) (fun c1 => ?_)
      · obtain rfl : k = a + 1 := by omega
        refine lv_aload_n hx hb dX0_clear_46 rfl (lv_at hl 1 rfl) ?_
        refine va_get (D := (dC, dI)) (ci := 0) (v := .ref qh) (C := RX0) (T := TX0) (N := 7) hx hb hts (fun _ h => List.mem_cons_of_mem _ (List.mem_append_right _ h)) hown hK hP 0 rfl rfl 1 (by decide) (hts (.fieldLink RX0 16 "RankFinder$Weighing" "held" "[I") (List.mem_of_getElem? (i := 8) rfl)) (fun _ h9 => h9) rfl dX0_clear_47 ?_
        refine lv_iconst (v := (-1)) hx hb dX0_clear_50 (by decide) ?_
        have hk9 : (wgW h0 qc qh r cA cI cJ a b u tw iv hd (clF M (a + 1)))[2]? = some (qh, .inl (cI, 9, .inl hd)) := rfl
        have hFc := va_oneA hD hk9 hS hA
        refine va_callv (va_runS (As := [.ref qh, .int (-1)]) (rest := []) ⟨hx, hb, hml, hown, hts⟩ (c_J7_fillI l dC dI H.size cI qh 9 hd (-1) (by omega)) (va_cwS 2 hts gX0_clear_J7_fill_53178 rfl rfl rfl (by decide +kernel) ⟨Nat.le_of_ble_eq_true rfl, Nat.le_of_ble_eq_true rfl⟩) ⟨fun a U g mk q => by obtain ⟨q0, q1, qP, qK, qD⟩ := q; exact ⟨q0, q1, qP, va_K.moved (u := U) (U := U.calling g mk a) (Vm.Alike.refl U.vm) qK, qD⟩, fun U hU hW => ⟨rfl, by rw [hU], by rw [hU]; exact va_oneP hP hk9, va_K.moved hW.alike (hK.sub [1] rfl), va_oneD trivial⟩⟩ rfl rfl hl.1 rfl (lv_room (Nat.le_of_ble_eq_true rfl)) dX0_clear_51 ⟨(Nat.zero_le _), (Nat.zero_le _)⟩) hS (fun q _ h => hFc q h) hFc (fun v9 t H1 locs ht hvm hw hB hz1 hk1 hS => ?_)
        obtain ⟨hP1, hK1, hD1⟩ := hB
        rw [ht] at hP1
        obtain ⟨hP, hD⟩ := jn_at hP hD hk9 hk1 hP1
        clear hP1 hD1 hK1 hFc hk1 hz1 ht hvm hk9
        generalize H1 = H at hP hS ⊢
        have hP : va_P (dC, dI) vwCl (wgW h0 qc qh r cA cI cJ a b u tw iv (filI hd 9 (-1)) (clF M (a + 1))) H := hP
        have hD : va_D A (wgW h0 qc qh r cA cI cJ a b u tw iv (filI hd 9 (-1)) (clF M (a + 1))) := hD
        refine lv_aload_n hx hb dX0_clear_54 rfl (lv_at hl 1 rfl) ?_
        refine lv_lconst (v := 1) hx hb dX0_clear_55 (by decide) ?_
        have hFc : ∀ q, va_A (wgW h0 qc qh r cA cI cJ a b u tw iv (filI hd 9 (-1)) (clF M (a + 1))) H.size q → A q := va_fall hD hS hA
        refine va_callv (va_runV (As := [.long 1]) (rest := []) ⟨hx, hb, hml, hown, hts⟩ (c_X0_takeUnit l dC dI h0 qc qh r cA cI cJ H.size a b u tw iv (filI hd 9 (-1)) (clF M (a + 1)) 1) (cwV 1 hts gX0_clear_X0_takeUnit rfl rfl rfl (by decide +kernel) ⟨Nat.le_of_ble_eq_true rfl, Nat.le_of_ble_eq_true rfl⟩) ⟨fun a U g mk q => by obtain ⟨q0, q1, qP, qK, qD⟩ := q; exact ⟨q0, q1, qP, va_K.moved (u := U) (U := U.calling g mk a) (Vm.Alike.refl U.vm) qK, qD⟩, va_recv hK hP (ci := 0) (q0 := 0) rfl rfl, fun U hU hW => ⟨rfl, by rw [hU], by rw [hU]; exact hP, va_K.moved hW.alike hK, hD.weaken (fun _ _ _ _ => trivial)⟩⟩ rfl rfl hl.1 rfl (lv_room (Nat.le_of_ble_eq_true rfl)) dX0_clear_56 ⟨(Nat.zero_le _), (Nat.zero_le _)⟩) hS (fun q _ h => hFc q h) hFc (fun v9 t H1 locs ht hvm hw hB hz1 hk1 hS => ?_)
        obtain ⟨hP1, hK1, hD1⟩ := hB
        rw [ht] at hP1
        clear hP hD hK
        have hK := va_K.moved hvm.symm hK1
        have hP := hP1
        have hD := hD1.weaken (B := A) (fun _ q _ h => hFc q.1 h)
        clear hP1 hD1 hK1 hFc hk1 hz1 ht hvm
        generalize H1 = H at hP hS ⊢
        exact W.vret hx hb hr (fun t ht hW => ⟨⟨(), rfl, trivial, by rw [ht]; exact hP, va_K.moved hW.alike hK, hD⟩, hS.F ht⟩) hS.2.2 dX0_clear_59
      · exact absurd (nI_lt (by omega) (by omega)) c1
    | succ d ih =>
      intro k H locs ls hk hP hK hD hS hl
      refine lv_iload_n hx hb dX0_clear_22 rfl (lv_at hl 0 rfl) ?_
      refine lv_aload_n hx hb dX0_clear_23 rfl (lv_at hl 1 rfl) ?_
      refine va_get (D := (dC, dI)) (ci := 0) (v := .int (nI a)) (C := RX0) (T := TX0) (N := 7) hx hb hts (fun _ h => List.mem_cons_of_mem _ (List.mem_append_right _ h)) hown hK hP 0 rfl rfl 2 (by decide) (hts (.fieldLink RX0 20 "RankFinder$Weighing" "equations" "I") (List.mem_of_getElem? (i := 5) rfl)) (fun _ h9 => h9) rfl dX0_clear_24 ?_
      refine lv_icmp_gt (tgt := 46) hx hb dX0_clear_27 (by decide) (fun c1 => ?_) (fun c1 => ?_)
      · exact absurd c1 (nI_nlt (by omega) (by omega))
      · refine lv_aload_n hx hb dX0_clear_30 rfl (lv_at hl 1 rfl) ?_
        refine va_get (D := (dC, dI)) (ci := 0) (v := .ref qc) (C := RX0) (T := TX0) (N := 7) hx hb hts (fun _ h => List.mem_cons_of_mem _ (List.mem_append_right _ h)) hown hK hP 0 rfl rfl 0 (by decide) (hts (.fieldLink RX0 13 "RankFinder$Weighing" "cell" "[[J") (List.mem_of_getElem? (i := 7) rfl)) (fun _ h9 => h9) rfl dX0_clear_31 ?_
        refine lv_iload_n hx hb dX0_clear_34 rfl (lv_at hl 0 rfl) ?_
        refine na_aald (y := r k) hx hb hK hP 1 0 rfl rfl (show k < 10 by omega) (by decide) (if_pos (show k < 10 by omega)) dX0_clear_35 ?_
        refine lv_lconst (v := 0) hx hb dX0_clear_36 (by decide) ?_
        have hk9 : (wgW h0 qc qh r cA cI cJ a b u tw iv hd (clF M k))[3 + k]? = some ((r k), .inl (cJ, 17, .inr (.inl (clF M k k)))) := gG_get (show k < 10 by omega) rfl
        have hFc := va_oneA hD hk9 hS hA
        refine va_callv (va_runS (As := [.ref (r k), .long 0]) (rest := []) ⟨hx, hb, hml, hown, hts⟩ (c_J7_fillL l dC dI H.size cJ (r k) 17 (clF M k k) 0 (by omega)) (va_cwS 2 hts gX0_clear_J7_fill_d0a16 rfl rfl rfl (by decide +kernel) ⟨Nat.le_of_ble_eq_true rfl, Nat.le_of_ble_eq_true rfl⟩) ⟨fun a U g mk q => by obtain ⟨q0, q1, qP, qK, qD⟩ := q; exact ⟨q0, q1, qP, va_K.moved (u := U) (U := U.calling g mk a) (Vm.Alike.refl U.vm) qK, qD⟩, fun U hU hW => ⟨rfl, by rw [hU], by rw [hU]; exact va_oneP hP hk9, va_K.moved hW.alike (hK.sub [2] rfl), va_oneD trivial⟩⟩ rfl rfl hl.1 rfl (lv_room (Nat.le_of_ble_eq_true rfl)) dX0_clear_37 ⟨(Nat.zero_le _), (Nat.zero_le _)⟩) hS (fun q _ h => hFc q h) hFc (fun v9 t H1 locs ht hvm hw hB hz1 hk1 hS => ?_)
        obtain ⟨hP1, hK1, hD1⟩ := hB
        rw [ht] at hP1
        obtain ⟨hP, hD⟩ := jn_at hP hD hk9 hk1 hP1
        clear hP1 hD1 hK1 hFc hk1 hz1 ht hvm hk9
        generalize H1 = H at hP hS ⊢
        rw [wgW_row (show k < 10 by omega), clF_s] at hP hD
        have hP : va_P (dC, dI) vwCl (wgW h0 qc qh r cA cI cJ a b u tw iv hd (clF M (k + 1))) H := hP
        have hD : va_D A (wgW h0 qc qh r cA cI cJ a b u tw iv hd (clF M (k + 1))) := hD
        refine lv_iinc (v := nI (k + 1)) (lv' := [(3, .int (nI (k + 1))), (0, .ref h0), (1, .int (nI a)), (2, .int (nI b))]) hx hb dX0_clear_40 hl (k := 0) rfl (nI_1 _) (by decide) rfl (fun ls hl => ?_)
        refine lv_goto (tgt := 22) hx hb dX0_clear_43 (by decide) ?_
        exact ih (k + 1) H _ ls (by omega) hP hK hD hS (lv_sub hl [0, 1, 2, 3] rfl)
  exact loop (a + 1) 0 H _ ls (by omega) (by rw [clF_0]; exact hP) hK (by rw [clF_0]; exact hD) hS (lv_sub hl [0, 1, 2, 3] rfl)
end
section
/-! ===== RankFinder: its world; the methods that don't weigh ===== -/
abbrev rfX (p0 qt qg h0 : Nat) (rt : Nat → Nat) (cB cI : ClassId) (vn ct : Nat) (ft fb : Int64) (gl : Nat → Int32) (T : Nat → Nat → Int32) : va_W :=
  [(p0, .inr (1, [.ref qt, .ref qg, .ref h0, .int (nI vn), .int (nI ct), .long ft, .long fb])), (qt, .inl (cB, 8, .inr (.inr (.inr (.inr (fun i => if i < 8 then some (rt i) else none)))))), (qg, .inl (cI, 6, .inl gl))] ++ (List.range 8).map (fun i => (rt i, .inl (cI, 7, .inl (T i))))
theorem rf_row {p0 qt qg h0 : Nat} {rt : Nat → Nat} {cB cI : ClassId} {vn ct : Nat} {ft fb : Int64} {gl : Nat → Int32} {T : Nat → Nat → Int32} {Y : va_W} {i : Nat} (hi : i < 8) : (rfX p0 qt qg h0 rt cB cI vn ct ft fb gl T ++ Y)[3 + i]? = some (rt i, .inl (cI, 7, .inl (T i))) := by
  rw [List.getElem?_append_left (by simp; omega)]
  exact gG_get (g := fun i => (rt i, Sum.inl (cI, 7, Sum.inl (T i)))) hi rfl
theorem rf_set {p0 qt qg h0 : Nat} {rt : Nat → Nat} {cB cI : ClassId} {vn ct : Nat} {ft fb : Int64} {gl : Nat → Int32} {T : Nat → Nat → Int32} {Y : va_W} {i : Nat} (hi : i < 8) {f : Nat → Int32} : (rfX p0 qt qg h0 rt cB cI vn ct ft fb gl T ++ Y).set (3 + i) (rt i, .inl (cI, 7, .inl f)) = rfX p0 qt qg h0 rt cB cI vn ct ft fb gl (fup T i f) ++ Y := by
  rw [List.set_append_left _ _ (by simp; omega)]
  congr 1
  refine (gG_set (k := 3 + i) hi rfl _).trans ?_
  refine congrArg (fun g => _ ++ (List.range 8).map g) ?_
  funext k
  by_cases e : k = i
  · subst e; simp [fup]
  · simp [fup, e]
/-- a number within its limit -/
def inR (a y : Int32) : Prop := ¬ a < -y ∧ ¬ y < a
set_option maxHeartbeats 1000000 in
set_option maxRecDepth 100000 in
/-- isWithin(a, y) -/
theorem c_X1_isWithin (l : Launch) (dC : Nat → ClassId) (dI : Nat → Nat → Nat) (sz : Nat) (a y : Int32) : Met l yX1_isWithin wsX1_isWithin ({ frames := 0, cells := 0, slots := 0, locals := 0 }) (va_Pc [.int a, .int y] (fun U => U.heap.size = sz ∧ va_P (dC, dI) vwCl ([] : va_W) U.heap ∧ va_K (dC, dI) vwCl [] U ∧ va_D (fun _ => True) ([] : va_W))) (va_Qi (fun (x : Int32) (v : Unit) => (x = 1 ∧ inR a y) ∨ (x = 0 ∧ ¬ inR a y)) (fun v t => va_P (dC, dI) vwCl ([] : va_W) t.heap ∧ va_K (dC, dI) vwCl [] t ∧ va_D (va_A ([] : va_W) sz) ([] : va_W)) (va_A ([] : va_W) sz)) 0 0 (va_A ([] : va_W) sz) := by
  refine Met.ofW (cc := cX1_isWithin) (maxL := 2) (ret := (some .boolean)) (by decide) rfl ?_
  intro p e s m args below meth c s₁ B hml hv
  obtain ⟨rfl, hsz, hP, hK, hD0⟩ := hv
  have hx := B.exec
  have hb := B.bytes
  have hr := B.returns
  have hts := atoms_spec (ws := wsX1_isWithin) B.pre
  have hown : s.vm.findClass RX1 = some m.cls := findClass_of_methodNamed B.named
  subst hsz
  have hD := hD0.self (sz := s.heap.size)
  clear hD0
  generalize hAe : va_A ([] : va_W) s.heap.size = A at hD ⊢
  have hA : ∀ q : Nat, s.heap.size ≤ q → A q := fun q h => by rw [← hAe]; exact Or.inr h
  have hl := lv_entry ([.int a, .int y]) (n := 2) (Nat.le_of_ble_eq_true rfl)
  rw [lg_entry_eq]
  generalize (lg_sl ([.int a, .int y]) ++ List.replicate (2 - (lg_sl ([.int a, .int y])).length) Slot.unset).toArray = ls at hl ⊢
  have hl : lv_has ls 2 [(0, .int a), (1, .int y)] := hl
  have hP : va_P (dC, dI) vwCl ([] : va_W) s.heap := hP
  obtain ⟨H, hH⟩ : ∃ H, H = s.heap := ⟨_, rfl⟩
  have hS : va_S A s.heap H [] := by rw [hH]; exact va_S.rf
  rw [← hH] at hP ⊢
  refine lv_iload_n hx hb dX1_isWithin_0 rfl (lv_at hl 0 rfl) ?_
  refine lv_iload_n hx hb dX1_isWithin_1 rfl (lv_at hl 1 rfl) ?_
  refine lv_ineg hx hb dX1_isWithin_2 ?_
  refine lv_icmp_lt (tgt := 15) hx hb dX1_isWithin_3 (by decide) (fun c1 => ?_) (fun c1 => ?_)
  · refine lv_iconst (v := nI 0) hx hb dX1_isWithin_15 (by decide) ?_
    exact W.zret (v := (nI 0)) hx hb hr (by rfl) (fun t ht hW => ⟨⟨(nI 0), (), rfl, Or.inr ⟨rfl, fun q => q.1 c1⟩, by rw [ht]; exact hP, va_K.moved hW.alike hK, hD⟩, hS.F ht⟩) hS.2.2 dX1_isWithin_16
  · refine lv_iload_n hx hb dX1_isWithin_6 rfl (lv_at hl 0 rfl) ?_
    refine lv_iload_n hx hb dX1_isWithin_7 rfl (lv_at hl 1 rfl) ?_
    refine lv_icmp_gt (tgt := 15) hx hb dX1_isWithin_8 (by decide) (fun c2 => ?_) (fun c2 => ?_)
    · refine lv_iconst (v := nI 0) hx hb dX1_isWithin_15 (by decide) ?_
      exact W.zret (v := (nI 0)) hx hb hr (by rfl) (fun t ht hW => ⟨⟨(nI 0), (), rfl, Or.inr ⟨rfl, fun q => q.2 c2⟩, by rw [ht]; exact hP, va_K.moved hW.alike hK, hD⟩, hS.F ht⟩) hS.2.2 dX1_isWithin_16
    · refine lv_iconst (v := nI 1) hx hb dX1_isWithin_11 (by decide) ?_
      refine lv_goto (tgt := 16) hx hb dX1_isWithin_12 (by decide) ?_
      exact W.zret (v := (nI 1)) hx hb hr (by rfl) (fun t ht hW => ⟨⟨(nI 1), (), rfl, Or.inl ⟨rfl, c1, c2⟩, by rw [ht]; exact hP, va_K.moved hW.alike hK, hD⟩, hS.F ht⟩) hS.2.2 dX1_isWithin_16
set_option maxHeartbeats 1000000 in
set_option maxRecDepth 100000 in
/-- areWithin(a, b, d, y) -/
theorem c_X1_areWithin (l : Launch) (dC : Nat → ClassId) (dI : Nat → Nat → Nat) (sz : Nat) (a b d y : Int32) : Met l yX1_areWithin wsX1_areWithin ({ frames := 1, cells := 0, slots := 0, locals := 21 }) (va_Pc [.int a, .int b, .int d, .int y] (fun U => U.heap.size = sz ∧ va_P (dC, dI) vwCl ([] : va_W) U.heap ∧ va_K (dC, dI) vwCl [] U ∧ va_D (fun _ => True) ([] : va_W))) (va_Qi (fun (x : Int32) (v : Unit) => (x = 1 ∧ inR a y ∧ inR b y ∧ inR d y) ∨ (x = 0 ∧ ¬ (inR a y ∧ inR b y ∧ inR d y))) (fun v t => va_P (dC, dI) vwCl ([] : va_W) t.heap ∧ va_K (dC, dI) vwCl [] t ∧ va_D (va_A ([] : va_W) sz) ([] : va_W)) (va_A ([] : va_W) sz)) 0 0 (va_A ([] : va_W) sz) := by
  refine Met.ofW (cc := cX1_areWithin) (maxL := 4) (ret := (some .boolean)) (by decide) rfl ?_
  intro p e s m args below meth c s₁ B hml hv
  obtain ⟨rfl, hsz, hP, hK, hD0⟩ := hv
  have hx := B.exec
  have hb := B.bytes
  have hr := B.returns
  have hts := atoms_spec (ws := wsX1_areWithin) B.pre
  have hown : s.vm.findClass RX1 = some m.cls := findClass_of_methodNamed B.named
  subst hsz
  have hD := hD0.self (sz := s.heap.size)
  clear hD0
  generalize hAe : va_A ([] : va_W) s.heap.size = A at hD ⊢
  have hA : ∀ q : Nat, s.heap.size ≤ q → A q := fun q h => by rw [← hAe]; exact Or.inr h
  have hl := lv_entry ([.int a, .int b, .int d, .int y]) (n := 4) (Nat.le_of_ble_eq_true rfl)
  rw [lg_entry_eq]
  generalize (lg_sl ([.int a, .int b, .int d, .int y]) ++ List.replicate (4 - (lg_sl ([.int a, .int b, .int d, .int y])).length) Slot.unset).toArray = ls at hl ⊢
  have hl : lv_has ls 4 [(0, .int a), (1, .int b), (2, .int d), (3, .int y)] := hl
  have hP : va_P (dC, dI) vwCl ([] : va_W) s.heap := hP
  obtain ⟨H, hH⟩ : ∃ H, H = s.heap := ⟨_, rfl⟩
  have hS : va_S A s.heap H [] := by rw [hH]; exact va_S.rf
  rw [← hH] at hP ⊢
  refine lv_iload_n hx hb dX1_areWithin_0 rfl (lv_at hl 0 rfl) ?_
  refine lv_iload_n hx hb dX1_areWithin_1 rfl (lv_at hl 3 rfl) ?_
  have hFc : ∀ q, va_A ([] : va_W) H.size q → A q := fun q h => va_nilA hS hA q h
  refine va_calli (va_runS (As := [.int a, .int y]) (rest := []) ⟨hx, hb, hml, hown, hts⟩ (c_X1_isWithin l dC dI H.size a y) (va_cwS 2 hts gX1_areWithin_X1_isWithin rfl rfl rfl (by decide +kernel) ⟨Nat.le_of_ble_eq_true rfl, Nat.le_of_ble_eq_true rfl⟩) ⟨fun a U g mk q => by obtain ⟨q0, q1, qP, qK, qD⟩ := q; exact ⟨q0, q1, qP, va_K.moved (u := U) (U := U.calling g mk a) (Vm.Alike.refl U.vm) qK, qD⟩, fun U hU hW => ⟨rfl, by rw [hU], va_nilP, va_K.moved hW.alike (hK.sub (tys' := []) [] rfl), va_nilD⟩⟩ rfl rfl hl.1 rfl (lv_room (Nat.le_of_ble_eq_true rfl)) dX1_areWithin_2 ⟨(Nat.zero_le _), (Nat.zero_le _)⟩) hS (fun q _ h => hFc q h) hFc (fun r_2 v9 t H1 locs ht hvm hw hB hz1 hk1 hS => ?_)
  have hP := va_keep hP hk1
  clear hB hk1 hz1 ht hvm hFc
  generalize H1 = H at hP hS ⊢
  rcases hw with ⟨rfl, ha⟩ | ⟨rfl, ha⟩
  · refine lv_if_eq (tgt := 28) hx hb dX1_areWithin_5 (by decide) (fun c => absurd c (by decide)) (fun _ => ?_)
    refine lv_iload_n hx hb dX1_areWithin_8 rfl (lv_at hl 1 rfl) ?_
    refine lv_iload_n hx hb dX1_areWithin_9 rfl (lv_at hl 3 rfl) ?_
    have hFc : ∀ q, va_A ([] : va_W) H.size q → A q := fun q h => va_nilA hS hA q h
    refine va_calli (va_runS (As := [.int b, .int y]) (rest := []) ⟨hx, hb, hml, hown, hts⟩ (c_X1_isWithin l dC dI H.size b y) (va_cwS 2 hts gX1_areWithin_X1_isWithin rfl rfl rfl (by decide +kernel) ⟨Nat.le_of_ble_eq_true rfl, Nat.le_of_ble_eq_true rfl⟩) ⟨fun a U g mk q => by obtain ⟨q0, q1, qP, qK, qD⟩ := q; exact ⟨q0, q1, qP, va_K.moved (u := U) (U := U.calling g mk a) (Vm.Alike.refl U.vm) qK, qD⟩, fun U hU hW => ⟨rfl, by rw [hU], va_nilP, va_K.moved hW.alike (hK.sub (tys' := []) [] rfl), va_nilD⟩⟩ rfl rfl hl.1 rfl (lv_room (Nat.le_of_ble_eq_true rfl)) dX1_areWithin_10 ⟨(Nat.zero_le _), (Nat.zero_le _)⟩) hS (fun q _ h => hFc q h) hFc (fun r_10 v9 t H1 locs ht hvm hw hB hz1 hk1 hS => ?_)
    have hP := va_keep hP hk1
    clear hB hk1 hz1 ht hvm hFc
    generalize H1 = H at hP hS ⊢
    rcases hw with ⟨rfl, hq⟩ | ⟨rfl, hq⟩
    · refine lv_if_eq (tgt := 28) hx hb dX1_areWithin_13 (by decide) (fun c => absurd c (by decide)) (fun _ => ?_)
      refine lv_iload_n hx hb dX1_areWithin_16 rfl (lv_at hl 2 rfl) ?_
      refine lv_iload_n hx hb dX1_areWithin_17 rfl (lv_at hl 3 rfl) ?_
      have hFc : ∀ q, va_A ([] : va_W) H.size q → A q := fun q h => va_nilA hS hA q h
      refine va_calli (va_runS (As := [.int d, .int y]) (rest := []) ⟨hx, hb, hml, hown, hts⟩ (c_X1_isWithin l dC dI H.size d y) (va_cwS 2 hts gX1_areWithin_X1_isWithin rfl rfl rfl (by decide +kernel) ⟨Nat.le_of_ble_eq_true rfl, Nat.le_of_ble_eq_true rfl⟩) ⟨fun a U g mk q => by obtain ⟨q0, q1, qP, qK, qD⟩ := q; exact ⟨q0, q1, qP, va_K.moved (u := U) (U := U.calling g mk a) (Vm.Alike.refl U.vm) qK, qD⟩, fun U hU hW => ⟨rfl, by rw [hU], va_nilP, va_K.moved hW.alike (hK.sub (tys' := []) [] rfl), va_nilD⟩⟩ rfl rfl hl.1 rfl (lv_room (Nat.le_of_ble_eq_true rfl)) dX1_areWithin_18 ⟨(Nat.zero_le _), (Nat.zero_le _)⟩) hS (fun q _ h => hFc q h) hFc (fun r_18 v9 t H1 locs ht hvm hw hB hz1 hk1 hS => ?_)
      have hP := va_keep hP hk1
      clear hB hk1 hz1 ht hvm hFc
      generalize H1 = H at hP hS ⊢
      rcases hw with ⟨rfl, hd⟩ | ⟨rfl, hd⟩
      · refine lv_if_eq (tgt := 28) hx hb dX1_areWithin_21 (by decide) (fun c => absurd c (by decide)) (fun _ => ?_)
        refine lv_iconst (v := nI 1) hx hb dX1_areWithin_24 (by decide) ?_
        refine lv_goto (tgt := 29) hx hb dX1_areWithin_25 (by decide) ?_
        exact W.zret (v := (nI 1)) hx hb hr (by rfl) (fun t ht hW => ⟨⟨(nI 1), (), rfl, Or.inl ⟨rfl, ha, hq, hd⟩, by rw [ht]; exact hP, va_K.moved hW.alike hK, hD⟩, hS.F ht⟩) hS.2.2 dX1_areWithin_29
      · refine lv_if_eq (tgt := 28) hx hb dX1_areWithin_21 (by decide) (fun _ => ?_) (fun c => absurd rfl c)
        refine lv_iconst (v := nI 0) hx hb dX1_areWithin_28 (by decide) ?_
        exact W.zret (v := (nI 0)) hx hb hr (by rfl) (fun t ht hW => ⟨⟨(nI 0), (), rfl, Or.inr ⟨rfl, fun q => hd q.2.2⟩, by rw [ht]; exact hP, va_K.moved hW.alike hK, hD⟩, hS.F ht⟩) hS.2.2 dX1_areWithin_29
    · refine lv_if_eq (tgt := 28) hx hb dX1_areWithin_13 (by decide) (fun _ => ?_) (fun c => absurd rfl c)
      refine lv_iconst (v := nI 0) hx hb dX1_areWithin_28 (by decide) ?_
      exact W.zret (v := (nI 0)) hx hb hr (by rfl) (fun t ht hW => ⟨⟨(nI 0), (), rfl, Or.inr ⟨rfl, fun q => hq q.2.1⟩, by rw [ht]; exact hP, va_K.moved hW.alike hK, hD⟩, hS.F ht⟩) hS.2.2 dX1_areWithin_29
  · refine lv_if_eq (tgt := 28) hx hb dX1_areWithin_5 (by decide) (fun _ => ?_) (fun c => absurd rfl c)
    refine lv_iconst (v := nI 0) hx hb dX1_areWithin_28 (by decide) ?_
    exact W.zret (v := (nI 0)) hx hb hr (by rfl) (fun t ht hW => ⟨⟨(nI 0), (), rfl, Or.inr ⟨rfl, fun q => ha q.1⟩, by rw [ht]; exact hP, va_K.moved hW.alike hK, hD⟩, hS.F ht⟩) hS.2.2 dX1_areWithin_29
set_option maxHeartbeats 1000000 in
set_option maxRecDepth 100000 in
/-- fill(row, k, x1, x2, x3) -/
theorem c_X1_fill (l : Launch) (dC : Nat → ClassId) (dI : Nat → Nat → Nat) (sz : Nat) (cX : ClassId) (a n k : Nat) (f : Nat → Int32) (x1 x2 x3 : Int32) (hk : k + 2 < n) (hn : n < 1000) : Met l yX1_fill wsX1_fill ({ frames := 0, cells := 0, slots := 0, locals := 0 }) (va_Pc [.ref a, .int (nI k), .int x1, .int x2, .int x3] (fun U => U.heap.size = sz ∧ va_P (dC, dI) vwCl [(a, .inl (cX, n, .inl f))] U.heap ∧ va_K (dC, dI) vwCl [(cX, .int)] U ∧ va_D (fun _ => True) [(a, .inl (cX, n, .inl f))])) (va_Qv (fun v : Unit => True) (fun v t => va_P (dC, dI) vwCl [(a, .inl (cX, n, .inl (upd (upd (upd f k x1) (k + 1) x2) (k + 2) x3)))] t.heap ∧ va_K (dC, dI) vwCl [(cX, .int)] t ∧ va_D (va_A [(a, .inl (cX, n, .inl f))] sz) [(a, .inl (cX, n, .inl (upd (upd (upd f k x1) (k + 1) x2) (k + 2) x3)))]) (va_A [(a, .inl (cX, n, .inl f))] sz)) 0 0 (va_A [(a, .inl (cX, n, .inl f))] sz) := by
  refine Met.ofW (cc := cX1_fill) (maxL := 5) (ret := none) (by decide) rfl ?_
  intro p e s m args below meth c s₁ B hml hv
  obtain ⟨rfl, hsz, hP, hK, hD0⟩ := hv
  have hx := B.exec
  have hb := B.bytes
  have hr := B.returns
  have hts := atoms_spec (ws := wsX1_fill) B.pre
  have hown : s.vm.findClass RX1 = some m.cls := findClass_of_methodNamed B.named
  subst hsz
  have hD := hD0.self (sz := s.heap.size)
  clear hD0
  generalize hAe : va_A [(a, .inl (cX, n, .inl f))] s.heap.size = A at hD ⊢
  have hA : ∀ q : Nat, s.heap.size ≤ q → A q := fun q h => by rw [← hAe]; exact Or.inr h
  have hl := lv_entry ([.ref a, .int (nI k), .int x1, .int x2, .int x3]) (n := 5) (Nat.le_of_ble_eq_true rfl)
  rw [lg_entry_eq]
  generalize (lg_sl ([.ref a, .int (nI k), .int x1, .int x2, .int x3]) ++ List.replicate (5 - (lg_sl ([.ref a, .int (nI k), .int x1, .int x2, .int x3])).length) Slot.unset).toArray = ls at hl ⊢
  have hl : lv_has ls 5 [(0, .ref a), (1, .int (nI k)), (2, .int x1), (3, .int x2), (4, .int x3)] := hl
  have hP : va_P (dC, dI) vwCl [(a, .inl (cX, n, .inl f))] s.heap := hP
  obtain ⟨H, hH⟩ : ∃ H, H = s.heap := ⟨_, rfl⟩
  have hS : va_S A s.heap H [] := by rw [hH]; exact va_S.rf
  rw [← hH] at hP ⊢
  refine lv_aload_n hx hb dX1_fill_0 rfl (lv_at hl 0 rfl) ?_
  refine lv_iload_n hx hb dX1_fill_1 rfl (lv_at hl 1 rfl) ?_
  refine lv_iload_n hx hb dX1_fill_2 rfl (lv_at hl 2 rfl) ?_
  refine na_iast hx hb hK hP hD hS 0 0 rfl rfl (show k < n by omega) (by omega) dX1_fill_3 (fun H locs hP hD hS => ?_)
  have hP : va_P (dC, dI) vwCl [(a, .inl (cX, n, .inl (upd f k x1)))] H := hP
  have hD : va_D A [(a, .inl (cX, n, .inl (upd f k x1)))] := hD
  refine lv_aload_n hx hb dX1_fill_4 rfl (lv_at hl 0 rfl) ?_
  refine lv_iload_n hx hb dX1_fill_5 rfl (lv_at hl 1 rfl) ?_
  refine lv_iconst (v := nI 1) hx hb dX1_fill_6 (by decide) ?_
  refine lv_iadd hx hb dX1_fill_7 ?_
  refine lv_topi (fun z_1 ez_1 => ?_)
  obtain rfl : z_1 = nI (k + 1) := ez_1.trans (nI_add k 1)
  refine lv_iload_n hx hb dX1_fill_8 rfl (lv_at hl 3 rfl) ?_
  refine na_iast hx hb hK hP hD hS 0 0 rfl rfl (show k + 1 < n by omega) (by omega) dX1_fill_9 (fun H locs hP hD hS => ?_)
  have hP : va_P (dC, dI) vwCl [(a, .inl (cX, n, .inl (upd (upd f k x1) (k + 1) x2)))] H := hP
  have hD : va_D A [(a, .inl (cX, n, .inl (upd (upd f k x1) (k + 1) x2)))] := hD
  refine lv_aload_n hx hb dX1_fill_10 rfl (lv_at hl 0 rfl) ?_
  refine lv_iload_n hx hb dX1_fill_11 rfl (lv_at hl 1 rfl) ?_
  refine lv_iconst (v := nI 2) hx hb dX1_fill_12 (by decide) ?_
  refine lv_iadd hx hb dX1_fill_13 ?_
  refine lv_topi (fun z_2 ez_2 => ?_)
  obtain rfl : z_2 = nI (k + 2) := ez_2.trans (nI_add k 2)
  refine lv_iload hx hb dX1_fill_14 (lv_at hl 4 rfl) ?_
  refine na_iast hx hb hK hP hD hS 0 0 rfl rfl (show k + 2 < n by omega) (by omega) dX1_fill_16 (fun H locs hP hD hS => ?_)
  have hP : va_P (dC, dI) vwCl [(a, .inl (cX, n, .inl (upd (upd (upd f k x1) (k + 1) x2) (k + 2) x3)))] H := hP
  have hD : va_D A [(a, .inl (cX, n, .inl (upd (upd (upd f k x1) (k + 1) x2) (k + 2) x3)))] := hD
  exact W.vret hx hb hr (fun t ht hW => ⟨⟨(), rfl, trivial, by rw [ht]; exact hP, va_K.moved hW.alike hK, hD⟩, hS.F ht⟩) hS.2.2 dX1_fill_17
set_option maxHeartbeats 1000000 in
set_option maxRecDepth 100000 in
/-- isRule(k) -/
theorem c_X1_isRule (l : Launch) (dC : Nat → ClassId) (dI : Nat → Nat → Nat) (sz : Nat) (p0 qt qg h0 : Nat) (rt : Nat → Nat) (cB cI : ClassId) (tz : List (ClassId × FieldType)) (Y : va_W) (vn ct : Nat) (ft fb : Int64) (gl : Nat → Int32) (T : Nat → Nat → Int32) (k : Int32) (hc : ct ≤ 8) : Met l yX1_isRule wsX1_isRule ({ frames := 0, cells := 0, slots := 0, locals := 0 }) (va_Pc [.ref p0, .int k] (fun U => U.heap.size = sz ∧ va_P (dC, dI) vwCl (rfX p0 qt qg h0 rt cB cI vn ct ft fb gl T ++ Y) U.heap ∧ va_K (dC, dI) vwCl ((cB, .array .int) :: (cI, .int) :: tz) U ∧ va_D (fun _ => True) (rfX p0 qt qg h0 rt cB cI vn ct ft fb gl T ++ Y))) (va_Qi (fun (x : Int32) (v : Unit) => (x = 1 ∧ ∃ j, j < ct ∧ k = nI j) ∨ (x = 0 ∧ ∀ j, j < ct → k ≠ nI j)) (fun v t => va_P (dC, dI) vwCl (rfX p0 qt qg h0 rt cB cI vn ct ft fb gl T ++ Y) t.heap ∧ va_K (dC, dI) vwCl ((cB, .array .int) :: (cI, .int) :: tz) t ∧ va_D (va_A (rfX p0 qt qg h0 rt cB cI vn ct ft fb gl T ++ Y) sz) (rfX p0 qt qg h0 rt cB cI vn ct ft fb gl T ++ Y)) (va_A (rfX p0 qt qg h0 rt cB cI vn ct ft fb gl T ++ Y) sz)) 0 0 (va_A (rfX p0 qt qg h0 rt cB cI vn ct ft fb gl T ++ Y) sz) := by
  refine Met.ofW (cc := cX1_isRule) (maxL := 2) (ret := (some .boolean)) (by decide) rfl ?_
  intro p e s m args below meth c s₁ B hml hv
  obtain ⟨rfl, hsz, hP, hK, hD0⟩ := hv
  have hx := B.exec
  have hb := B.bytes
  have hr := B.returns
  have hts := atoms_spec (ws := wsX1_isRule) B.pre
  have hown : s.vm.findClass RX1 = some m.cls := findClass_of_methodNamed B.named
  subst hsz
  have hD := hD0.self (sz := s.heap.size)
  clear hD0
  generalize hAe : va_A (rfX p0 qt qg h0 rt cB cI vn ct ft fb gl T ++ Y) s.heap.size = A at hD ⊢
  have hA : ∀ q : Nat, s.heap.size ≤ q → A q := fun q h => by rw [← hAe]; exact Or.inr h
  have hl := lv_entry ([.ref p0, .int k]) (n := 2) (Nat.le_of_ble_eq_true rfl)
  rw [lg_entry_eq]
  generalize (lg_sl ([.ref p0, .int k]) ++ List.replicate (2 - (lg_sl ([.ref p0, .int k])).length) Slot.unset).toArray = ls at hl ⊢
  have hl : lv_has ls 2 [(0, .ref p0), (1, .int k)] := hl
  have hP : va_P (dC, dI) vwCl (rfX p0 qt qg h0 rt cB cI vn ct ft fb gl T ++ Y) s.heap := hP
  obtain ⟨H, hH⟩ : ∃ H, H = s.heap := ⟨_, rfl⟩
  have hS : va_S A s.heap H [] := by rw [hH]; exact va_S.rf
  rw [← hH] at hP ⊢
  refine lv_iload_n hx hb dX1_isRule_0 rfl (lv_at hl 1 rfl) ?_
  refine lv_if_lt (tgt := 16) hx hb dX1_isRule_1 (by decide) (fun c1 => ?_) (fun c1 => ?_)
  · refine lv_iconst (v := nI 0) hx hb dX1_isRule_16 (by decide) ?_
    exact W.zret (v := (nI 0)) hx hb hr (by rfl) (fun t ht hW => ⟨⟨(nI 0), (), rfl, Or.inr ⟨rfl, fun j hj q => by rw [q] at c1; exact nI_pos (by omega) c1⟩, by rw [ht]; exact hP, va_K.moved hW.alike hK, hD⟩, hS.F ht⟩) hS.2.2 dX1_isRule_17
  · refine lv_iload_n hx hb dX1_isRule_4 rfl (lv_at hl 1 rfl) ?_
    refine lv_aload_n hx hb dX1_isRule_5 rfl (lv_at hl 0 rfl) ?_
    refine va_get (D := (dC, dI)) (ci := 1) (v := .int (nI ct)) (C := RX1) (T := TX1) (N := 7) hx hb hts (fun _ h => List.mem_cons_of_mem _ (List.mem_append_right _ h)) hown hK hP 0 rfl rfl 4 (by decide) (hts (.fieldLink RX1 29 "RankFinder" "count" "I") (List.mem_of_getElem? (i := 1) rfl)) (fun _ h9 => h9) rfl dX1_isRule_6 ?_
    refine lv_icmp_ge (tgt := 16) hx hb dX1_isRule_9 (by decide) (fun c2 => ?_) (fun c2 => ?_)
    · refine lv_iconst (v := nI 0) hx hb dX1_isRule_16 (by decide) ?_
      exact W.zret (v := (nI 0)) hx hb hr (by rfl) (fun t ht hW => ⟨⟨(nI 0), (), rfl, Or.inr ⟨rfl, fun j hj q => by rw [q] at c2; exact nI_ge hj (by omega) c2⟩, by rw [ht]; exact hP, va_K.moved hW.alike hK, hD⟩, hS.F ht⟩) hS.2.2 dX1_isRule_17
    · refine lv_iconst (v := nI 1) hx hb dX1_isRule_12 (by decide) ?_
      refine lv_goto (tgt := 17) hx hb dX1_isRule_13 (by decide) ?_
      obtain ⟨j, hj, rfl, -⟩ := pk_mu c1 c2 (by omega)
      exact W.zret (v := (nI 1)) hx hb hr (by rfl) (fun t ht hW => ⟨⟨(nI 1), (), rfl, Or.inl ⟨rfl, j, hj, rfl⟩, by rw [ht]; exact hP, va_K.moved hW.alike hK, hD⟩, hS.F ht⟩) hS.2.2 dX1_isRule_17
set_option maxHeartbeats 1000000 in
set_option maxRecDepth 100000 in
/-- begin(k) -/
theorem c_X1_begin (l : Launch) (dC : Nat → ClassId) (dI : Nat → Nat → Nat) (sz : Nat) (p0 qt qg h0 : Nat) (rt : Nat → Nat) (cB cI : ClassId) (tz : List (ClassId × FieldType)) (Y : va_W) (vn ct : Nat) (ft fb : Int64) (gl : Nat → Int32) (T : Nat → Nat → Int32) (k : Int32) : Met l yX1_begin wsX1_begin ({ frames := 0, cells := 0, slots := 0, locals := 0 }) (va_Pc [.ref p0, .int k] (fun U => U.heap.size = sz ∧ va_P (dC, dI) vwCl (rfX p0 qt qg h0 rt cB cI vn ct ft fb gl T ++ Y) U.heap ∧ va_K (dC, dI) vwCl ((cB, .array .int) :: (cI, .int) :: tz) U ∧ va_D (fun _ => True) (rfX p0 qt qg h0 rt cB cI vn ct ft fb gl T ++ Y))) (va_Qi (fun (x : Int32) (v : Nat × Nat) => (∃ j, 1 ≤ j ∧ j ≤ 3 ∧ k = nI j ∧ x = 1 ∧ v = (j, 0)) ∨ (x = 0 ∧ (∀ j, 1 ≤ j → j ≤ 3 → k ≠ nI j) ∧ v = (vn, ct))) (fun v t => va_P (dC, dI) vwCl (rfX p0 qt qg h0 rt cB cI v.1 v.2 ft fb gl T ++ Y) t.heap ∧ va_K (dC, dI) vwCl ((cB, .array .int) :: (cI, .int) :: tz) t ∧ va_D (va_A (rfX p0 qt qg h0 rt cB cI vn ct ft fb gl T ++ Y) sz) (rfX p0 qt qg h0 rt cB cI v.1 v.2 ft fb gl T ++ Y)) (va_A (rfX p0 qt qg h0 rt cB cI vn ct ft fb gl T ++ Y) sz)) 0 0 (va_A (rfX p0 qt qg h0 rt cB cI vn ct ft fb gl T ++ Y) sz) := by
  refine Met.ofW (cc := cX1_begin) (maxL := 2) (ret := (some .boolean)) (by decide) rfl ?_
  intro p e s m args below meth c s₁ B hml hv
  obtain ⟨rfl, hsz, hP, hK, hD0⟩ := hv
  have hx := B.exec
  have hb := B.bytes
  have hr := B.returns
  have hts := atoms_spec (ws := wsX1_begin) B.pre
  have hown : s.vm.findClass RX1 = some m.cls := findClass_of_methodNamed B.named
  subst hsz
  have hD := hD0.self (sz := s.heap.size)
  clear hD0
  generalize hAe : va_A (rfX p0 qt qg h0 rt cB cI vn ct ft fb gl T ++ Y) s.heap.size = A at hD ⊢
  have hA : ∀ q : Nat, s.heap.size ≤ q → A q := fun q h => by rw [← hAe]; exact Or.inr h
  have hl := lv_entry ([.ref p0, .int k]) (n := 2) (Nat.le_of_ble_eq_true rfl)
  rw [lg_entry_eq]
  generalize (lg_sl ([.ref p0, .int k]) ++ List.replicate (2 - (lg_sl ([.ref p0, .int k])).length) Slot.unset).toArray = ls at hl ⊢
  have hl : lv_has ls 2 [(0, .ref p0), (1, .int k)] := hl
  have hP : va_P (dC, dI) vwCl (rfX p0 qt qg h0 rt cB cI vn ct ft fb gl T ++ Y) s.heap := hP
  obtain ⟨H, hH⟩ : ∃ H, H = s.heap := ⟨_, rfl⟩
  have hS : va_S A s.heap H [] := by rw [hH]; exact va_S.rf
  rw [← hH] at hP ⊢
  refine lv_iload_n hx hb dX1_begin_0 rfl (lv_at hl 1 rfl) ?_
  refine lv_iconst (v := nI 1) hx hb dX1_begin_1 (by decide) ?_
  refine lv_icmp_lt (tgt := 10) hx hb dX1_begin_2 (by decide) (fun c1 => ?_) (fun c1 => ?_)
  · refine lv_iconst (v := nI 0) hx hb dX1_begin_10 (by decide) ?_
    exact W.zret (v := (nI 0)) hx hb hr (by rfl) (fun t ht hW => ⟨⟨(nI 0), (vn, ct), rfl, Or.inr ⟨rfl, fun j h1 h2 q => by rw [q] at c1; exact nI_nlt h1 (by omega) c1, rfl⟩, by rw [ht]; exact hP, va_K.moved hW.alike hK, hD⟩, hS.F ht⟩) hS.2.2 dX1_begin_11
  · refine lv_iload_n hx hb dX1_begin_5 rfl (lv_at hl 1 rfl) ?_
    refine lv_iconst (v := nI 3) hx hb dX1_begin_6 (by decide) ?_
    refine lv_icmp_le (tgt := 12) hx hb dX1_begin_7 (by decide) (fun c2 => ?_) (fun c2 => ?_)
    · obtain ⟨j, hj, rfl⟩ := nI_of2 (M := nI 3) (n := 3) rfl (fun q => c1 (by rw [Int32.lt_iff_toInt_lt] at *; have e1 : (nI 1).toInt = 1 := rfl; have e0 : (0 : Int32).toInt = 0 := rfl; omega)) c2
      have hj1 : 1 ≤ j := by
        apply Classical.byContradiction
        intro q
        exact c1 (nI_lt (by omega) (by omega))
      refine lv_aload_n hx hb dX1_begin_12 rfl (lv_at hl 0 rfl) ?_
      refine lv_iload_n hx hb dX1_begin_13 rfl (lv_at hl 1 rfl) ?_
      refine va_put (D := (dC, dI)) (ci := 1) (v := .int (nI j)) (ty := .int) (C := RX1) (T := TX1) (N := 7) hx hb hts (fun _ h => List.mem_cons_of_mem _ (List.mem_append_right _ h)) tyX1 tyX1_ok nmX1 hown hK hP hD hS 0 rfl rfl 3 (by decide) (hts (.fieldLink RX1 25 "RankFinder" "variables" "I") (List.mem_of_getElem? (i := 1) rfl)) (fun _ h9 => h9) rfl (by decide +kernel) rfl rfl (Nat.le_of_ble_eq_true rfl) dX1_begin_14 (fun H locs hP hD hS => ?_)
      have hP : va_P (dC, dI) vwCl (rfX p0 qt qg h0 rt cB cI j ct ft fb gl T ++ Y) H := hP
      have hD : va_D A (rfX p0 qt qg h0 rt cB cI j ct ft fb gl T ++ Y) := hD
      refine lv_aload_n hx hb dX1_begin_17 rfl (lv_at hl 0 rfl) ?_
      refine lv_iconst (v := nI 0) hx hb dX1_begin_18 (by decide) ?_
      refine va_put (D := (dC, dI)) (ci := 1) (v := .int (nI 0)) (ty := .int) (C := RX1) (T := TX1) (N := 7) hx hb hts (fun _ h => List.mem_cons_of_mem _ (List.mem_append_right _ h)) tyX1 tyX1_ok nmX1 hown hK hP hD hS 0 rfl rfl 4 (by decide) (hts (.fieldLink RX1 29 "RankFinder" "count" "I") (List.mem_of_getElem? (i := 2) rfl)) (fun _ h9 => h9) rfl (by decide +kernel) rfl rfl (Nat.le_of_ble_eq_true rfl) dX1_begin_19 (fun H locs hP hD hS => ?_)
      have hP : va_P (dC, dI) vwCl (rfX p0 qt qg h0 rt cB cI j 0 ft fb gl T ++ Y) H := hP
      have hD : va_D A (rfX p0 qt qg h0 rt cB cI j 0 ft fb gl T ++ Y) := hD
      refine lv_iconst (v := nI 1) hx hb dX1_begin_22 (by decide) ?_
      exact W.zret (v := (nI 1)) hx hb hr (by rfl) (fun t ht hW => ⟨⟨(nI 1), (j, 0), rfl, Or.inl ⟨j, hj1, hj, rfl, rfl, rfl⟩, by rw [ht]; exact hP, va_K.moved hW.alike hK, hD⟩, hS.F ht⟩) hS.2.2 dX1_begin_23
    · refine lv_iconst (v := nI 0) hx hb dX1_begin_10 (by decide) ?_
      exact W.zret (v := (nI 0)) hx hb hr (by rfl) (fun t ht hW => ⟨⟨(nI 0), (vn, ct), rfl, Or.inr ⟨rfl, fun j h1 h2 q => by rw [q] at c2; exact c2 (nI_le h2 (by omega)), rfl⟩, by rw [ht]; exact hP, va_K.moved hW.alike hK, hD⟩, hS.F ht⟩) hS.2.2 dX1_begin_11
set_option maxHeartbeats 1000000 in
set_option maxRecDepth 100000 in
/-- rules() -/
theorem c_X1_rules (l : Launch) (dC : Nat → ClassId) (dI : Nat → Nat → Nat) (sz : Nat) (p0 qt qg h0 : Nat) (rt : Nat → Nat) (cB cI : ClassId) (tz : List (ClassId × FieldType)) (Y : va_W) (vn ct : Nat) (ft fb : Int64) (gl : Nat → Int32) (T : Nat → Nat → Int32) : Met l yX1_rules wsX1_rules ({ frames := 0, cells := 0, slots := 0, locals := 0 }) (va_Pc [.ref p0] (fun U => U.heap.size = sz ∧ va_P (dC, dI) vwCl (rfX p0 qt qg h0 rt cB cI vn ct ft fb gl T ++ Y) U.heap ∧ va_K (dC, dI) vwCl ((cB, .array .int) :: (cI, .int) :: tz) U ∧ va_D (fun _ => True) (rfX p0 qt qg h0 rt cB cI vn ct ft fb gl T ++ Y))) (va_Qi (fun (x : Int32) (v : Unit) => x = nI ct) (fun v t => va_P (dC, dI) vwCl (rfX p0 qt qg h0 rt cB cI vn ct ft fb gl T ++ Y) t.heap ∧ va_K (dC, dI) vwCl ((cB, .array .int) :: (cI, .int) :: tz) t ∧ va_D (va_A (rfX p0 qt qg h0 rt cB cI vn ct ft fb gl T ++ Y) sz) (rfX p0 qt qg h0 rt cB cI vn ct ft fb gl T ++ Y)) (va_A (rfX p0 qt qg h0 rt cB cI vn ct ft fb gl T ++ Y) sz)) 0 0 (va_A (rfX p0 qt qg h0 rt cB cI vn ct ft fb gl T ++ Y) sz) := by
  refine Met.ofW (cc := cX1_rules) (maxL := 1) (ret := (some .int)) (by decide) rfl ?_
  intro p e s m args below meth c s₁ B hml hv
  obtain ⟨rfl, hsz, hP, hK, hD0⟩ := hv
  have hx := B.exec
  have hb := B.bytes
  have hr := B.returns
  have hts := atoms_spec (ws := wsX1_rules) B.pre
  have hown : s.vm.findClass RX1 = some m.cls := findClass_of_methodNamed B.named
  subst hsz
  have hD := hD0.self (sz := s.heap.size)
  clear hD0
  generalize hAe : va_A (rfX p0 qt qg h0 rt cB cI vn ct ft fb gl T ++ Y) s.heap.size = A at hD ⊢
  have hA : ∀ q : Nat, s.heap.size ≤ q → A q := fun q h => by rw [← hAe]; exact Or.inr h
  have hl := lv_entry ([.ref p0]) (n := 1) (Nat.le_of_ble_eq_true rfl)
  rw [lg_entry_eq]
  generalize (lg_sl ([.ref p0]) ++ List.replicate (1 - (lg_sl ([.ref p0])).length) Slot.unset).toArray = ls at hl ⊢
  have hl : lv_has ls 1 [(0, .ref p0)] := hl
  have hP : va_P (dC, dI) vwCl (rfX p0 qt qg h0 rt cB cI vn ct ft fb gl T ++ Y) s.heap := hP
  obtain ⟨H, hH⟩ : ∃ H, H = s.heap := ⟨_, rfl⟩
  have hS : va_S A s.heap H [] := by rw [hH]; exact va_S.rf
  rw [← hH] at hP ⊢
  refine lv_aload_n hx hb dX1_rules_0 rfl (lv_at hl 0 rfl) ?_
  refine va_get (D := (dC, dI)) (ci := 1) (v := .int (nI ct)) (C := RX1) (T := TX1) (N := 7) hx hb hts (fun _ h => List.mem_cons_of_mem _ (List.mem_append_right _ h)) hown hK hP 0 rfl rfl 4 (by decide) (hts (.fieldLink RX1 29 "RankFinder" "count" "I") (List.mem_of_getElem? (i := 1) rfl)) (fun _ h9 => h9) rfl dX1_rules_1 ?_
  exact W.iret (v := (nI ct)) hx hb hr (fun t ht hW => ⟨⟨(nI ct), (), rfl, rfl, by rw [ht]; exact hP, va_K.moved hW.alike hK, hD⟩, hS.F ht⟩) hS.2.2 dX1_rules_4
set_option maxHeartbeats 1000000 in
set_option maxRecDepth 100000 in
/-- top() -/
theorem c_X1_top (l : Launch) (dC : Nat → ClassId) (dI : Nat → Nat → Nat) (sz : Nat) (p0 qt qg h0 : Nat) (rt : Nat → Nat) (cB cI : ClassId) (tz : List (ClassId × FieldType)) (Y : va_W) (vn ct : Nat) (ft fb : Int64) (gl : Nat → Int32) (T : Nat → Nat → Int32) : Met l yX1_top wsX1_top ({ frames := 0, cells := 0, slots := 0, locals := 0 }) (va_Pc [.ref p0] (fun U => U.heap.size = sz ∧ va_P (dC, dI) vwCl (rfX p0 qt qg h0 rt cB cI vn ct ft fb gl T ++ Y) U.heap ∧ va_K (dC, dI) vwCl ((cB, .array .int) :: (cI, .int) :: tz) U ∧ va_D (fun _ => True) (rfX p0 qt qg h0 rt cB cI vn ct ft fb gl T ++ Y))) (va_Ql (fun (x : Int64) (v : Unit) => x = ft) (fun v t => va_P (dC, dI) vwCl (rfX p0 qt qg h0 rt cB cI vn ct ft fb gl T ++ Y) t.heap ∧ va_K (dC, dI) vwCl ((cB, .array .int) :: (cI, .int) :: tz) t ∧ va_D (va_A (rfX p0 qt qg h0 rt cB cI vn ct ft fb gl T ++ Y) sz) (rfX p0 qt qg h0 rt cB cI vn ct ft fb gl T ++ Y)) (va_A (rfX p0 qt qg h0 rt cB cI vn ct ft fb gl T ++ Y) sz)) 0 0 (va_A (rfX p0 qt qg h0 rt cB cI vn ct ft fb gl T ++ Y) sz) := by
  refine Met.ofW (cc := cX1_top) (maxL := 1) (ret := (some .long)) (by decide) rfl ?_
  intro p e s m args below meth c s₁ B hml hv
  obtain ⟨rfl, hsz, hP, hK, hD0⟩ := hv
  have hx := B.exec
  have hb := B.bytes
  have hr := B.returns
  have hts := atoms_spec (ws := wsX1_top) B.pre
  have hown : s.vm.findClass RX1 = some m.cls := findClass_of_methodNamed B.named
  subst hsz
  have hD := hD0.self (sz := s.heap.size)
  clear hD0
  generalize hAe : va_A (rfX p0 qt qg h0 rt cB cI vn ct ft fb gl T ++ Y) s.heap.size = A at hD ⊢
  have hA : ∀ q : Nat, s.heap.size ≤ q → A q := fun q h => by rw [← hAe]; exact Or.inr h
  have hl := lv_entry ([.ref p0]) (n := 1) (Nat.le_of_ble_eq_true rfl)
  rw [lg_entry_eq]
  generalize (lg_sl ([.ref p0]) ++ List.replicate (1 - (lg_sl ([.ref p0])).length) Slot.unset).toArray = ls at hl ⊢
  have hl : lv_has ls 1 [(0, .ref p0)] := hl
  have hP : va_P (dC, dI) vwCl (rfX p0 qt qg h0 rt cB cI vn ct ft fb gl T ++ Y) s.heap := hP
  obtain ⟨H, hH⟩ : ∃ H, H = s.heap := ⟨_, rfl⟩
  have hS : va_S A s.heap H [] := by rw [hH]; exact va_S.rf
  rw [← hH] at hP ⊢
  refine lv_aload_n hx hb dX1_top_0 rfl (lv_at hl 0 rfl) ?_
  refine va_get (D := (dC, dI)) (ci := 1) (v := .long ft) (C := RX1) (T := TX1) (N := 7) hx hb hts (fun _ h => List.mem_cons_of_mem _ (List.mem_append_right _ h)) hown hK hP 0 rfl rfl 5 (by decide) (hts (.fieldLink RX1 32 "RankFinder" "foundTop" "J") (List.mem_of_getElem? (i := 1) rfl)) (fun _ h9 => h9) rfl dX1_top_1 ?_
  exact W.lret (v := ft) hx hb hr (fun t ht hW => ⟨⟨ft, (), rfl, rfl, by rw [ht]; exact hP, va_K.moved hW.alike hK, hD⟩, hS.F ht⟩) hS.2.2 dX1_top_4
set_option maxHeartbeats 1000000 in
set_option maxRecDepth 100000 in
/-- bottom() -/
theorem c_X1_bottom (l : Launch) (dC : Nat → ClassId) (dI : Nat → Nat → Nat) (sz : Nat) (p0 qt qg h0 : Nat) (rt : Nat → Nat) (cB cI : ClassId) (tz : List (ClassId × FieldType)) (Y : va_W) (vn ct : Nat) (ft fb : Int64) (gl : Nat → Int32) (T : Nat → Nat → Int32) : Met l yX1_bottom wsX1_bottom ({ frames := 0, cells := 0, slots := 0, locals := 0 }) (va_Pc [.ref p0] (fun U => U.heap.size = sz ∧ va_P (dC, dI) vwCl (rfX p0 qt qg h0 rt cB cI vn ct ft fb gl T ++ Y) U.heap ∧ va_K (dC, dI) vwCl ((cB, .array .int) :: (cI, .int) :: tz) U ∧ va_D (fun _ => True) (rfX p0 qt qg h0 rt cB cI vn ct ft fb gl T ++ Y))) (va_Ql (fun (x : Int64) (v : Unit) => x = fb) (fun v t => va_P (dC, dI) vwCl (rfX p0 qt qg h0 rt cB cI vn ct ft fb gl T ++ Y) t.heap ∧ va_K (dC, dI) vwCl ((cB, .array .int) :: (cI, .int) :: tz) t ∧ va_D (va_A (rfX p0 qt qg h0 rt cB cI vn ct ft fb gl T ++ Y) sz) (rfX p0 qt qg h0 rt cB cI vn ct ft fb gl T ++ Y)) (va_A (rfX p0 qt qg h0 rt cB cI vn ct ft fb gl T ++ Y) sz)) 0 0 (va_A (rfX p0 qt qg h0 rt cB cI vn ct ft fb gl T ++ Y) sz) := by
  refine Met.ofW (cc := cX1_bottom) (maxL := 1) (ret := (some .long)) (by decide) rfl ?_
  intro p e s m args below meth c s₁ B hml hv
  obtain ⟨rfl, hsz, hP, hK, hD0⟩ := hv
  have hx := B.exec
  have hb := B.bytes
  have hr := B.returns
  have hts := atoms_spec (ws := wsX1_bottom) B.pre
  have hown : s.vm.findClass RX1 = some m.cls := findClass_of_methodNamed B.named
  subst hsz
  have hD := hD0.self (sz := s.heap.size)
  clear hD0
  generalize hAe : va_A (rfX p0 qt qg h0 rt cB cI vn ct ft fb gl T ++ Y) s.heap.size = A at hD ⊢
  have hA : ∀ q : Nat, s.heap.size ≤ q → A q := fun q h => by rw [← hAe]; exact Or.inr h
  have hl := lv_entry ([.ref p0]) (n := 1) (Nat.le_of_ble_eq_true rfl)
  rw [lg_entry_eq]
  generalize (lg_sl ([.ref p0]) ++ List.replicate (1 - (lg_sl ([.ref p0])).length) Slot.unset).toArray = ls at hl ⊢
  have hl : lv_has ls 1 [(0, .ref p0)] := hl
  have hP : va_P (dC, dI) vwCl (rfX p0 qt qg h0 rt cB cI vn ct ft fb gl T ++ Y) s.heap := hP
  obtain ⟨H, hH⟩ : ∃ H, H = s.heap := ⟨_, rfl⟩
  have hS : va_S A s.heap H [] := by rw [hH]; exact va_S.rf
  rw [← hH] at hP ⊢
  refine lv_aload_n hx hb dX1_bottom_0 rfl (lv_at hl 0 rfl) ?_
  refine va_get (D := (dC, dI)) (ci := 1) (v := .long fb) (C := RX1) (T := TX1) (N := 7) hx hb hts (fun _ h => List.mem_cons_of_mem _ (List.mem_append_right _ h)) hown hK hP 0 rfl rfl 6 (by decide) (hts (.fieldLink RX1 36 "RankFinder" "foundBottom" "J") (List.mem_of_getElem? (i := 1) rfl)) (fun _ h9 => h9) rfl dX1_bottom_1 ?_
  exact W.lret (v := fb) hx hb hr (fun t ht hW => ⟨⟨fb, (), rfl, rfl, by rw [ht]; exact hP, va_K.moved hW.alike hK, hD⟩, hS.F ht⟩) hS.2.2 dX1_bottom_4
set_option maxHeartbeats 1000000 in
set_option maxRecDepth 100000 in
/-- number(k, i) -/
theorem c_X1_number (l : Launch) (dC : Nat → ClassId) (dI : Nat → Nat → Nat) (sz : Nat) (p0 qt qg h0 : Nat) (rt : Nat → Nat) (cB cI : ClassId) (tz : List (ClassId × FieldType)) (Y : va_W) (vn ct : Nat) (ft fb : Int64) (gl : Nat → Int32) (T : Nat → Nat → Int32) (k i : Int32) (hc : ct ≤ 8) : Met l yX1_number wsX1_number ({ frames := 1, cells := 0, slots := 0, locals := 21 }) (va_Pc [.ref p0, .int k, .int i] (fun U => U.heap.size = sz ∧ va_P (dC, dI) vwCl (rfX p0 qt qg h0 rt cB cI vn ct ft fb gl T ++ Y) U.heap ∧ va_K (dC, dI) vwCl ((cB, .array .int) :: (cI, .int) :: tz) U ∧ va_D (fun _ => True) (rfX p0 qt qg h0 rt cB cI vn ct ft fb gl T ++ Y))) (va_Qi (fun (x : Int32) (v : Unit) => (∃ a b, a < ct ∧ b < 7 ∧ k = nI a ∧ i = nI b ∧ x = T a b) ∨ (x = 0 ∧ ¬ ∃ a b, a < ct ∧ b < 7 ∧ k = nI a ∧ i = nI b)) (fun v t => va_P (dC, dI) vwCl (rfX p0 qt qg h0 rt cB cI vn ct ft fb gl T ++ Y) t.heap ∧ va_K (dC, dI) vwCl ((cB, .array .int) :: (cI, .int) :: tz) t ∧ va_D (va_A (rfX p0 qt qg h0 rt cB cI vn ct ft fb gl T ++ Y) sz) (rfX p0 qt qg h0 rt cB cI vn ct ft fb gl T ++ Y)) (va_A (rfX p0 qt qg h0 rt cB cI vn ct ft fb gl T ++ Y) sz)) 0 0 (va_A (rfX p0 qt qg h0 rt cB cI vn ct ft fb gl T ++ Y) sz) := by
  refine Met.ofW (cc := cX1_number) (maxL := 3) (ret := (some .int)) (by decide) rfl ?_
  intro p e s m args below meth c s₁ B hml hv
  obtain ⟨rfl, hsz, hP, hK, hD0⟩ := hv
  have hx := B.exec
  have hb := B.bytes
  have hr := B.returns
  have hts := atoms_spec (ws := wsX1_number) B.pre
  have hown : s.vm.findClass RX1 = some m.cls := findClass_of_methodNamed B.named
  subst hsz
  have hD := hD0.self (sz := s.heap.size)
  clear hD0
  generalize hAe : va_A (rfX p0 qt qg h0 rt cB cI vn ct ft fb gl T ++ Y) s.heap.size = A at hD ⊢
  have hA : ∀ q : Nat, s.heap.size ≤ q → A q := fun q h => by rw [← hAe]; exact Or.inr h
  have hl := lv_entry ([.ref p0, .int k, .int i]) (n := 3) (Nat.le_of_ble_eq_true rfl)
  rw [lg_entry_eq]
  generalize (lg_sl ([.ref p0, .int k, .int i]) ++ List.replicate (3 - (lg_sl ([.ref p0, .int k, .int i])).length) Slot.unset).toArray = ls at hl ⊢
  have hl : lv_has ls 3 [(0, .ref p0), (1, .int k), (2, .int i)] := hl
  have hP : va_P (dC, dI) vwCl (rfX p0 qt qg h0 rt cB cI vn ct ft fb gl T ++ Y) s.heap := hP
  obtain ⟨H, hH⟩ : ∃ H, H = s.heap := ⟨_, rfl⟩
  have hS : va_S A s.heap H [] := by rw [hH]; exact va_S.rf
  rw [← hH] at hP ⊢
  refine lv_aload_n hx hb dX1_number_0 rfl (lv_at hl 0 rfl) ?_
  refine lv_iload_n hx hb dX1_number_1 rfl (lv_at hl 1 rfl) ?_
  have hFc : ∀ q, va_A (rfX p0 qt qg h0 rt cB cI vn ct ft fb gl T ++ Y) H.size q → A q := va_fall hD hS hA
  refine va_calli (va_runV (As := [.int k]) (rest := []) ⟨hx, hb, hml, hown, hts⟩ (c_X1_isRule l dC dI H.size p0 qt qg h0 rt cB cI tz Y vn ct ft fb gl T k hc) (cwV 1 hts gX1_number_X1_isRule rfl rfl rfl (by decide +kernel) ⟨Nat.le_of_ble_eq_true rfl, Nat.le_of_ble_eq_true rfl⟩) ⟨fun a U g mk q => by obtain ⟨q0, q1, qP, qK, qD⟩ := q; exact ⟨q0, q1, qP, va_K.moved (u := U) (U := U.calling g mk a) (Vm.Alike.refl U.vm) qK, qD⟩, va_recv hK hP (ci := 1) (q0 := 0) rfl rfl, fun U hU hW => ⟨rfl, by rw [hU], by rw [hU]; exact hP, va_K.moved hW.alike hK, hD.weaken (fun _ _ _ _ => trivial)⟩⟩ rfl rfl hl.1 rfl (lv_room (Nat.le_of_ble_eq_true rfl)) dX1_number_2 ⟨(Nat.zero_le _), (Nat.zero_le _)⟩) hS (fun q _ h => hFc q h) hFc (fun r_2 v9 t H1 locs ht hvm hw hB hz1 hk1 hS => ?_)
  obtain ⟨hP1, hK1, hD1⟩ := hB
  rw [ht] at hP1
  clear hP hD hK
  have hK := va_K.moved hvm.symm hK1
  have hP := hP1
  have hD := hD1.weaken (B := A) (fun _ q _ h => hFc q.1 h)
  clear hP1 hD1 hK1 hFc hk1 hz1 ht hvm
  generalize H1 = H at hP hS ⊢
  rcases hw with ⟨rfl, a, ha, rfl⟩ | ⟨rfl, hz⟩
  · refine lv_if_eq (tgt := 18) hx hb dX1_number_5 (by decide) (fun c => absurd c (by decide)) (fun _ => ?_)
    refine lv_iload_n hx hb dX1_number_8 rfl (lv_at hl 2 rfl) ?_
    refine lv_if_lt (tgt := 18) hx hb dX1_number_9 (by decide) (fun c1 => ?_) (fun c1 => ?_)
    · refine lv_iconst (v := nI 0) hx hb dX1_number_18 (by decide) ?_
      exact W.iret (v := (nI 0)) hx hb hr (fun t ht hW => ⟨⟨(nI 0), (), rfl, Or.inr ⟨rfl, fun ⟨a2, b2, h1, h2, h3, h4⟩ => by rw [h4] at c1; exact nI_pos (by omega) c1⟩, by rw [ht]; exact hP, va_K.moved hW.alike hK, hD⟩, hS.F ht⟩) hS.2.2 dX1_number_19
    · refine lv_iload_n hx hb dX1_number_12 rfl (lv_at hl 2 rfl) ?_
      refine lv_bipush (v := nI 7) hx hb dX1_number_13 (by decide) ?_
      refine lv_icmp_lt (tgt := 20) hx hb dX1_number_15 (by decide) (fun c2 => ?_) (fun c2 => ?_)
      · obtain ⟨b, hb7, rfl, -⟩ := pk_mu c1 (L := 7) (Int32.not_le.mpr c2) (by omega)
        refine lv_aload_n hx hb dX1_number_20 rfl (lv_at hl 0 rfl) ?_
        refine va_get (D := (dC, dI)) (ci := 1) (v := .ref qt) (C := RX1) (T := TX1) (N := 7) hx hb hts (fun _ h => List.mem_cons_of_mem _ (List.mem_append_right _ h)) hown hK hP 0 rfl rfl 0 (by decide) (hts (.fieldLink RX1 11 "RankFinder" "told" "[[I") (List.mem_of_getElem? (i := 1) rfl)) (fun _ h9 => h9) rfl dX1_number_21 ?_
        refine lv_iload_n hx hb dX1_number_24 rfl (lv_at hl 1 rfl) ?_
        refine na_aald (y := rt a) hx hb hK hP 1 0 rfl rfl (show a < 8 by omega) (by decide) (if_pos (show a < 8 by omega)) dX1_number_25 ?_
        refine lv_iload_n hx hb dX1_number_26 rfl (lv_at hl 2 rfl) ?_
        refine na_iald hx hb hK hP (3 + a) 1 (rf_row (show a < 8 by omega)) rfl hb7 (by decide) dX1_number_27 ?_
        exact W.iret (v := (T a b)) hx hb hr (fun t ht hW => ⟨⟨(T a b), (), rfl, Or.inl ⟨a, b, ha, hb7, rfl, rfl, rfl⟩, by rw [ht]; exact hP, va_K.moved hW.alike hK, hD⟩, hS.F ht⟩) hS.2.2 dX1_number_28
      · refine lv_iconst (v := nI 0) hx hb dX1_number_18 (by decide) ?_
        exact W.iret (v := (nI 0)) hx hb hr (fun t ht hW => ⟨⟨(nI 0), (), rfl, Or.inr ⟨rfl, fun ⟨a2, b2, h1, h2, h3, h4⟩ => by rw [h4] at c2; exact c2 (nI_lt h2 (by omega))⟩, by rw [ht]; exact hP, va_K.moved hW.alike hK, hD⟩, hS.F ht⟩) hS.2.2 dX1_number_19
  · refine lv_if_eq (tgt := 18) hx hb dX1_number_5 (by decide) (fun _ => ?_) (fun c => absurd rfl c)
    refine lv_iconst (v := nI 0) hx hb dX1_number_18 (by decide) ?_
    exact W.iret (v := (nI 0)) hx hb hr (fun t ht hW => ⟨⟨(nI 0), (), rfl, Or.inr ⟨rfl, fun ⟨a2, b2, h1, h2, h3, h4⟩ => hz a2 h1 h3⟩, by rw [ht]; exact hP, va_K.moved hW.alike hK, hD⟩, hS.F ht⟩) hS.2.2 dX1_number_19
end
section
/-! ===== RankFinder: rule, drop, keeps ===== -/
def rowF (f : Nat → Int32) (a0 a1 a2 b0 b1 b2 d : Int32) : Nat → Int32 := upd (upd (upd (upd (upd (upd (upd f 0 a0) 1 a1) 2 a2) 3 b0) 4 b1) 5 b2) 6 d
def okR (a0 a1 a2 b0 b1 b2 d : Int32) : Prop := (inR a0 (nI 9) ∧ inR a1 (nI 9) ∧ inR a2 (nI 9)) ∧ (inR b0 (nI 9) ∧ inR b1 (nI 9) ∧ inR b2 (nI 9)) ∧ inR d (nI 99)
def drF (T : Nat → Nat → Int32) (k i : Nat) : Nat → Nat → Int32 := fun a j => if k ≤ a ∧ a + 1 < i ∧ j < 7 then T (a + 1) j else T a j
theorem drF_0 (T : Nat → Nat → Int32) (k : Nat) : drF T k (k + 1) = T := by
  funext a j; unfold drF; rw [if_neg (by omega)]
theorem drF_s {T : Nat → Nat → Int32} {k i : Nat} (h : k < i) : fup (drF T k i) (i - 1) (va_cpy (drF T k i i) (drF T k i (i - 1)) 0 0 7) = drF T k (i + 1) := by
  funext a j
  unfold fup
  by_cases e : a = i - 1
  · subst e
    simp only [if_true]
    unfold va_cpy
    by_cases h7 : j < 7
    · rw [if_pos (by omega)]
      unfold drF
      rw [if_neg (by omega), if_pos (by omega), show i - 1 + 1 = i by omega, show 0 + (j - 0) = j by omega]
    · rw [if_neg (by omega)]
      unfold drF
      rw [if_neg (by omega), if_neg (by omega)]
  · rw [if_neg e]
    unfold drF
    by_cases q : k ≤ a ∧ a + 1 < i ∧ j < 7
    · rw [if_pos q, if_pos (by omega)]
    · rw [if_neg q, if_neg (by omega)]
/-- what a rule's half makes of values -/
def prF (f : Nat → Int32) (vn k : Nat) (x1 x2 x3 : Int64) : Int64 := if 2 < vn then (if 1 < vn then (f k).toInt64 * x1 + (f (k + 1)).toInt64 * x2 else (f k).toInt64 * x1) + (f (k + 2)).toInt64 * x3 else (if 1 < vn then (f k).toInt64 * x1 + (f (k + 1)).toInt64 * x2 else (f k).toInt64 * x1)
def kpF (f : Nat → Int32) (vn : Nat) (x1 x2 x3 y1 y2 y3 : Int32) : Prop := prF f vn 0 x1.toInt64 x2.toInt64 x3.toInt64 + prF f vn 3 y1.toInt64 y2.toInt64 y3.toInt64 ≤ (f 6).toInt64
set_option maxHeartbeats 1000000 in
set_option maxRecDepth 100000 in
/-- rule(..) -/
theorem c_X1_rule (l : Launch) (dC : Nat → ClassId) (dI : Nat → Nat → Nat) (sz : Nat) (p0 qt qg h0 : Nat) (rt : Nat → Nat) (cB cI : ClassId) (tz : List (ClassId × FieldType)) (Y : va_W) (vn ct : Nat) (ft fb : Int64) (gl : Nat → Int32) (T : Nat → Nat → Int32) (a0 a1 a2 b0 b1 b2 d : Int32) (hc : ct ≤ 8) : Met l yX1_rule wsX1_rule ({ frames := 2, cells := 0, slots := 0, locals := 44 }) (va_Pc [.ref p0, .int a0, .int a1, .int a2, .int b0, .int b1, .int b2, .int d] (fun U => U.heap.size = sz ∧ va_P (dC, dI) vwCl (rfX p0 qt qg h0 rt cB cI vn ct ft fb gl T ++ Y) U.heap ∧ va_K (dC, dI) vwCl ((cB, .array .int) :: (cI, .int) :: tz) U ∧ va_D (fun _ => True) (rfX p0 qt qg h0 rt cB cI vn ct ft fb gl T ++ Y))) (va_Qi (fun (x : Int32) (v : Nat × (Nat → Nat → Int32)) => (ct < 8 ∧ okR a0 a1 a2 b0 b1 b2 d ∧ x = nI ct ∧ v = (ct + 1, fup T ct (rowF (T ct) a0 a1 a2 b0 b1 b2 d))) ∨ (x = -1 ∧ ¬ (ct < 8 ∧ okR a0 a1 a2 b0 b1 b2 d) ∧ v = (ct, T))) (fun v t => va_P (dC, dI) vwCl (rfX p0 qt qg h0 rt cB cI vn v.1 ft fb gl v.2 ++ Y) t.heap ∧ va_K (dC, dI) vwCl ((cB, .array .int) :: (cI, .int) :: tz) t ∧ va_D (va_A (rfX p0 qt qg h0 rt cB cI vn ct ft fb gl T ++ Y) sz) (rfX p0 qt qg h0 rt cB cI vn v.1 ft fb gl v.2 ++ Y)) (va_A (rfX p0 qt qg h0 rt cB cI vn ct ft fb gl T ++ Y) sz)) 0 0 (va_A (rfX p0 qt qg h0 rt cB cI vn ct ft fb gl T ++ Y) sz) := by
  refine Met.ofW (cc := cX1_rule) (maxL := 9) (ret := (some .int)) (by decide) rfl ?_
  intro p e s m args below meth c s₁ B hml hv
  obtain ⟨rfl, hsz, hP, hK, hD0⟩ := hv
  have hx := B.exec
  have hb := B.bytes
  have hr := B.returns
  have hts := atoms_spec (ws := wsX1_rule) B.pre
  have hown : s.vm.findClass RX1 = some m.cls := findClass_of_methodNamed B.named
  subst hsz
  have hD := hD0.self (sz := s.heap.size)
  clear hD0
  generalize hAe : va_A (rfX p0 qt qg h0 rt cB cI vn ct ft fb gl T ++ Y) s.heap.size = A at hD ⊢
  have hA : ∀ q : Nat, s.heap.size ≤ q → A q := fun q h => by rw [← hAe]; exact Or.inr h
  have hl := lv_entry ([.ref p0, .int a0, .int a1, .int a2, .int b0, .int b1, .int b2, .int d]) (n := 9) (Nat.le_of_ble_eq_true rfl)
  rw [lg_entry_eq]
  generalize (lg_sl ([.ref p0, .int a0, .int a1, .int a2, .int b0, .int b1, .int b2, .int d]) ++ List.replicate (9 - (lg_sl ([.ref p0, .int a0, .int a1, .int a2, .int b0, .int b1, .int b2, .int d])).length) Slot.unset).toArray = ls at hl ⊢
  have hl : lv_has ls 9 [(0, .ref p0), (1, .int a0), (2, .int a1), (3, .int a2), (4, .int b0), (5, .int b1), (6, .int b2), (7, .int d)] := hl
  have hP : va_P (dC, dI) vwCl (rfX p0 qt qg h0 rt cB cI vn ct ft fb gl T ++ Y) s.heap := hP
  obtain ⟨H, hH⟩ : ∃ H, H = s.heap := ⟨_, rfl⟩
  have hS : va_S A s.heap H [] := by rw [hH]; exact va_S.rf
  rw [← hH] at hP ⊢
  refine lv_aload_n hx hb dX1_rule_0 rfl (lv_at hl 0 rfl) ?_
  refine va_get (D := (dC, dI)) (ci := 1) (v := .int (nI ct)) (C := RX1) (T := TX1) (N := 7) hx hb hts (fun _ h => List.mem_cons_of_mem _ (List.mem_append_right _ h)) hown hK hP 0 rfl rfl 4 (by decide) (hts (.fieldLink RX1 29 "RankFinder" "count" "I") (List.mem_of_getElem? (i := 1) rfl)) (fun _ h9 => h9) rfl dX1_rule_1 ?_
  refine lv_bipush (v := nI 8) hx hb dX1_rule_4 (by decide) ?_
  refine lv_icmp_ge (tgt := 44) hx hb dX1_rule_6 (by decide) (fun c1 => ?_) (fun c1 => ?_)
  · refine lv_iconst (v := (-1)) hx hb dX1_rule_44 (by decide) ?_
    exact W.iret (v := (-1)) hx hb hr (fun t ht hW => ⟨⟨(-1), (ct, T), rfl, Or.inr ⟨rfl, fun q => nI_ge q.1 (by omega) c1, rfl⟩, by rw [ht]; exact hP, va_K.moved hW.alike hK, hD⟩, hS.F ht⟩) hS.2.2 dX1_rule_45
  · have hc8 : ct < 8 := by
      apply Classical.byContradiction
      intro q
      exact c1 (nI_le (by omega) (by omega))
    refine lv_iload_n hx hb dX1_rule_9 rfl (lv_at hl 1 rfl) ?_
    refine lv_iload_n hx hb dX1_rule_10 rfl (lv_at hl 2 rfl) ?_
    refine lv_iload_n hx hb dX1_rule_11 rfl (lv_at hl 3 rfl) ?_
    refine lv_bipush (v := nI 9) hx hb dX1_rule_12 (by decide) ?_
    have hFc : ∀ q, va_A ([] : va_W) H.size q → A q := fun q h => va_nilA hS hA q h
    refine va_calli (va_runS (As := [.int a0, .int a1, .int a2, .int (nI 9)]) (rest := []) ⟨hx, hb, hml, hown, hts⟩ (c_X1_areWithin l dC dI H.size a0 a1 a2 (nI 9)) (va_cwS 4 hts gX1_rule_X1_areWithin rfl rfl rfl (by decide +kernel) ⟨Nat.le_of_ble_eq_true rfl, Nat.le_of_ble_eq_true rfl⟩) ⟨fun a U g mk q => by obtain ⟨q0, q1, qP, qK, qD⟩ := q; exact ⟨q0, q1, qP, va_K.moved (u := U) (U := U.calling g mk a) (Vm.Alike.refl U.vm) qK, qD⟩, fun U hU hW => ⟨rfl, by rw [hU], va_nilP, va_K.moved hW.alike (hK.sub (tys' := []) [] rfl), va_nilD⟩⟩ rfl rfl hl.1 rfl (lv_room (Nat.le_of_ble_eq_true rfl)) dX1_rule_14 ⟨(Nat.zero_le _), (Nat.zero_le _)⟩) hS (fun q _ h => hFc q h) hFc (fun r_14 v9 t H1 locs ht hvm hw hB hz1 hk1 hS => ?_)
    have hP := va_keep hP hk1
    clear hB hk1 hz1 ht hvm hFc
    generalize H1 = H at hP hS ⊢
    rcases hw with ⟨rfl, h1⟩ | ⟨rfl, h1⟩
    · refine lv_if_eq (tgt := 44) hx hb dX1_rule_17 (by decide) (fun c => absurd c (by decide)) (fun _ => ?_)
      refine lv_iload hx hb dX1_rule_20 (lv_at hl 4 rfl) ?_
      refine lv_iload hx hb dX1_rule_22 (lv_at hl 5 rfl) ?_
      refine lv_iload hx hb dX1_rule_24 (lv_at hl 6 rfl) ?_
      refine lv_bipush (v := nI 9) hx hb dX1_rule_26 (by decide) ?_
      have hFc : ∀ q, va_A ([] : va_W) H.size q → A q := fun q h => va_nilA hS hA q h
      refine va_calli (va_runS (As := [.int b0, .int b1, .int b2, .int (nI 9)]) (rest := []) ⟨hx, hb, hml, hown, hts⟩ (c_X1_areWithin l dC dI H.size b0 b1 b2 (nI 9)) (va_cwS 4 hts gX1_rule_X1_areWithin rfl rfl rfl (by decide +kernel) ⟨Nat.le_of_ble_eq_true rfl, Nat.le_of_ble_eq_true rfl⟩) ⟨fun a U g mk q => by obtain ⟨q0, q1, qP, qK, qD⟩ := q; exact ⟨q0, q1, qP, va_K.moved (u := U) (U := U.calling g mk a) (Vm.Alike.refl U.vm) qK, qD⟩, fun U hU hW => ⟨rfl, by rw [hU], va_nilP, va_K.moved hW.alike (hK.sub (tys' := []) [] rfl), va_nilD⟩⟩ rfl rfl hl.1 rfl (lv_room (Nat.le_of_ble_eq_true rfl)) dX1_rule_28 ⟨(Nat.zero_le _), (Nat.zero_le _)⟩) hS (fun q _ h => hFc q h) hFc (fun r_28 v9 t H1 locs ht hvm hw hB hz1 hk1 hS => ?_)
      have hP := va_keep hP hk1
      clear hB hk1 hz1 ht hvm hFc
      generalize H1 = H at hP hS ⊢
      rcases hw with ⟨rfl, h2⟩ | ⟨rfl, h2⟩
      · refine lv_if_eq (tgt := 44) hx hb dX1_rule_31 (by decide) (fun c => absurd c (by decide)) (fun _ => ?_)
        refine lv_iload hx hb dX1_rule_34 (lv_at hl 7 rfl) ?_
        refine lv_bipush (v := nI 99) hx hb dX1_rule_36 (by decide) ?_
        have hFc : ∀ q, va_A ([] : va_W) H.size q → A q := fun q h => va_nilA hS hA q h
        refine va_calli (va_runS (As := [.int d, .int (nI 99)]) (rest := []) ⟨hx, hb, hml, hown, hts⟩ (c_X1_isWithin l dC dI H.size d (nI 99)) (va_cwS 2 hts gX1_rule_X1_isWithin rfl rfl rfl (by decide +kernel) ⟨Nat.le_of_ble_eq_true rfl, Nat.le_of_ble_eq_true rfl⟩) ⟨fun a U g mk q => by obtain ⟨q0, q1, qP, qK, qD⟩ := q; exact ⟨q0, q1, qP, va_K.moved (u := U) (U := U.calling g mk a) (Vm.Alike.refl U.vm) qK, qD⟩, fun U hU hW => ⟨rfl, by rw [hU], va_nilP, va_K.moved hW.alike (hK.sub (tys' := []) [] rfl), va_nilD⟩⟩ rfl rfl hl.1 rfl (lv_room (Nat.le_of_ble_eq_true rfl)) dX1_rule_38 ⟨(Nat.zero_le _), (Nat.zero_le _)⟩) hS (fun q _ h => hFc q h) hFc (fun r_38 v9 t H1 locs ht hvm hw hB hz1 hk1 hS => ?_)
        have hP := va_keep hP hk1
        clear hB hk1 hz1 ht hvm hFc
        generalize H1 = H at hP hS ⊢
        rcases hw with ⟨rfl, h3⟩ | ⟨rfl, h3⟩
        · refine lv_if_ne (tgt := 46) hx hb dX1_rule_41 (by decide) (fun _ => ?_) (fun c => absurd c (by decide))
          refine lv_aload_n hx hb dX1_rule_46 rfl (lv_at hl 0 rfl) ?_
          refine va_get (D := (dC, dI)) (ci := 1) (v := .ref qt) (C := RX1) (T := TX1) (N := 7) hx hb hts (fun _ h => List.mem_cons_of_mem _ (List.mem_append_right _ h)) hown hK hP 0 rfl rfl 0 (by decide) (hts (.fieldLink RX1 11 "RankFinder" "told" "[[I") (List.mem_of_getElem? (i := 2) rfl)) (fun _ h9 => h9) rfl dX1_rule_47 ?_
          refine lv_aload_n hx hb dX1_rule_50 rfl (lv_at hl 0 rfl) ?_
          refine va_get (D := (dC, dI)) (ci := 1) (v := .int (nI ct)) (C := RX1) (T := TX1) (N := 7) hx hb hts (fun _ h => List.mem_cons_of_mem _ (List.mem_append_right _ h)) hown hK hP 0 rfl rfl 4 (by decide) (hts (.fieldLink RX1 29 "RankFinder" "count" "I") (List.mem_of_getElem? (i := 1) rfl)) (fun _ h9 => h9) rfl dX1_rule_51 ?_
          refine na_aald (y := rt ct) hx hb hK hP 1 0 rfl rfl hc8 (by decide) (if_pos hc8) dX1_rule_54 ?_
          refine lv_astore (lv' := [(8, .ref (rt ct)), (0, .ref p0), (1, .int a0), (2, .int a1), (3, .int a2), (4, .int b0), (5, .int b1), (6, .int b2), (7, .int d)]) hx hb dX1_rule_55 hl (by decide) rfl (fun ls hl => ?_)
          refine lv_aload hx hb dX1_rule_57 (lv_at hl 0 rfl) ?_
          refine lv_iconst (v := nI 0) hx hb dX1_rule_59 (by decide) ?_
          refine lv_iload_n hx hb dX1_rule_60 rfl (lv_at hl 2 rfl) ?_
          refine lv_iload_n hx hb dX1_rule_61 rfl (lv_at hl 3 rfl) ?_
          refine lv_iload_n hx hb dX1_rule_62 rfl (lv_at hl 4 rfl) ?_
          have hk9 : (rfX p0 qt qg h0 rt cB cI vn ct ft fb gl T ++ Y)[3 + ct]? = some (rt ct, .inl (cI, 7, .inl (T ct))) := rf_row hc8
          have hFc := va_oneA hD hk9 hS hA
          refine va_callv (va_runS (As := [.ref (rt ct), .int (nI 0), .int a0, .int a1, .int a2]) (rest := []) ⟨hx, hb, hml, hown, hts⟩ (c_X1_fill l dC dI H.size cI (rt ct) 7 0 (T ct) a0 a1 a2 (by omega) (by omega)) (va_cwS 5 hts gX1_rule_X1_fill rfl rfl rfl (by decide +kernel) ⟨Nat.le_of_ble_eq_true rfl, Nat.le_of_ble_eq_true rfl⟩) ⟨fun a U g mk q => by obtain ⟨q0, q1, qP, qK, qD⟩ := q; exact ⟨q0, q1, qP, va_K.moved (u := U) (U := U.calling g mk a) (Vm.Alike.refl U.vm) qK, qD⟩, fun U hU hW => ⟨rfl, by rw [hU], by rw [hU]; exact va_oneP hP hk9, va_K.moved hW.alike (hK.sub [1] rfl), va_oneD trivial⟩⟩ rfl rfl hl.1 rfl (lv_room (Nat.le_of_ble_eq_true rfl)) dX1_rule_63 ⟨(Nat.zero_le _), (Nat.zero_le _)⟩) hS (fun q _ h => hFc q h) hFc (fun v9 t H1 locs ht hvm hw hB hz1 hk1 hS => ?_)
          obtain ⟨hP1, hK1, hD1⟩ := hB
          rw [ht] at hP1
          obtain ⟨hP, hD⟩ := jn_at hP hD hk9 hk1 hP1
          rw [rf_set hc8] at hP hD
          clear hP1 hD1 hK1 hFc hk1 hz1 ht hvm hk9
          generalize H1 = H at hP hS ⊢
          have hP : va_P (dC, dI) vwCl (rfX p0 qt qg h0 rt cB cI vn ct ft fb gl (fup T ct (upd (upd (upd (T ct) 0 a0) (0 + 1) a1) (0 + 2) a2)) ++ Y) H := hP
          have hD : va_D A (rfX p0 qt qg h0 rt cB cI vn ct ft fb gl (fup T ct (upd (upd (upd (T ct) 0 a0) (0 + 1) a1) (0 + 2) a2)) ++ Y) := hD
          refine lv_aload hx hb dX1_rule_66 (lv_at hl 0 rfl) ?_
          refine lv_iconst (v := nI 3) hx hb dX1_rule_68 (by decide) ?_
          refine lv_iload hx hb dX1_rule_69 (lv_at hl 5 rfl) ?_
          refine lv_iload hx hb dX1_rule_71 (lv_at hl 6 rfl) ?_
          refine lv_iload hx hb dX1_rule_73 (lv_at hl 7 rfl) ?_
          have hk9 : (rfX p0 qt qg h0 rt cB cI vn ct ft fb gl (fup T ct (upd (upd (upd (T ct) 0 a0) (0 + 1) a1) (0 + 2) a2)) ++ Y)[3 + ct]? = some (rt ct, .inl (cI, 7, .inl ((fup T ct (upd (upd (upd (T ct) 0 a0) (0 + 1) a1) (0 + 2) a2)) ct))) := rf_row hc8
          have hFc := va_oneA hD hk9 hS hA
          refine va_callv (va_runS (As := [.ref (rt ct), .int (nI 3), .int b0, .int b1, .int b2]) (rest := []) ⟨hx, hb, hml, hown, hts⟩ (c_X1_fill l dC dI H.size cI (rt ct) 7 3 ((fup T ct (upd (upd (upd (T ct) 0 a0) (0 + 1) a1) (0 + 2) a2)) ct) b0 b1 b2 (by omega) (by omega)) (va_cwS 5 hts gX1_rule_X1_fill rfl rfl rfl (by decide +kernel) ⟨Nat.le_of_ble_eq_true rfl, Nat.le_of_ble_eq_true rfl⟩) ⟨fun a U g mk q => by obtain ⟨q0, q1, qP, qK, qD⟩ := q; exact ⟨q0, q1, qP, va_K.moved (u := U) (U := U.calling g mk a) (Vm.Alike.refl U.vm) qK, qD⟩, fun U hU hW => ⟨rfl, by rw [hU], by rw [hU]; exact va_oneP hP hk9, va_K.moved hW.alike (hK.sub [1] rfl), va_oneD trivial⟩⟩ rfl rfl hl.1 rfl (lv_room (Nat.le_of_ble_eq_true rfl)) dX1_rule_75 ⟨(Nat.zero_le _), (Nat.zero_le _)⟩) hS (fun q _ h => hFc q h) hFc (fun v9 t H1 locs ht hvm hw hB hz1 hk1 hS => ?_)
          obtain ⟨hP1, hK1, hD1⟩ := hB
          rw [ht] at hP1
          obtain ⟨hP, hD⟩ := jn_at hP hD hk9 hk1 hP1
          rw [rf_set hc8] at hP hD
          clear hP1 hD1 hK1 hFc hk1 hz1 ht hvm hk9
          generalize H1 = H at hP hS ⊢
          have hP : va_P (dC, dI) vwCl (rfX p0 qt qg h0 rt cB cI vn ct ft fb gl (fup (fup T ct (upd (upd (upd (T ct) 0 a0) (0 + 1) a1) (0 + 2) a2)) ct (upd (upd (upd ((fup T ct (upd (upd (upd (T ct) 0 a0) (0 + 1) a1) (0 + 2) a2)) ct) 3 b0) (3 + 1) b1) (3 + 2) b2)) ++ Y) H := hP
          have hD : va_D A (rfX p0 qt qg h0 rt cB cI vn ct ft fb gl (fup (fup T ct (upd (upd (upd (T ct) 0 a0) (0 + 1) a1) (0 + 2) a2)) ct (upd (upd (upd ((fup T ct (upd (upd (upd (T ct) 0 a0) (0 + 1) a1) (0 + 2) a2)) ct) 3 b0) (3 + 1) b1) (3 + 2) b2)) ++ Y) := hD
          refine lv_aload hx hb dX1_rule_78 (lv_at hl 0 rfl) ?_
          refine lv_bipush (v := nI 6) hx hb dX1_rule_80 (by decide) ?_
          refine lv_iload hx hb dX1_rule_82 (lv_at hl 8 rfl) ?_
          refine na_iast hx hb hK hP hD hS (3 + ct) 1 (rf_row hc8) rfl (show 6 < 7 by omega) (by decide) dX1_rule_84 (fun H locs hP hD hS => ?_)
          rw [rf_set hc8] at hP hD
          have hP : va_P (dC, dI) vwCl (rfX p0 qt qg h0 rt cB cI vn ct ft fb gl (fup (fup (fup T ct (upd (upd (upd (T ct) 0 a0) (0 + 1) a1) (0 + 2) a2)) ct (upd (upd (upd ((fup T ct (upd (upd (upd (T ct) 0 a0) (0 + 1) a1) (0 + 2) a2)) ct) 3 b0) (3 + 1) b1) (3 + 2) b2)) ct (upd ((fup (fup T ct (upd (upd (upd (T ct) 0 a0) (0 + 1) a1) (0 + 2) a2)) ct (upd (upd (upd ((fup T ct (upd (upd (upd (T ct) 0 a0) (0 + 1) a1) (0 + 2) a2)) ct) 3 b0) (3 + 1) b1) (3 + 2) b2)) ct) 6 d)) ++ Y) H := hP
          have hD : va_D A (rfX p0 qt qg h0 rt cB cI vn ct ft fb gl (fup (fup (fup T ct (upd (upd (upd (T ct) 0 a0) (0 + 1) a1) (0 + 2) a2)) ct (upd (upd (upd ((fup T ct (upd (upd (upd (T ct) 0 a0) (0 + 1) a1) (0 + 2) a2)) ct) 3 b0) (3 + 1) b1) (3 + 2) b2)) ct (upd ((fup (fup T ct (upd (upd (upd (T ct) 0 a0) (0 + 1) a1) (0 + 2) a2)) ct (upd (upd (upd ((fup T ct (upd (upd (upd (T ct) 0 a0) (0 + 1) a1) (0 + 2) a2)) ct) 3 b0) (3 + 1) b1) (3 + 2) b2)) ct) 6 d)) ++ Y) := hD
          refine lv_aload_n hx hb dX1_rule_85 rfl (lv_at hl 1 rfl) ?_
          refine lv_dup hx hb dX1_rule_86 rfl ?_
          refine va_get (D := (dC, dI)) (ci := 1) (v := .int (nI ct)) (C := RX1) (T := TX1) (N := 7) hx hb hts (fun _ h => List.mem_cons_of_mem _ (List.mem_append_right _ h)) hown hK hP 0 rfl rfl 4 (by decide) (hts (.fieldLink RX1 29 "RankFinder" "count" "I") (List.mem_of_getElem? (i := 1) rfl)) (fun _ h9 => h9) rfl dX1_rule_87 ?_
          refine lv_iconst (v := nI 1) hx hb dX1_rule_90 (by decide) ?_
          refine lv_iadd hx hb dX1_rule_91 ?_
          refine lv_topi (fun z_1 ez_1 => ?_)
          obtain rfl : z_1 = nI (ct + 1) := ez_1.trans (nI_add ct 1)
          refine va_put (D := (dC, dI)) (ci := 1) (v := .int (nI (ct + 1))) (ty := .int) (C := RX1) (T := TX1) (N := 7) hx hb hts (fun _ h => List.mem_cons_of_mem _ (List.mem_append_right _ h)) tyX1 tyX1_ok nmX1 hown hK hP hD hS 0 rfl rfl 4 (by decide) (hts (.fieldLink RX1 29 "RankFinder" "count" "I") (List.mem_of_getElem? (i := 1) rfl)) (fun _ h9 => h9) rfl (by decide +kernel) rfl rfl (Nat.le_of_ble_eq_true rfl) dX1_rule_92 (fun H locs hP hD hS => ?_)
          have hP : va_P (dC, dI) vwCl (rfX p0 qt qg h0 rt cB cI vn (ct + 1) ft fb gl (fup (fup (fup T ct (upd (upd (upd (T ct) 0 a0) (0 + 1) a1) (0 + 2) a2)) ct (upd (upd (upd ((fup T ct (upd (upd (upd (T ct) 0 a0) (0 + 1) a1) (0 + 2) a2)) ct) 3 b0) (3 + 1) b1) (3 + 2) b2)) ct (upd ((fup (fup T ct (upd (upd (upd (T ct) 0 a0) (0 + 1) a1) (0 + 2) a2)) ct (upd (upd (upd ((fup T ct (upd (upd (upd (T ct) 0 a0) (0 + 1) a1) (0 + 2) a2)) ct) 3 b0) (3 + 1) b1) (3 + 2) b2)) ct) 6 d)) ++ Y) H := hP
          have hD : va_D A (rfX p0 qt qg h0 rt cB cI vn (ct + 1) ft fb gl (fup (fup (fup T ct (upd (upd (upd (T ct) 0 a0) (0 + 1) a1) (0 + 2) a2)) ct (upd (upd (upd ((fup T ct (upd (upd (upd (T ct) 0 a0) (0 + 1) a1) (0 + 2) a2)) ct) 3 b0) (3 + 1) b1) (3 + 2) b2)) ct (upd ((fup (fup T ct (upd (upd (upd (T ct) 0 a0) (0 + 1) a1) (0 + 2) a2)) ct (upd (upd (upd ((fup T ct (upd (upd (upd (T ct) 0 a0) (0 + 1) a1) (0 + 2) a2)) ct) 3 b0) (3 + 1) b1) (3 + 2) b2)) ct) 6 d)) ++ Y) := hD
          refine lv_aload_n hx hb dX1_rule_95 rfl (lv_at hl 1 rfl) ?_
          refine va_get (D := (dC, dI)) (ci := 1) (v := .int (nI (ct + 1))) (C := RX1) (T := TX1) (N := 7) hx hb hts (fun _ h => List.mem_cons_of_mem _ (List.mem_append_right _ h)) hown hK hP 0 rfl rfl 4 (by decide) (hts (.fieldLink RX1 29 "RankFinder" "count" "I") (List.mem_of_getElem? (i := 1) rfl)) (fun _ h9 => h9) rfl dX1_rule_96 ?_
          refine lv_iconst (v := nI 1) hx hb dX1_rule_99 (by decide) ?_
          refine lv_isub hx hb dX1_rule_100 ?_
          refine lv_topi (fun z_2 ez_2 => ?_)
          obtain rfl : z_2 = nI ct := ez_2.trans (pk_sub (a := ct + 1) (b := 1) (by omega))
          have e9 : fup (fup (fup T ct (upd (upd (upd (T ct) 0 a0) (0 + 1) a1) (0 + 2) a2)) ct (upd (upd (upd ((fup T ct (upd (upd (upd (T ct) 0 a0) (0 + 1) a1) (0 + 2) a2)) ct) 3 b0) (3 + 1) b1) (3 + 2) b2)) ct (upd ((fup (fup T ct (upd (upd (upd (T ct) 0 a0) (0 + 1) a1) (0 + 2) a2)) ct (upd (upd (upd ((fup T ct (upd (upd (upd (T ct) 0 a0) (0 + 1) a1) (0 + 2) a2)) ct) 3 b0) (3 + 1) b1) (3 + 2) b2)) ct) 6 d) = fup T ct (rowF (T ct) a0 a1 a2 b0 b1 b2 d) := by simp only [fup_s, fup_2]; rfl
          rw [e9] at hP hD
          exact W.iret (v := (nI ct)) hx hb hr (fun t ht hW => ⟨⟨(nI ct), (ct + 1, fup T ct (rowF (T ct) a0 a1 a2 b0 b1 b2 d)), rfl, Or.inl ⟨hc8, ⟨h1, h2, h3⟩, rfl, rfl⟩, by rw [ht]; exact hP, va_K.moved hW.alike hK, hD⟩, hS.F ht⟩) hS.2.2 dX1_rule_101
        · refine lv_if_ne (tgt := 46) hx hb dX1_rule_41 (by decide) (fun c => absurd rfl c) (fun _ => ?_)
          refine lv_iconst (v := (-1)) hx hb dX1_rule_44 (by decide) ?_
          exact W.iret (v := (-1)) hx hb hr (fun t ht hW => ⟨⟨(-1), (ct, T), rfl, Or.inr ⟨rfl, fun q => h3 q.2.2.2, rfl⟩, by rw [ht]; exact hP, va_K.moved hW.alike hK, hD⟩, hS.F ht⟩) hS.2.2 dX1_rule_45
      · refine lv_if_eq (tgt := 44) hx hb dX1_rule_31 (by decide) (fun _ => ?_) (fun c => absurd rfl c)
        refine lv_iconst (v := (-1)) hx hb dX1_rule_44 (by decide) ?_
        exact W.iret (v := (-1)) hx hb hr (fun t ht hW => ⟨⟨(-1), (ct, T), rfl, Or.inr ⟨rfl, fun q => h2 q.2.2.1, rfl⟩, by rw [ht]; exact hP, va_K.moved hW.alike hK, hD⟩, hS.F ht⟩) hS.2.2 dX1_rule_45
    · refine lv_if_eq (tgt := 44) hx hb dX1_rule_17 (by decide) (fun _ => ?_) (fun c => absurd rfl c)
      refine lv_iconst (v := (-1)) hx hb dX1_rule_44 (by decide) ?_
      exact W.iret (v := (-1)) hx hb hr (fun t ht hW => ⟨⟨(-1), (ct, T), rfl, Or.inr ⟨rfl, fun q => h1 q.2.1, rfl⟩, by rw [ht]; exact hP, va_K.moved hW.alike hK, hD⟩, hS.F ht⟩) hS.2.2 dX1_rule_45
set_option maxHeartbeats 1000000 in
set_option maxRecDepth 100000 in
/-- drop(k) -/
theorem c_X1_drop (l : Launch) (dC : Nat → ClassId) (dI : Nat → Nat → Nat) (sz : Nat) (p0 qt qg h0 : Nat) (rt : Nat → Nat) (cB cI : ClassId) (tz : List (ClassId × FieldType)) (Y : va_W) (vn ct : Nat) (ft fb : Int64) (gl : Nat → Int32) (T : Nat → Nat → Int32) (k : Int32) (hc : ct ≤ 8) : Met l yX1_drop wsX1_drop ({ frames := 1, cells := 0, slots := 0, locals := 60 }) (va_Pc [.ref p0, .int k] (fun U => U.heap.size = sz ∧ va_P (dC, dI) vwCl (rfX p0 qt qg h0 rt cB cI vn ct ft fb gl T ++ Y) U.heap ∧ va_K (dC, dI) vwCl ((cB, .array .int) :: (cI, .int) :: tz) U ∧ va_D (fun _ => True) (rfX p0 qt qg h0 rt cB cI vn ct ft fb gl T ++ Y))) (va_Qi (fun (x : Int32) (v : Nat × (Nat → Nat → Int32)) => (∃ j, j < ct ∧ k = nI j ∧ x = 1 ∧ v = (ct - 1, drF T j ct)) ∨ (x = 0 ∧ (∀ j, j < ct → k ≠ nI j) ∧ v = (ct, T))) (fun v t => va_P (dC, dI) vwCl (rfX p0 qt qg h0 rt cB cI vn v.1 ft fb gl v.2 ++ Y) t.heap ∧ va_K (dC, dI) vwCl ((cB, .array .int) :: (cI, .int) :: tz) t ∧ va_D (va_A (rfX p0 qt qg h0 rt cB cI vn ct ft fb gl T ++ Y) sz) (rfX p0 qt qg h0 rt cB cI vn v.1 ft fb gl v.2 ++ Y)) (va_A (rfX p0 qt qg h0 rt cB cI vn ct ft fb gl T ++ Y) sz)) 0 0 (va_A (rfX p0 qt qg h0 rt cB cI vn ct ft fb gl T ++ Y) sz) := by
  refine Met.ofW (cc := cX1_drop) (maxL := 3) (ret := (some .boolean)) (by decide) rfl ?_
  intro p e s m args below meth c s₁ B hml hv
  obtain ⟨rfl, hsz, hP, hK, hD0⟩ := hv
  have hx := B.exec
  have hb := B.bytes
  have hr := B.returns
  have hts := atoms_spec (ws := wsX1_drop) B.pre
  have hown : s.vm.findClass RX1 = some m.cls := findClass_of_methodNamed B.named
  subst hsz
  have hD := hD0.self (sz := s.heap.size)
  clear hD0
  generalize hAe : va_A (rfX p0 qt qg h0 rt cB cI vn ct ft fb gl T ++ Y) s.heap.size = A at hD ⊢
  have hA : ∀ q : Nat, s.heap.size ≤ q → A q := fun q h => by rw [← hAe]; exact Or.inr h
  have hl := lv_entry ([.ref p0, .int k]) (n := 3) (Nat.le_of_ble_eq_true rfl)
  rw [lg_entry_eq]
  generalize (lg_sl ([.ref p0, .int k]) ++ List.replicate (3 - (lg_sl ([.ref p0, .int k])).length) Slot.unset).toArray = ls at hl ⊢
  have hl : lv_has ls 3 [(0, .ref p0), (1, .int k)] := hl
  have hP : va_P (dC, dI) vwCl (rfX p0 qt qg h0 rt cB cI vn ct ft fb gl T ++ Y) s.heap := hP
  obtain ⟨H, hH⟩ : ∃ H, H = s.heap := ⟨_, rfl⟩
  have hS : va_S A s.heap H [] := by rw [hH]; exact va_S.rf
  rw [← hH] at hP ⊢
  refine lv_aload_n hx hb dX1_drop_0 rfl (lv_at hl 0 rfl) ?_
  refine lv_iload_n hx hb dX1_drop_1 rfl (lv_at hl 1 rfl) ?_
  have hFc : ∀ q, va_A (rfX p0 qt qg h0 rt cB cI vn ct ft fb gl T ++ Y) H.size q → A q := va_fall hD hS hA
  refine va_calli (va_runV (As := [.int k]) (rest := []) ⟨hx, hb, hml, hown, hts⟩ (c_X1_isRule l dC dI H.size p0 qt qg h0 rt cB cI tz Y vn ct ft fb gl T k hc) (cwV 1 hts gX1_drop_X1_isRule rfl rfl rfl (by decide +kernel) ⟨Nat.le_of_ble_eq_true rfl, Nat.le_of_ble_eq_true rfl⟩) ⟨fun a U g mk q => by obtain ⟨q0, q1, qP, qK, qD⟩ := q; exact ⟨q0, q1, qP, va_K.moved (u := U) (U := U.calling g mk a) (Vm.Alike.refl U.vm) qK, qD⟩, va_recv hK hP (ci := 1) (q0 := 0) rfl rfl, fun U hU hW => ⟨rfl, by rw [hU], by rw [hU]; exact hP, va_K.moved hW.alike hK, hD.weaken (fun _ _ _ _ => trivial)⟩⟩ rfl rfl hl.1 rfl (lv_room (Nat.le_of_ble_eq_true rfl)) dX1_drop_2 ⟨(Nat.zero_le _), (Nat.zero_le _)⟩) hS (fun q _ h => hFc q h) hFc (fun r_2 v9 t H1 locs ht hvm hw hB hz1 hk1 hS => ?_)
  obtain ⟨hP1, hK1, hD1⟩ := hB
  rw [ht] at hP1
  clear hP hD hK
  have hK := va_K.moved hvm.symm hK1
  have hP := hP1
  have hD := hD1.weaken (B := A) (fun _ q _ h => hFc q.1 h)
  clear hP1 hD1 hK1 hFc hk1 hz1 ht hvm
  generalize H1 = H at hP hS ⊢
  rcases hw with ⟨rfl, j, hj, rfl⟩ | ⟨rfl, hz⟩
  · refine lv_if_ne (tgt := 10) hx hb dX1_drop_5 (by decide) (fun _ => ?_) (fun c => absurd c (by decide))
    refine lv_iload_n hx hb dX1_drop_10 rfl (lv_at hl 1 rfl) ?_
    refine lv_iconst (v := nI 1) hx hb dX1_drop_11 (by decide) ?_
    refine lv_iadd hx hb dX1_drop_12 ?_
    refine lv_topi (fun z_1 ez_1 => ?_)
    obtain rfl : z_1 = nI (j + 1) := ez_1.trans (nI_add j 1)
    refine lv_istore_n (lv' := [(2, .int (nI (j + 1))), (0, .ref p0), (1, .int (nI j))]) hx hb dX1_drop_13 rfl hl (by decide) rfl (fun ls hl => ?_)
    have loop : ∀ (d i : Nat) (H : Heap) (locs : List Loc) (ls : Array Slot), i + d = ct → j < i → va_P (dC, dI) vwCl (rfX p0 qt qg h0 rt cB cI vn ct ft fb gl (drF T j i) ++ Y) H → va_K (dC, dI) vwCl ((cB, .array .int) :: (cI, .int) :: tz) s → va_D A (rfX p0 qt qg h0 rt cB cI vn ct ft fb gl (drF T j i) ++ Y) → va_S A s.heap H locs → lv_has ls 3 [(2, .int (nI i)), (0, .ref p0), (1, .int (nI j))] → W p l e (headSpec wsX1_drop ({ frames := 1, cells := 0, slots := 0, locals := 60 })).room s m #[.ref p0, .int (nI j)] below meth c H locs 0 0 (MQ below (va_Qi (fun (x : Int32) (v : Nat × (Nat → Nat → Int32)) => (∃ j9, j9 < ct ∧ nI j = nI j9 ∧ x = 1 ∧ v = (ct - 1, drF T j9 ct)) ∨ (x = 0 ∧ (∀ j9, j9 < ct → nI j ≠ nI j9) ∧ v = (ct, T))) (fun v t => va_P (dC, dI) vwCl (rfX p0 qt qg h0 rt cB cI vn v.1 ft fb gl v.2 ++ Y) t.heap ∧ va_K (dC, dI) vwCl ((cB, .array .int) :: (cI, .int) :: tz) t ∧ va_D A (rfX p0 qt qg h0 rt cB cI vn v.1 ft fb gl v.2 ++ Y)) A) #[.ref p0, .int (nI j)] s 0 0 A) (F0 m 14 ls []) := by
      clear hP hK hD hS hl
      intro d
      induction d with
      | zero =>
        intro i H locs ls hi hji hP hK hD hS hl
        refine lv_iload_n hx hb dX1_drop_14 rfl (lv_at hl 0 rfl) ?_
        refine lv_aload_n hx hb dX1_drop_15 rfl (lv_at hl 1 rfl) ?_
        refine va_get (D := (dC, dI)) (ci := 1) (v := .int (nI ct)) (C := RX1) (T := TX1) (N := 7) hx hb hts (fun _ h => List.mem_cons_of_mem _ (List.mem_append_right _ h)) hown hK hP 0 rfl rfl 4 (by decide) (hts (.fieldLink RX1 29 "RankFinder" "count" "I") (List.mem_of_getElem? (i := 1) rfl)) (fun _ h9 => h9) rfl dX1_drop_16 ?_
        refine lv_icmp_ge (tgt := 49) hx hb dX1_drop_19 (by decide) (fun c1 => ?_) (fun c1 => ?_)
        · obtain rfl : i = ct := by omega
          refine lv_aload_n hx hb dX1_drop_49 rfl (lv_at hl 1 rfl) ?_
          refine lv_dup hx hb dX1_drop_50 rfl ?_
          refine va_get (D := (dC, dI)) (ci := 1) (v := .int (nI i)) (C := RX1) (T := TX1) (N := 7) hx hb hts (fun _ h => List.mem_cons_of_mem _ (List.mem_append_right _ h)) hown hK hP 0 rfl rfl 4 (by decide) (hts (.fieldLink RX1 29 "RankFinder" "count" "I") (List.mem_of_getElem? (i := 1) rfl)) (fun _ h9 => h9) rfl dX1_drop_51 ?_
          refine lv_iconst (v := nI 1) hx hb dX1_drop_54 (by decide) ?_
          refine lv_isub hx hb dX1_drop_55 ?_
          refine lv_topi (fun z_1 ez_1 => ?_)
          obtain rfl : z_1 = nI (i - 1) := ez_1.trans (pk_sub (by omega))
          refine va_put (D := (dC, dI)) (ci := 1) (v := .int (nI (i - 1))) (ty := .int) (C := RX1) (T := TX1) (N := 7) hx hb hts (fun _ h => List.mem_cons_of_mem _ (List.mem_append_right _ h)) tyX1 tyX1_ok nmX1 hown hK hP hD hS 0 rfl rfl 4 (by decide) (hts (.fieldLink RX1 29 "RankFinder" "count" "I") (List.mem_of_getElem? (i := 1) rfl)) (fun _ h9 => h9) rfl (by decide +kernel) rfl rfl (Nat.le_of_ble_eq_true rfl) dX1_drop_56 (fun H locs hP hD hS => ?_)
          have hP : va_P (dC, dI) vwCl (rfX p0 qt qg h0 rt cB cI vn (i - 1) ft fb gl (drF T j i) ++ Y) H := hP
          have hD : va_D A (rfX p0 qt qg h0 rt cB cI vn (i - 1) ft fb gl (drF T j i) ++ Y) := hD
          refine lv_iconst (v := nI 1) hx hb dX1_drop_59 (by decide) ?_
          exact W.zret (v := (nI 1)) hx hb hr (by rfl) (fun t ht hW => ⟨⟨(nI 1), (i - 1, drF T j i), rfl, Or.inl ⟨j, by omega, rfl, rfl, rfl⟩, by rw [ht]; exact hP, va_K.moved hW.alike hK, hD⟩, hS.F ht⟩) hS.2.2 dX1_drop_60
        · exact absurd (nI_le (by omega) (by omega)) c1
      | succ d ih =>
        intro i H locs ls hi hji hP hK hD hS hl
        refine lv_iload_n hx hb dX1_drop_14 rfl (lv_at hl 0 rfl) ?_
        refine lv_aload_n hx hb dX1_drop_15 rfl (lv_at hl 1 rfl) ?_
        refine va_get (D := (dC, dI)) (ci := 1) (v := .int (nI ct)) (C := RX1) (T := TX1) (N := 7) hx hb hts (fun _ h => List.mem_cons_of_mem _ (List.mem_append_right _ h)) hown hK hP 0 rfl rfl 4 (by decide) (hts (.fieldLink RX1 29 "RankFinder" "count" "I") (List.mem_of_getElem? (i := 1) rfl)) (fun _ h9 => h9) rfl dX1_drop_16 ?_
        refine lv_icmp_ge (tgt := 49) hx hb dX1_drop_19 (by decide) (fun c1 => ?_) (fun c1 => ?_)
        · exact absurd c1 (nI_ge (by omega) (by omega))
        · refine lv_aload_n hx hb dX1_drop_22 rfl (lv_at hl 1 rfl) ?_
          refine va_get (D := (dC, dI)) (ci := 1) (v := .ref qt) (C := RX1) (T := TX1) (N := 7) hx hb hts (fun _ h => List.mem_cons_of_mem _ (List.mem_append_right _ h)) hown hK hP 0 rfl rfl 0 (by decide) (hts (.fieldLink RX1 11 "RankFinder" "told" "[[I") (List.mem_of_getElem? (i := 2) rfl)) (fun _ h9 => h9) rfl dX1_drop_23 ?_
          refine lv_iload_n hx hb dX1_drop_26 rfl (lv_at hl 0 rfl) ?_
          refine na_aald (y := rt i) hx hb hK hP 1 0 rfl rfl (show i < 8 by omega) (by decide) (if_pos (show i < 8 by omega)) dX1_drop_27 ?_
          refine lv_iconst (v := nI 0) hx hb dX1_drop_28 (by decide) ?_
          refine lv_aload_n hx hb dX1_drop_29 rfl (lv_at hl 1 rfl) ?_
          refine va_get (D := (dC, dI)) (ci := 1) (v := .ref qt) (C := RX1) (T := TX1) (N := 7) hx hb hts (fun _ h => List.mem_cons_of_mem _ (List.mem_append_right _ h)) hown hK hP 0 rfl rfl 0 (by decide) (hts (.fieldLink RX1 11 "RankFinder" "told" "[[I") (List.mem_of_getElem? (i := 2) rfl)) (fun _ h9 => h9) rfl dX1_drop_30 ?_
          refine lv_iload_n hx hb dX1_drop_33 rfl (lv_at hl 0 rfl) ?_
          refine lv_iconst (v := nI 1) hx hb dX1_drop_34 (by decide) ?_
          refine lv_isub hx hb dX1_drop_35 ?_
          refine lv_topi (fun z_1 ez_1 => ?_)
          obtain rfl : z_1 = nI (i - 1) := ez_1.trans (pk_sub (by omega))
          refine na_aald (y := rt (i - 1)) hx hb hK hP 1 0 rfl rfl (show i - 1 < 8 by omega) (by decide) (if_pos (show i - 1 < 8 by omega)) dX1_drop_36 ?_
          refine lv_iconst (v := nI 0) hx hb dX1_drop_37 (by decide) ?_
          refine lv_bipush (v := nI 7) hx hb dX1_drop_38 (by decide) ?_
          refine va_copyi hx hb (hml.trans hl.1.symm) hown (hts (.methodLink RX1 55 arraycopyName) (List.mem_of_getElem? (i := 3) rfl)) (hts (.native arraycopyName) (List.mem_of_getElem? (i := 4) rfl)) (hts (.static arraycopyName) (List.mem_of_getElem? (i := 5) rfl)) (hts (.initialized "java/lang/System") (List.mem_of_getElem? (i := 6) rfl)) hK hP hD hS (3 + i) (3 + (i - 1)) 1 1 (rf_row (by omega)) (rf_row (by omega)) rfl rfl rfl (by decide) (by decide) (by decide) (by decide) (by decide) (fun _ _ => rfl) (Nat.le_of_ble_eq_true rfl) (Nat.le_of_ble_eq_true rfl) dX1_drop_40 (fun H locs hP hD hS => ?_)
          rw [show (nI 0).toNatClampNeg = 0 from rfl, show (nI 7).toNatClampNeg = 7 from rfl, rf_set (by omega), drF_s hji] at hP hD
          have hP : va_P (dC, dI) vwCl (rfX p0 qt qg h0 rt cB cI vn ct ft fb gl (drF T j (i + 1)) ++ Y) H := hP
          have hD : va_D A (rfX p0 qt qg h0 rt cB cI vn ct ft fb gl (drF T j (i + 1)) ++ Y) := hD
          refine lv_iinc (v := nI (i + 1)) (lv' := [(2, .int (nI (i + 1))), (0, .ref p0), (1, .int (nI j))]) hx hb dX1_drop_43 hl (k := 0) rfl (nI_1 _) (by decide) rfl (fun ls hl => ?_)
          refine lv_goto (tgt := 14) hx hb dX1_drop_46 (by decide) ?_
          exact ih (i + 1) H _ ls (by omega) (by omega) hP hK hD hS (lv_sub hl [0, 1, 2] rfl)
    exact loop (ct - (j + 1)) (j + 1) H _ ls (by omega) (by omega) (by rw [drF_0]; exact hP) hK (by rw [drF_0]; exact hD) hS (lv_sub hl [0, 1, 2] rfl)
  · refine lv_if_ne (tgt := 10) hx hb dX1_drop_5 (by decide) (fun c => absurd rfl c) (fun _ => ?_)
    refine lv_iconst (v := nI 0) hx hb dX1_drop_8 (by decide) ?_
    exact W.zret (v := (nI 0)) hx hb hr (by rfl) (fun t ht hW => ⟨⟨(nI 0), (ct, T), rfl, Or.inr ⟨rfl, hz, rfl⟩, by rw [ht]; exact hP, va_K.moved hW.alike hK, hD⟩, hS.F ht⟩) hS.2.2 dX1_drop_9
set_option maxHeartbeats 1000000 in
set_option maxRecDepth 100000 in
/-- partOf(k, j, ..) -/
theorem c_X1_partOf (l : Launch) (dC : Nat → ClassId) (dI : Nat → Nat → Nat) (sz : Nat) (p0 qt qg h0 : Nat) (rt : Nat → Nat) (cB cI : ClassId) (tz : List (ClassId × FieldType)) (Y : va_W) (vn ct : Nat) (ft fb : Int64) (gl : Nat → Int32) (T : Nat → Nat → Int32) (k j : Nat) (x1 x2 x3 : Int64) (hk : k < 8) (hj : j < 5) (hv1 : 1 ≤ vn) (hv3 : vn ≤ 3) : Met l yX1_partOf wsX1_partOf ({ frames := 0, cells := 0, slots := 0, locals := 0 }) (va_Pc [.ref p0, .int (nI k), .int (nI j), .long x1, .long x2, .long x3] (fun U => U.heap.size = sz ∧ va_P (dC, dI) vwCl (rfX p0 qt qg h0 rt cB cI vn ct ft fb gl T ++ Y) U.heap ∧ va_K (dC, dI) vwCl ((cB, .array .int) :: (cI, .int) :: tz) U ∧ va_D (fun _ => True) (rfX p0 qt qg h0 rt cB cI vn ct ft fb gl T ++ Y))) (va_Ql (fun (x : Int64) (v : Unit) => x = prF (T k) vn j x1 x2 x3) (fun v t => va_P (dC, dI) vwCl (rfX p0 qt qg h0 rt cB cI vn ct ft fb gl T ++ Y) t.heap ∧ va_K (dC, dI) vwCl ((cB, .array .int) :: (cI, .int) :: tz) t ∧ va_D (va_A (rfX p0 qt qg h0 rt cB cI vn ct ft fb gl T ++ Y) sz) (rfX p0 qt qg h0 rt cB cI vn ct ft fb gl T ++ Y)) (va_A (rfX p0 qt qg h0 rt cB cI vn ct ft fb gl T ++ Y) sz)) 0 0 (va_A (rfX p0 qt qg h0 rt cB cI vn ct ft fb gl T ++ Y) sz) := by
  refine Met.ofW (cc := cX1_partOf) (maxL := 12) (ret := (some .long)) (by decide) rfl ?_
  intro p e s m args below meth c s₁ B hml hv
  obtain ⟨rfl, hsz, hP, hK, hD0⟩ := hv
  have hx := B.exec
  have hb := B.bytes
  have hr := B.returns
  have hts := atoms_spec (ws := wsX1_partOf) B.pre
  have hown : s.vm.findClass RX1 = some m.cls := findClass_of_methodNamed B.named
  subst hsz
  have hD := hD0.self (sz := s.heap.size)
  clear hD0
  generalize hAe : va_A (rfX p0 qt qg h0 rt cB cI vn ct ft fb gl T ++ Y) s.heap.size = A at hD ⊢
  have hA : ∀ q : Nat, s.heap.size ≤ q → A q := fun q h => by rw [← hAe]; exact Or.inr h
  have hl := lv_entry ([.ref p0, .int (nI k), .int (nI j), .long x1, .long x2, .long x3]) (n := 12) (Nat.le_of_ble_eq_true rfl)
  rw [lg_entry_eq]
  generalize (lg_sl ([.ref p0, .int (nI k), .int (nI j), .long x1, .long x2, .long x3]) ++ List.replicate (12 - (lg_sl ([.ref p0, .int (nI k), .int (nI j), .long x1, .long x2, .long x3])).length) Slot.unset).toArray = ls at hl ⊢
  have hl : lv_has ls 12 [(0, .ref p0), (1, .int (nI k)), (2, .int (nI j)), (3, .long x1), (5, .long x2), (7, .long x3)] := hl
  have hP : va_P (dC, dI) vwCl (rfX p0 qt qg h0 rt cB cI vn ct ft fb gl T ++ Y) s.heap := hP
  obtain ⟨H, hH⟩ : ∃ H, H = s.heap := ⟨_, rfl⟩
  have hS : va_S A s.heap H [] := by rw [hH]; exact va_S.rf
  rw [← hH] at hP ⊢
  refine lv_aload_n hx hb dX1_partOf_0 rfl (lv_at hl 0 rfl) ?_
  refine va_get (D := (dC, dI)) (ci := 1) (v := .ref qt) (C := RX1) (T := TX1) (N := 7) hx hb hts (fun _ h => List.mem_cons_of_mem _ (List.mem_append_right _ h)) hown hK hP 0 rfl rfl 0 (by decide) (hts (.fieldLink RX1 11 "RankFinder" "told" "[[I") (List.mem_of_getElem? (i := 1) rfl)) (fun _ h9 => h9) rfl dX1_partOf_1 ?_
  refine lv_iload_n hx hb dX1_partOf_4 rfl (lv_at hl 1 rfl) ?_
  refine na_aald (y := rt k) hx hb hK hP 1 0 rfl rfl hk (by decide) (if_pos hk) dX1_partOf_5 ?_
  refine lv_astore (lv' := [(9, .ref (rt k)), (0, .ref p0), (1, .int (nI k)), (2, .int (nI j)), (3, .long x1), (5, .long x2), (7, .long x3)]) hx hb dX1_partOf_6 hl (by decide) rfl (fun ls hl => ?_)
  refine lv_aload hx hb dX1_partOf_8 (lv_at hl 0 rfl) ?_
  refine lv_iload_n hx hb dX1_partOf_10 rfl (lv_at hl 3 rfl) ?_
  refine na_iald hx hb hK hP (3 + k) 1 (rf_row hk) rfl (show j < 7 by omega) (by decide) dX1_partOf_11 ?_
  refine lv_i2l hx hb dX1_partOf_12 rfl ?_
  refine lv_lload_n hx hb dX1_partOf_13 rfl (lv_at hl 4 rfl) ?_
  refine lv_lmul hx hb dX1_partOf_14 ?_
  refine lv_lstore (lv' := [(10, .long ((Int32.toInt64 (T k j)) * x1)), (9, .ref (rt k)), (0, .ref p0), (1, .int (nI k)), (2, .int (nI j)), (3, .long x1), (5, .long x2), (7, .long x3)]) hx hb dX1_partOf_15 hl (by decide) rfl (fun ls hl => ?_)
  refine lv_aload_n hx hb dX1_partOf_17 rfl (lv_at hl 2 rfl) ?_
  refine va_get (D := (dC, dI)) (ci := 1) (v := .int (nI vn)) (C := RX1) (T := TX1) (N := 7) hx hb hts (fun _ h => List.mem_cons_of_mem _ (List.mem_append_right _ h)) hown hK hP 0 rfl rfl 3 (by decide) (hts (.fieldLink RX1 25 "RankFinder" "variables" "I") (List.mem_of_getElem? (i := 2) rfl)) (fun _ h9 => h9) rfl dX1_partOf_18 ?_
  refine lv_iconst (v := nI 1) hx hb dX1_partOf_21 (by decide) ?_
  refine lv_icmp_le (tgt := 40) hx hb dX1_partOf_22 (by decide) (fun c1 => ?_) (fun c1 => ?_)
  · refine lv_aload_n hx hb dX1_partOf_40 rfl (lv_at hl 2 rfl) ?_
    refine va_get (D := (dC, dI)) (ci := 1) (v := .int (nI vn)) (C := RX1) (T := TX1) (N := 7) hx hb hts (fun _ h => List.mem_cons_of_mem _ (List.mem_append_right _ h)) hown hK hP 0 rfl rfl 3 (by decide) (hts (.fieldLink RX1 25 "RankFinder" "variables" "I") (List.mem_of_getElem? (i := 2) rfl)) (fun _ h9 => h9) rfl dX1_partOf_41 ?_
    refine lv_iconst (v := nI 2) hx hb dX1_partOf_44 (by decide) ?_
    refine lv_icmp_le (tgt := 63) hx hb dX1_partOf_45 (by decide) (fun c2 => ?_) (fun c2 => ?_)
    · refine lv_lload hx hb dX1_partOf_63 (lv_at hl 0 rfl) ?_
      exact W.lret (v := ((Int32.toInt64 (T k j)) * x1)) hx hb hr (fun t ht hW => ⟨⟨((Int32.toInt64 (T k j)) * x1), (), rfl, by unfold prF; rw [if_neg (fun q => nI_ge q (by omega) c2), if_neg (fun q => nI_ge q (by omega) c1)], by rw [ht]; exact hP, va_K.moved hW.alike hK, hD⟩, hS.F ht⟩) hS.2.2 dX1_partOf_65
    · refine lv_lload hx hb dX1_partOf_48 (lv_at hl 0 rfl) ?_
      refine lv_aload hx hb dX1_partOf_50 (lv_at hl 1 rfl) ?_
      refine lv_iload_n hx hb dX1_partOf_52 rfl (lv_at hl 4 rfl) ?_
      refine lv_iconst (v := nI 2) hx hb dX1_partOf_53 (by decide) ?_
      refine lv_iadd hx hb dX1_partOf_54 ?_
      refine lv_topi (fun z_1 ez_1 => ?_)
      obtain rfl : z_1 = nI (j + 2) := ez_1.trans (nI_add j 2)
      refine na_iald hx hb hK hP (3 + k) 1 (rf_row hk) rfl (show j + 2 < 7 by omega) (by decide) dX1_partOf_55 ?_
      refine lv_i2l hx hb dX1_partOf_56 rfl ?_
      refine lv_lload hx hb dX1_partOf_57 (lv_at hl 7 rfl) ?_
      refine lv_lmul hx hb dX1_partOf_59 ?_
      refine lv_ladd hx hb dX1_partOf_60 ?_
      refine lv_lstore (lv' := [(10, .long (((Int32.toInt64 (T k j)) * x1) + ((Int32.toInt64 (T k (j + 2))) * x3))), (9, .ref (rt k)), (0, .ref p0), (1, .int (nI k)), (2, .int (nI j)), (3, .long x1), (5, .long x2), (7, .long x3)]) hx hb dX1_partOf_61 hl (by decide) rfl (fun ls hl => ?_)
      refine lv_lload hx hb dX1_partOf_63 (lv_at hl 0 rfl) ?_
      exact W.lret (v := (((Int32.toInt64 (T k j)) * x1) + ((Int32.toInt64 (T k (j + 2))) * x3))) hx hb hr (fun t ht hW => ⟨⟨(((Int32.toInt64 (T k j)) * x1) + ((Int32.toInt64 (T k (j + 2))) * x3)), (), rfl, by unfold prF; rw [if_pos (Nat.not_le.mp (fun q => c2 (nI_le q (by omega)))), if_neg (fun q => nI_ge q (by omega) c1)], by rw [ht]; exact hP, va_K.moved hW.alike hK, hD⟩, hS.F ht⟩) hS.2.2 dX1_partOf_65
  · refine lv_lload hx hb dX1_partOf_25 (lv_at hl 0 rfl) ?_
    refine lv_aload hx hb dX1_partOf_27 (lv_at hl 1 rfl) ?_
    refine lv_iload_n hx hb dX1_partOf_29 rfl (lv_at hl 4 rfl) ?_
    refine lv_iconst (v := nI 1) hx hb dX1_partOf_30 (by decide) ?_
    refine lv_iadd hx hb dX1_partOf_31 ?_
    refine lv_topi (fun z_2 ez_2 => ?_)
    obtain rfl : z_2 = nI (j + 1) := ez_2.trans (nI_add j 1)
    refine na_iald hx hb hK hP (3 + k) 1 (rf_row hk) rfl (show j + 1 < 7 by omega) (by decide) dX1_partOf_32 ?_
    refine lv_i2l hx hb dX1_partOf_33 rfl ?_
    refine lv_lload hx hb dX1_partOf_34 (lv_at hl 6 rfl) ?_
    refine lv_lmul hx hb dX1_partOf_36 ?_
    refine lv_ladd hx hb dX1_partOf_37 ?_
    refine lv_lstore (lv' := [(10, .long (((Int32.toInt64 (T k j)) * x1) + ((Int32.toInt64 (T k (j + 1))) * x2))), (9, .ref (rt k)), (0, .ref p0), (1, .int (nI k)), (2, .int (nI j)), (3, .long x1), (5, .long x2), (7, .long x3)]) hx hb dX1_partOf_38 hl (by decide) rfl (fun ls hl => ?_)
    refine lv_aload_n hx hb dX1_partOf_40 rfl (lv_at hl 2 rfl) ?_
    refine va_get (D := (dC, dI)) (ci := 1) (v := .int (nI vn)) (C := RX1) (T := TX1) (N := 7) hx hb hts (fun _ h => List.mem_cons_of_mem _ (List.mem_append_right _ h)) hown hK hP 0 rfl rfl 3 (by decide) (hts (.fieldLink RX1 25 "RankFinder" "variables" "I") (List.mem_of_getElem? (i := 2) rfl)) (fun _ h9 => h9) rfl dX1_partOf_41 ?_
    refine lv_iconst (v := nI 2) hx hb dX1_partOf_44 (by decide) ?_
    refine lv_icmp_le (tgt := 63) hx hb dX1_partOf_45 (by decide) (fun c2 => ?_) (fun c2 => ?_)
    · refine lv_lload hx hb dX1_partOf_63 (lv_at hl 0 rfl) ?_
      exact W.lret (v := (((Int32.toInt64 (T k j)) * x1) + ((Int32.toInt64 (T k (j + 1))) * x2))) hx hb hr (fun t ht hW => ⟨⟨(((Int32.toInt64 (T k j)) * x1) + ((Int32.toInt64 (T k (j + 1))) * x2)), (), rfl, by unfold prF; rw [if_neg (fun q => nI_ge q (by omega) c2), if_pos (Nat.not_le.mp (fun q => c1 (nI_le q (by omega))))], by rw [ht]; exact hP, va_K.moved hW.alike hK, hD⟩, hS.F ht⟩) hS.2.2 dX1_partOf_65
    · refine lv_lload hx hb dX1_partOf_48 (lv_at hl 0 rfl) ?_
      refine lv_aload hx hb dX1_partOf_50 (lv_at hl 1 rfl) ?_
      refine lv_iload_n hx hb dX1_partOf_52 rfl (lv_at hl 4 rfl) ?_
      refine lv_iconst (v := nI 2) hx hb dX1_partOf_53 (by decide) ?_
      refine lv_iadd hx hb dX1_partOf_54 ?_
      refine lv_topi (fun z_3 ez_3 => ?_)
      obtain rfl : z_3 = nI (j + 2) := ez_3.trans (nI_add j 2)
      refine na_iald hx hb hK hP (3 + k) 1 (rf_row hk) rfl (show j + 2 < 7 by omega) (by decide) dX1_partOf_55 ?_
      refine lv_i2l hx hb dX1_partOf_56 rfl ?_
      refine lv_lload hx hb dX1_partOf_57 (lv_at hl 7 rfl) ?_
      refine lv_lmul hx hb dX1_partOf_59 ?_
      refine lv_ladd hx hb dX1_partOf_60 ?_
      refine lv_lstore (lv' := [(10, .long ((((Int32.toInt64 (T k j)) * x1) + ((Int32.toInt64 (T k (j + 1))) * x2)) + ((Int32.toInt64 (T k (j + 2))) * x3))), (9, .ref (rt k)), (0, .ref p0), (1, .int (nI k)), (2, .int (nI j)), (3, .long x1), (5, .long x2), (7, .long x3)]) hx hb dX1_partOf_61 hl (by decide) rfl (fun ls hl => ?_)
      refine lv_lload hx hb dX1_partOf_63 (lv_at hl 0 rfl) ?_
      exact W.lret (v := ((((Int32.toInt64 (T k j)) * x1) + ((Int32.toInt64 (T k (j + 1))) * x2)) + ((Int32.toInt64 (T k (j + 2))) * x3))) hx hb hr (fun t ht hW => ⟨⟨((((Int32.toInt64 (T k j)) * x1) + ((Int32.toInt64 (T k (j + 1))) * x2)) + ((Int32.toInt64 (T k (j + 2))) * x3)), (), rfl, by unfold prF; rw [if_pos (Nat.not_le.mp (fun q => c2 (nI_le q (by omega)))), if_pos (Nat.not_le.mp (fun q => c1 (nI_le q (by omega))))], by rw [ht]; exact hP, va_K.moved hW.alike hK, hD⟩, hS.F ht⟩) hS.2.2 dX1_partOf_65
set_option maxHeartbeats 1000000 in
set_option maxRecDepth 100000 in
/-- keeps(..) -/
theorem c_X1_keeps (l : Launch) (dC : Nat → ClassId) (dI : Nat → Nat → Nat) (sz : Nat) (p0 qt qg h0 : Nat) (rt : Nat → Nat) (cB cI : ClassId) (tz : List (ClassId × FieldType)) (Y : va_W) (vn ct : Nat) (ft fb : Int64) (gl : Nat → Int32) (T : Nat → Nat → Int32) (x1 x2 x3 y1 y2 y3 : Int32) (hc : ct ≤ 8) (hv1 : 1 ≤ vn) (hv3 : vn ≤ 3) : Met l yX1_keeps wsX1_keeps ({ frames := 1, cells := 0, slots := 0, locals := 31 }) (va_Pc [.ref p0, .int x1, .int x2, .int x3, .int y1, .int y2, .int y3] (fun U => U.heap.size = sz ∧ va_P (dC, dI) vwCl (rfX p0 qt qg h0 rt cB cI vn ct ft fb gl T ++ Y) U.heap ∧ va_K (dC, dI) vwCl ((cB, .array .int) :: (cI, .int) :: tz) U ∧ va_D (fun _ => True) (rfX p0 qt qg h0 rt cB cI vn ct ft fb gl T ++ Y))) (va_Qi (fun (x : Int32) (v : Unit) => (x = 1 ∧ ∀ k, k < ct → kpF (T k) vn x1 x2 x3 y1 y2 y3) ∨ (x = 0 ∧ ¬ ∀ k, k < ct → kpF (T k) vn x1 x2 x3 y1 y2 y3)) (fun v t => va_P (dC, dI) vwCl (rfX p0 qt qg h0 rt cB cI vn ct ft fb gl T ++ Y) t.heap ∧ va_K (dC, dI) vwCl ((cB, .array .int) :: (cI, .int) :: tz) t ∧ va_D (va_A (rfX p0 qt qg h0 rt cB cI vn ct ft fb gl T ++ Y) sz) (rfX p0 qt qg h0 rt cB cI vn ct ft fb gl T ++ Y)) (va_A (rfX p0 qt qg h0 rt cB cI vn ct ft fb gl T ++ Y) sz)) 0 0 (va_A (rfX p0 qt qg h0 rt cB cI vn ct ft fb gl T ++ Y) sz) := by
  refine Met.ofW (cc := cX1_keeps) (maxL := 10) (ret := (some .boolean)) (by decide) rfl ?_
  intro p e s m args below meth c s₁ B hml hv
  obtain ⟨rfl, hsz, hP, hK, hD0⟩ := hv
  have hx := B.exec
  have hb := B.bytes
  have hr := B.returns
  have hts := atoms_spec (ws := wsX1_keeps) B.pre
  have hown : s.vm.findClass RX1 = some m.cls := findClass_of_methodNamed B.named
  subst hsz
  have hD := hD0.self (sz := s.heap.size)
  clear hD0
  generalize hAe : va_A (rfX p0 qt qg h0 rt cB cI vn ct ft fb gl T ++ Y) s.heap.size = A at hD ⊢
  have hA : ∀ q : Nat, s.heap.size ≤ q → A q := fun q h => by rw [← hAe]; exact Or.inr h
  have hl := lv_entry ([.ref p0, .int x1, .int x2, .int x3, .int y1, .int y2, .int y3]) (n := 10) (Nat.le_of_ble_eq_true rfl)
  rw [lg_entry_eq]
  generalize (lg_sl ([.ref p0, .int x1, .int x2, .int x3, .int y1, .int y2, .int y3]) ++ List.replicate (10 - (lg_sl ([.ref p0, .int x1, .int x2, .int x3, .int y1, .int y2, .int y3])).length) Slot.unset).toArray = ls at hl ⊢
  have hl : lv_has ls 10 [(0, .ref p0), (1, .int x1), (2, .int x2), (3, .int x3), (4, .int y1), (5, .int y2), (6, .int y3)] := hl
  have hP : va_P (dC, dI) vwCl (rfX p0 qt qg h0 rt cB cI vn ct ft fb gl T ++ Y) s.heap := hP
  obtain ⟨H, hH⟩ : ∃ H, H = s.heap := ⟨_, rfl⟩
  have hS : va_S A s.heap H [] := by rw [hH]; exact va_S.rf
  rw [← hH] at hP ⊢
  refine lv_iconst (v := nI 0) hx hb dX1_keeps_0 (by decide) ?_
  refine lv_istore (lv' := [(7, .int (nI 0)), (0, .ref p0), (1, .int x1), (2, .int x2), (3, .int x3), (4, .int y1), (5, .int y2), (6, .int y3)]) hx hb dX1_keeps_1 hl (by decide) rfl (fun ls hl => ?_)
  have loop : ∀ (d k : Nat) (H : Heap) (locs : List Loc) (ls : Array Slot), k + d = ct → (∀ i, i < k → kpF (T i) vn x1 x2 x3 y1 y2 y3) → va_P (dC, dI) vwCl (rfX p0 qt qg h0 rt cB cI vn ct ft fb gl T ++ Y) H → va_K (dC, dI) vwCl ((cB, .array .int) :: (cI, .int) :: tz) s → va_D A (rfX p0 qt qg h0 rt cB cI vn ct ft fb gl T ++ Y) → va_S A s.heap H locs → lv_has ls 10 [(7, .int (nI k)), (0, .ref p0), (1, .int x1), (2, .int x2), (3, .int x3), (4, .int y1), (5, .int y2), (6, .int y3)] → W p l e (headSpec wsX1_keeps ({ frames := 1, cells := 0, slots := 0, locals := 31 })).room s m #[.ref p0, .int x1, .int x2, .int x3, .int y1, .int y2, .int y3] below meth c H locs 0 0 (MQ below (va_Qi (fun (x : Int32) (v : Unit) => (x = 1 ∧ ∀ k, k < ct → kpF (T k) vn x1 x2 x3 y1 y2 y3) ∨ (x = 0 ∧ ¬ ∀ k, k < ct → kpF (T k) vn x1 x2 x3 y1 y2 y3)) (fun v t => va_P (dC, dI) vwCl (rfX p0 qt qg h0 rt cB cI vn ct ft fb gl T ++ Y) t.heap ∧ va_K (dC, dI) vwCl ((cB, .array .int) :: (cI, .int) :: tz) t ∧ va_D A (rfX p0 qt qg h0 rt cB cI vn ct ft fb gl T ++ Y)) A) #[.ref p0, .int x1, .int x2, .int x3, .int y1, .int y2, .int y3] s 0 0 A) (F0 m 3 ls []) := by
    clear hP hK hD hS hl
    intro d
    induction d with
    | zero =>
      intro k H locs ls hk hz hP hK hD hS hl
      refine lv_iload hx hb dX1_keeps_3 (lv_at hl 0 rfl) ?_
      refine lv_aload_n hx hb dX1_keeps_5 rfl (lv_at hl 1 rfl) ?_
      refine va_get (D := (dC, dI)) (ci := 1) (v := .int (nI ct)) (C := RX1) (T := TX1) (N := 7) hx hb hts (fun _ h => List.mem_cons_of_mem _ (List.mem_append_right _ h)) hown hK hP 0 rfl rfl 4 (by decide) (hts (.fieldLink RX1 29 "RankFinder" "count" "I") (List.mem_of_getElem? (i := 1) rfl)) (fun _ h9 => h9) rfl dX1_keeps_6 ?_
      refine lv_icmp_ge (tgt := 69) hx hb dX1_keeps_9 (by decide) (fun c1 => ?_) (fun c1 => ?_)
      · refine lv_iconst (v := nI 1) hx hb dX1_keeps_69 (by decide) ?_
        exact W.zret (v := (nI 1)) hx hb hr (by rfl) (fun t ht hW => ⟨⟨(nI 1), (), rfl, Or.inl ⟨rfl, fun i hi => hz i (by omega)⟩, by rw [ht]; exact hP, va_K.moved hW.alike hK, hD⟩, hS.F ht⟩) hS.2.2 dX1_keeps_70
      · exact absurd (nI_le (by omega) (by omega)) c1
    | succ d ih =>
      intro k H locs ls hk hz hP hK hD hS hl
      refine lv_iload hx hb dX1_keeps_3 (lv_at hl 0 rfl) ?_
      refine lv_aload_n hx hb dX1_keeps_5 rfl (lv_at hl 1 rfl) ?_
      refine va_get (D := (dC, dI)) (ci := 1) (v := .int (nI ct)) (C := RX1) (T := TX1) (N := 7) hx hb hts (fun _ h => List.mem_cons_of_mem _ (List.mem_append_right _ h)) hown hK hP 0 rfl rfl 4 (by decide) (hts (.fieldLink RX1 29 "RankFinder" "count" "I") (List.mem_of_getElem? (i := 1) rfl)) (fun _ h9 => h9) rfl dX1_keeps_6 ?_
      refine lv_icmp_ge (tgt := 69) hx hb dX1_keeps_9 (by decide) (fun c1 => ?_) (fun c1 => ?_)
      · exact absurd c1 (nI_ge (by omega) (by omega))
      · refine lv_aload_n hx hb dX1_keeps_12 rfl (lv_at hl 1 rfl) ?_
        refine lv_iload hx hb dX1_keeps_13 (lv_at hl 0 rfl) ?_
        refine lv_iconst (v := nI 0) hx hb dX1_keeps_15 (by decide) ?_
        refine lv_iload_n hx hb dX1_keeps_16 rfl (lv_at hl 2 rfl) ?_
        refine lv_i2l hx hb dX1_keeps_17 rfl ?_
        refine lv_iload_n hx hb dX1_keeps_18 rfl (lv_at hl 3 rfl) ?_
        refine lv_i2l hx hb dX1_keeps_19 rfl ?_
        refine lv_iload_n hx hb dX1_keeps_20 rfl (lv_at hl 4 rfl) ?_
        refine lv_i2l hx hb dX1_keeps_21 rfl ?_
        have hFc : ∀ q, va_A (rfX p0 qt qg h0 rt cB cI vn ct ft fb gl T ++ Y) H.size q → A q := va_fall hD hS hA
        refine va_calll (va_runV (As := [.int (nI k), .int (nI 0), .long (Int32.toInt64 x1), .long (Int32.toInt64 x2), .long (Int32.toInt64 x3)]) (rest := []) ⟨hx, hb, hml, hown, hts⟩ (c_X1_partOf l dC dI H.size p0 qt qg h0 rt cB cI tz Y vn ct ft fb gl T k 0 x1.toInt64 x2.toInt64 x3.toInt64 (by omega) (by omega) hv1 hv3) (cwV 5 hts gX1_keeps_X1_partOf rfl rfl rfl (by decide +kernel) ⟨Nat.le_of_ble_eq_true rfl, Nat.le_of_ble_eq_true rfl⟩) ⟨fun a U g mk q => by obtain ⟨q0, q1, qP, qK, qD⟩ := q; exact ⟨q0, q1, qP, va_K.moved (u := U) (U := U.calling g mk a) (Vm.Alike.refl U.vm) qK, qD⟩, va_recv hK hP (ci := 1) (q0 := 0) rfl rfl, fun U hU hW => ⟨rfl, by rw [hU], by rw [hU]; exact hP, va_K.moved hW.alike hK, hD.weaken (fun _ _ _ _ => trivial)⟩⟩ rfl rfl hl.1 rfl (lv_room (Nat.le_of_ble_eq_true rfl)) dX1_keeps_22 ⟨(Nat.zero_le _), (Nat.zero_le _)⟩) hS (fun q _ h => hFc q h) hFc (fun r_22 v9 t H1 locs ht hvm hw hB hz1 hk1 hS => ?_)
        obtain ⟨hP1, hK1, hD1⟩ := hB
        rw [ht] at hP1
        clear hP hD hK
        have hK := va_K.moved hvm.symm hK1
        have hP := hP1
        have hD := hD1.weaken (B := A) (fun _ q _ h => hFc q.1 h)
        clear hP1 hD1 hK1 hFc hk1 hz1 ht hvm
        generalize H1 = H at hP hS ⊢
        subst hw
        refine lv_aload_n hx hb dX1_keeps_25 rfl (lv_at hl 1 rfl) ?_
        refine lv_iload hx hb dX1_keeps_26 (lv_at hl 0 rfl) ?_
        refine lv_iconst (v := nI 3) hx hb dX1_keeps_28 (by decide) ?_
        refine lv_iload hx hb dX1_keeps_29 (lv_at hl 5 rfl) ?_
        refine lv_i2l hx hb dX1_keeps_31 rfl ?_
        refine lv_iload hx hb dX1_keeps_32 (lv_at hl 6 rfl) ?_
        refine lv_i2l hx hb dX1_keeps_34 rfl ?_
        refine lv_iload hx hb dX1_keeps_35 (lv_at hl 7 rfl) ?_
        refine lv_i2l hx hb dX1_keeps_37 rfl ?_
        have hFc : ∀ q, va_A (rfX p0 qt qg h0 rt cB cI vn ct ft fb gl T ++ Y) H.size q → A q := va_fall hD hS hA
        refine va_calll (va_runV (As := [.int (nI k), .int (nI 3), .long (Int32.toInt64 y1), .long (Int32.toInt64 y2), .long (Int32.toInt64 y3)]) (rest := [.long (prF (T k) vn 0 x1.toInt64 x2.toInt64 x3.toInt64)]) ⟨hx, hb, hml, hown, hts⟩ (c_X1_partOf l dC dI H.size p0 qt qg h0 rt cB cI tz Y vn ct ft fb gl T k 3 y1.toInt64 y2.toInt64 y3.toInt64 (by omega) (by omega) hv1 hv3) (cwV 5 hts gX1_keeps_X1_partOf rfl rfl rfl (by decide +kernel) ⟨Nat.le_of_ble_eq_true rfl, Nat.le_of_ble_eq_true rfl⟩) ⟨fun a U g mk q => by obtain ⟨q0, q1, qP, qK, qD⟩ := q; exact ⟨q0, q1, qP, va_K.moved (u := U) (U := U.calling g mk a) (Vm.Alike.refl U.vm) qK, qD⟩, va_recv hK hP (ci := 1) (q0 := 0) rfl rfl, fun U hU hW => ⟨rfl, by rw [hU], by rw [hU]; exact hP, va_K.moved hW.alike hK, hD.weaken (fun _ _ _ _ => trivial)⟩⟩ rfl rfl hl.1 rfl (lv_room (Nat.le_of_ble_eq_true rfl)) dX1_keeps_38 ⟨(Nat.zero_le _), (Nat.zero_le _)⟩) hS (fun q _ h => hFc q h) hFc (fun r_38 v9 t H1 locs ht hvm hw hB hz1 hk1 hS => ?_)
        obtain ⟨hP1, hK1, hD1⟩ := hB
        rw [ht] at hP1
        clear hP hD hK
        have hK := va_K.moved hvm.symm hK1
        have hP := hP1
        have hD := hD1.weaken (B := A) (fun _ q _ h => hFc q.1 h)
        clear hP1 hD1 hK1 hFc hk1 hz1 ht hvm
        generalize H1 = H at hP hS ⊢
        subst hw
        refine lv_ladd hx hb dX1_keeps_41 ?_
        refine lv_lstore (lv' := [(8, .long ((prF (T k) vn 0 x1.toInt64 x2.toInt64 x3.toInt64) + (prF (T k) vn 3 y1.toInt64 y2.toInt64 y3.toInt64))), (7, .int (nI k)), (0, .ref p0), (1, .int x1), (2, .int x2), (3, .int x3), (4, .int y1), (5, .int y2), (6, .int y3)]) hx hb dX1_keeps_42 hl (by decide) rfl (fun ls hl => ?_)
        refine lv_lload hx hb dX1_keeps_44 (lv_at hl 0 rfl) ?_
        refine lv_aload_n hx hb dX1_keeps_46 rfl (lv_at hl 2 rfl) ?_
        refine va_get (D := (dC, dI)) (ci := 1) (v := .ref qt) (C := RX1) (T := TX1) (N := 7) hx hb hts (fun _ h => List.mem_cons_of_mem _ (List.mem_append_right _ h)) hown hK hP 0 rfl rfl 0 (by decide) (hts (.fieldLink RX1 11 "RankFinder" "told" "[[I") (List.mem_of_getElem? (i := 2) rfl)) (fun _ h9 => h9) rfl dX1_keeps_47 ?_
        refine lv_iload hx hb dX1_keeps_50 (lv_at hl 1 rfl) ?_
        refine na_aald (y := rt k) hx hb hK hP 1 0 rfl rfl (show k < 8 by omega) (by decide) (if_pos (show k < 8 by omega)) dX1_keeps_52 ?_
        refine lv_bipush (v := nI 6) hx hb dX1_keeps_53 (by decide) ?_
        refine na_iald hx hb hK hP (3 + k) 1 (rf_row (show k < 8 by omega)) rfl (show 6 < 7 by omega) (by decide) dX1_keeps_55 ?_
        refine lv_i2l hx hb dX1_keeps_56 rfl ?_
        refine W.lcmp hx hb dX1_keeps_57 ?_
        refine lv_if_le (tgt := 63) hx hb dX1_keeps_58 (by decide) (fun c2 => ?_) (fun c2 => ?_)
        · rw [lg_cmp_le] at c2
          refine lv_iinc (v := nI (k + 1)) (lv' := [(7, .int (nI (k + 1))), (8, .long ((prF (T k) vn 0 x1.toInt64 x2.toInt64 x3.toInt64) + (prF (T k) vn 3 y1.toInt64 y2.toInt64 y3.toInt64))), (0, .ref p0), (1, .int x1), (2, .int x2), (3, .int x3), (4, .int y1), (5, .int y2), (6, .int y3)]) hx hb dX1_keeps_63 hl (k := 1) rfl (nI_1 _) (by decide) rfl (fun ls hl => ?_)
          refine lv_goto (tgt := 3) hx hb dX1_keeps_66 (by decide) ?_
          exact ih (k + 1) H _ ls (by omega) (fun i hi => by
            by_cases e9 : i = k
            · subst e9; exact c2
            · exact hz i (by omega)) hP hK hD hS (lv_sub hl [0, 2, 3, 4, 5, 6, 7, 8] rfl)
        · rw [lg_cmp_le] at c2
          refine lv_iconst (v := nI 0) hx hb dX1_keeps_61 (by decide) ?_
          exact W.zret (v := (nI 0)) hx hb hr (by rfl) (fun t ht hW => ⟨⟨(nI 0), (), rfl, Or.inr ⟨rfl, fun q => c2 (q k (by omega))⟩, by rw [ht]; exact hP, va_K.moved hW.alike hK, hD⟩, hS.F ht⟩) hS.2.2 dX1_keeps_62
  exact loop ct 0 H _ ls (by omega) (fun i hi => by omega) hP hK hD hS (lv_sub hl [0, 1, 2, 3, 4, 5, 6, 7] rfl)
end
section
/-! ===== RankFinder: weighGoal, weighRanking ===== -/
theorem va_Pr {D : va_G} {cl : List vw_C} {X Y : va_W} {H : Heap} (hP : va_P D cl (X ++ Y) H) : va_P D cl Y H := fun k q h => hP (X.length + k) q (by rw [List.getElem?_append_right (by omega), show X.length + k - X.length = k by omega]; exact h)
theorem va_Dr {A : Nat → Prop} {X Y : va_W} (hD : va_D A (X ++ Y)) : va_D (fun _ => True) Y := by
  refine ⟨fun i j p q hi hj e => ?_, fun _ _ _ => trivial⟩
  have h1 : (X ++ Y)[X.length + i]? = some p := by rw [List.getElem?_append_right (by omega), show X.length + i - X.length = i by omega]; exact hi
  have h2 : (X ++ Y)[X.length + j]? = some q := by rw [List.getElem?_append_right (by omega), show X.length + j - X.length = j by omega]; exact hj
  have := hD.1 _ _ p q h1 h2 e
  omega
theorem va_Ar {A0 : Nat → Prop} {X Y : va_W} {H0 H : Heap} {locs : List Loc} (hD : va_D A0 (X ++ Y)) (hS : va_S A0 H0 H locs) (hA : ∀ q, H0.size ≤ q → A0 q) : ∀ q, va_A Y H.size q → A0 q := fun q h => by
  rcases h with ⟨k, e, h⟩ | h
  · exact hD.2 (X.length + k) (q, e) (by rw [List.getElem?_append_right (by omega), show X.length + k - X.length = k by omega]; exact h)
  · exact hA q (Nat.le_trans hS.1 h)
/-- behind a call whose world is the latter part of this world -/
theorem jn_app {D : va_G} {cl : List vw_C} {A0 : Nat → Prop} {X Y Y' : va_W} {H H1 : Heap} (hP : va_P D cl (X ++ Y) H) (hD : va_D A0 (X ++ Y)) (hk : ∀ q : Nat, q < H.size → ¬ va_A Y H.size q → H1[q]? = H[q]?) (hF : ∀ q, va_A Y H.size q → A0 q) (hP1 : va_P D cl Y' H1) (hD1 : va_D (va_A Y H.size) Y') : va_P D cl (X ++ Y') H1 ∧ va_D A0 (X ++ Y') := by
  have hX : ∀ (k : Nat) (q : Nat × va_E), X[k]? = some q → (X ++ Y)[k]? = some q := fun k q h => by
    rw [List.getElem?_append_left (List.getElem?_eq_some_iff.mp h).1]; exact h
  have apart : ∀ (k : Nat) (q : Nat × va_E), X[k]? = some q → q.1 < H.size ∧ ¬ va_A Y H.size q.1 := by
    intro k q hq
    have hl := (hP k q (hX k q hq)).lt
    refine ⟨hl, fun h => ?_⟩
    rcases h with ⟨k2, e, h⟩ | h
    · have h4 : (X ++ Y)[X.length + k2]? = some (q.1, e) := by rw [List.getElem?_append_right (by omega), show X.length + k2 - X.length = k2 by omega]; exact h
      have hij := hD.1 k (X.length + k2) q (q.1, e) (hX k q hq) h4 rfl
      have := (List.getElem?_eq_some_iff.mp hq).1
      omega
    · omega
  refine ⟨va_P.app (fun k q hq => ?_) hP1, va_D.app ⟨fun i j p q hi hj e => hD.1 i j p q (hX i p hi) (hX j q hj) e, fun k q h => hD.2 k q (hX k q h)⟩ (hD1.weaken (fun k q _ h => hF q.1 h)) (fun i j x y hx hy hxy => ?_)⟩
  · exact (hP k q (hX k q hq)).kept (hk q.1 (apart k q hq).1 (apart k q hq).2)
  · exact (apart i x hx).2 (by rw [hxy]; exact hD1.2 j y hy)
theorem mup_at (M : Nat → Nat → Int64) (i j : Nat) (x : Int64) (a b : Nat) : mup M i j x a b = if a = i ∧ b = j then x else M a b := by
  unfold mup fup
  by_cases e : a = i
  · subst e
    unfold vp_updL
    by_cases e2 : b = j
    · simp [e2]
    · simp [e2]
  · simp [e]
def tgG (T : Nat → Nat → Int32) (gl : Nat → Int32) (vn ct a b : Nat) : Int64 := if b < ct then (if a < vn then (T b a).toInt64 else if a < 2 * vn then (T b (3 + (a - vn))).toInt64 else (T b 6).toInt64) else (if a < vn then (-(gl a)).toInt64 else if a < 2 * vn then (-(gl (3 + (a - vn)))).toInt64 else 0)
def ivG (T : Nat → Nat → Int32) (gl : Nat → Int32) (vn ct : Nat) (M : Nat → Nat → Int64) (i k : Nat) : Prop := ∀ a b, a ≤ 2 * vn → b ≤ ct → M a b = if ((a < i ∨ (vn ≤ a ∧ a < vn + i)) ∨ ((a = i ∨ a = vn + i) ∧ b < k)) ∧ a < 2 * vn then tgG T gl vn ct a b else 0
theorem ivG_put {T : Nat → Nat → Int32} {gl : Nat → Int32} {vn ct : Nat} {M : Nat → Nat → Int64} {i k : Nat} (h : ivG T gl vn ct M i k) (hi : i < vn) (hk : k < ct) : ivG T gl vn ct (mup (mup M i k (T k i).toInt64) (vn + i) k (T k (3 + i)).toInt64) i (k + 1) := by
  intro a b ha hb
  rw [mup_at, mup_at, h a b ha hb]
  by_cases e1 : a = vn + i ∧ b = k
  · rw [if_pos e1, if_pos (by omega)]
    unfold tgG
    rw [if_pos (by omega), if_neg (by omega), if_pos (by omega), e1.1, e1.2, show vn + i - vn = i by omega]
  · rw [if_neg e1]
    by_cases e2 : a = i ∧ b = k
    · rw [if_pos e2, if_pos (by omega)]
      unfold tgG
      rw [if_pos (by omega), if_pos (by omega), e2.1, e2.2]
    · rw [if_neg e2]
      by_cases q : ((a < i ∨ (vn ≤ a ∧ a < vn + i)) ∨ ((a = i ∨ a = vn + i) ∧ b < k)) ∧ a < 2 * vn
      · rw [if_pos q, if_pos (by omega)]
      · rw [if_neg q, if_neg (by omega)]
theorem ivG_rhs {T : Nat → Nat → Int32} {gl : Nat → Int32} {vn ct : Nat} {M : Nat → Nat → Int64} {i : Nat} (h : ivG T gl vn ct M i ct) (hi : i < vn) : ivG T gl vn ct (mup (mup M i ct (-(gl i)).toInt64) (vn + i) ct (-(gl (3 + i))).toInt64) (i + 1) 0 := by
  intro a b ha hb
  rw [mup_at, mup_at, h a b ha hb]
  by_cases e1 : a = vn + i ∧ b = ct
  · rw [if_pos e1, if_pos (by omega)]
    unfold tgG
    rw [if_neg (by omega), if_neg (by omega), if_pos (by omega), e1.1, show vn + i - vn = i by omega]
  · rw [if_neg e1]
    by_cases e2 : a = i ∧ b = ct
    · rw [if_pos e2, if_pos (by omega)]
      unfold tgG
      rw [if_neg (by omega), if_pos (by omega), e2.1]
    · rw [if_neg e2]
      by_cases q : ((a < i ∨ (vn ≤ a ∧ a < vn + i)) ∨ ((a = i ∨ a = vn + i) ∧ b < ct)) ∧ a < 2 * vn
      · rw [if_pos q, if_pos (by omega)]
      · rw [if_neg q, if_neg (by omega)]
def ivC (T : Nat → Nat → Int32) (gl : Nat → Int32) (vn ct : Nat) (M : Nat → Nat → Int64) (k : Nat) : Prop := ∀ a b, a ≤ 2 * vn → b ≤ ct → M a b = if a < 2 * vn ∨ b < k then tgG T gl vn ct a b else 0
theorem ivC_0 {T : Nat → Nat → Int32} {gl : Nat → Int32} {vn ct : Nat} {M : Nat → Nat → Int64} (h : ivG T gl vn ct M vn 0) : ivC T gl vn ct M 0 := by
  intro a b ha hb
  rw [h a b ha hb]
  by_cases q : a < 2 * vn
  · rw [if_pos (by omega), if_pos (Or.inl q)]
  · rw [if_neg (by omega), if_neg (by omega)]
theorem ivC_s {T : Nat → Nat → Int32} {gl : Nat → Int32} {vn ct : Nat} {M : Nat → Nat → Int64} {k : Nat} (h : ivC T gl vn ct M k) (hk : k < ct) : ivC T gl vn ct (mup M (2 * vn) k (T k 6).toInt64) (k + 1) := by
  intro a b ha hb
  rw [mup_at, h a b ha hb]
  by_cases e : a = 2 * vn ∧ b = k
  · rw [if_pos e, if_pos (by omega)]
    unfold tgG
    rw [if_pos (by omega), if_neg (by omega), if_neg (by omega), e.2]
  · rw [if_neg e]
    by_cases q : a < 2 * vn ∨ b < k
    · rw [if_pos q, if_pos (by omega)]
    · rw [if_neg q, if_neg (by omega)]
theorem ivC_e {T : Nat → Nat → Int32} {gl : Nat → Int32} {vn ct : Nat} {M : Nat → Nat → Int64} (h : ivC T gl vn ct M ct) : ∀ a b, a ≤ 2 * vn → b ≤ ct → M a b = tgG T gl vn ct a b := by
  intro a b ha hb
  rw [h a b ha hb]
  by_cases q : a < 2 * vn ∨ b < ct
  · rw [if_pos q]
  · rw [if_neg q]
    unfold tgG
    rw [if_neg (by omega), if_neg (by omega), if_neg (by omega)]
theorem ivG_0 {T : Nat → Nat → Int32} {gl : Nat → Int32} {vn ct : Nat} {M : Nat → Nat → Int64} (hv : vn ≤ 3) (hc : ct ≤ 8) : ivG T gl vn ct (clF M (2 * vn + 1)) 0 0 := by
  intro a b ha hb
  rw [if_neg (by omega)]
  unfold clF
  rw [if_pos (by omega)]
/-- the ranking's table -/
def tgR (T : Nat → Nat → Int32) (vn ct a b : Nat) : Int64 :=
  if b < ct then (if a < vn then (T b (3 + a)).toInt64 else if a < 2 * vn then (-(T b (a - vn))).toInt64 else 0)
  else if b < 2 * ct then (if a < vn then 0 else if a < 2 * vn then (T (b - ct) (a - vn)).toInt64 else if a < 3 * vn then (T (b - ct) (a - 2 * vn) + T (b - ct) (3 + (a - 2 * vn))).toInt64 else (T (b - ct) 6).toInt64)
  else 0
def rho (vn a : Nat) : Nat := if a < vn then a else if a < 2 * vn then a - vn else a - 2 * vn
def ivR (T : Nat → Nat → Int32) (vn ct : Nat) (M : Nat → Nat → Int64) (i k : Nat) : Prop := ∀ a b, a ≤ 3 * vn → b ≤ 2 * ct → M a b = if a < 3 * vn ∧ (rho vn a < i ∨ (rho vn a = i ∧ (b < k ∨ (ct ≤ b ∧ b < ct + k)))) then tgR T vn ct a b else 0
theorem ivR_put {T : Nat → Nat → Int32} {vn ct : Nat} {M : Nat → Nat → Int64} {i k : Nat} (h : ivR T vn ct M i k) (hi : i < vn) (hk : k < ct) : ivR T vn ct (mup (mup (mup (mup M i k (T k (3 + i)).toInt64) (vn + i) k (-(T k i)).toInt64) (vn + i) (ct + k) (T k i).toInt64) (2 * vn + i) (ct + k) (T k i + T k (3 + i)).toInt64) i (k + 1) := by
  intro a b ha hb
  rw [mup_at, mup_at, mup_at, mup_at, h a b ha hb]
  have hr : ∀ a, a < 3 * vn → (rho vn a = i ↔ (a = i ∨ a = vn + i ∨ a = 2 * vn + i)) := fun a ha => by
    unfold rho; split
    · omega
    · split <;> omega
  by_cases e4 : a = 2 * vn + i ∧ b = ct + k
  · rw [if_pos e4, if_pos ⟨by omega, Or.inr ⟨(hr a (by omega)).mpr (by omega), by omega⟩⟩]
    unfold tgR
    rw [if_neg (by omega), if_pos (by omega), if_neg (by omega), if_neg (by omega), if_pos (by omega), e4.1, e4.2, show ct + k - ct = k by omega, show 2 * vn + i - 2 * vn = i by omega]
  · rw [if_neg e4]
    by_cases e3 : a = vn + i ∧ b = ct + k
    · rw [if_pos e3, if_pos ⟨by omega, Or.inr ⟨(hr a (by omega)).mpr (by omega), by omega⟩⟩]
      unfold tgR
      rw [if_neg (by omega), if_pos (by omega), if_neg (by omega), if_pos (by omega), e3.1, e3.2, show ct + k - ct = k by omega, show vn + i - vn = i by omega]
    · rw [if_neg e3]
      by_cases e2 : a = vn + i ∧ b = k
      · rw [if_pos e2, if_pos ⟨by omega, Or.inr ⟨(hr a (by omega)).mpr (by omega), by omega⟩⟩]
        unfold tgR
        rw [if_pos (by omega), if_neg (by omega), if_pos (by omega), e2.1, e2.2, show vn + i - vn = i by omega]
      · rw [if_neg e2]
        by_cases e1 : a = i ∧ b = k
        · rw [if_pos e1, if_pos ⟨by omega, Or.inr ⟨(hr a (by omega)).mpr (by omega), by omega⟩⟩]
          unfold tgR
          rw [if_pos (by omega), if_pos (by omega), e1.1, e1.2]
        · rw [if_neg e1]
          by_cases ha3 : a < 3 * vn
          · have hra := hr a ha3
            by_cases q : rho vn a < i
            · rw [if_pos ⟨ha3, Or.inl q⟩, if_pos ⟨ha3, Or.inl q⟩]
            · by_cases q2 : rho vn a = i
              · have q3 := hra.mp q2
                by_cases q4 : b < k ∨ (ct ≤ b ∧ b < ct + k)
                · rw [if_pos ⟨ha3, Or.inr ⟨q2, q4⟩⟩, if_pos ⟨ha3, Or.inr ⟨q2, by omega⟩⟩]
                · by_cases q5 : b < k + 1 ∨ (ct ≤ b ∧ b < ct + (k + 1))
                  · rw [if_neg (fun q6 => by have := q6.2; omega), if_pos ⟨ha3, Or.inr ⟨q2, q5⟩⟩]
                    -- the two places that nothing is put to
                    unfold tgR
                    rcases q3 with q3 | q3 | q3
                    · have : b = ct + k := by omega
                      rw [if_neg (by omega), if_pos (by omega), if_pos (by omega)]
                    · omega
                    · have : b = k := by omega
                      rw [if_pos (by omega), if_neg (by omega), if_neg (by omega)]
                  · rw [if_neg (fun q6 => by have := q6.2; omega), if_neg (fun q6 => by have := q6.2; omega)]
              · rw [if_neg (fun q6 => by have := q6.2; omega), if_neg (fun q6 => by have := q6.2; omega)]
          · rw [if_neg (fun q => ha3 q.1), if_neg (fun q => ha3 q.1)]
theorem ivR_n {T : Nat → Nat → Int32} {vn ct : Nat} {M : Nat → Nat → Int64} {i : Nat} (h : ivR T vn ct M i ct) : ivR T vn ct M (i + 1) 0 := by
  intro a b ha hb
  rw [h a b ha hb]
  by_cases q : a < 3 * vn ∧ (rho vn a < i ∨ (rho vn a = i ∧ (b < ct ∨ (ct ≤ b ∧ b < ct + ct))))
  · rw [if_pos q, if_pos ⟨q.1, by have := q.2; omega⟩]
  · by_cases q2 : a < 3 * vn ∧ (rho vn a < i + 1 ∨ (rho vn a = i + 1 ∧ (b < 0 ∨ (ct ≤ b ∧ b < ct + 0))))
    · rw [if_neg q, if_pos q2]
      have : b = 2 * ct := by
        apply Classical.byContradiction
        intro q3
        exact q ⟨q2.1, by have := q2.2; omega⟩
      unfold tgR
      rw [if_neg (by omega), if_neg (by omega)]
    · rw [if_neg q, if_neg q2]
def ivS (T : Nat → Nat → Int32) (vn ct : Nat) (M : Nat → Nat → Int64) (k : Nat) : Prop := ∀ a b, a ≤ 3 * vn → b ≤ 2 * ct → M a b = if a < 3 * vn ∨ (ct ≤ b ∧ b < ct + k) then tgR T vn ct a b else 0
theorem ivS_0 {T : Nat → Nat → Int32} {vn ct : Nat} {M : Nat → Nat → Int64} (h : ivR T vn ct M vn 0) : ivS T vn ct M 0 := by
  intro a b ha hb
  rw [h a b ha hb]
  by_cases q : a < 3 * vn
  · have : rho vn a < vn := by unfold rho; split; omega; split <;> omega
    rw [if_pos ⟨q, Or.inl this⟩, if_pos (Or.inl q)]
  · rw [if_neg (fun q2 => q q2.1), if_neg (by omega)]
theorem ivS_s {T : Nat → Nat → Int32} {vn ct : Nat} {M : Nat → Nat → Int64} {k : Nat} (hv : 1 ≤ vn) (h : ivS T vn ct M k) (hk : k < ct) : ivS T vn ct (mup M (3 * vn) (ct + k) (T k 6).toInt64) (k + 1) := by
  intro a b ha hb
  rw [mup_at, h a b ha hb]
  by_cases e : a = 3 * vn ∧ b = ct + k
  · rw [if_pos e, if_pos (by omega)]
    unfold tgR
    rw [if_neg (by omega), if_pos (by omega), if_neg (by omega), if_neg (by omega), if_neg (by omega), e.2, show ct + k - ct = k by omega]
  · rw [if_neg e]
    by_cases q : a < 3 * vn ∨ (ct ≤ b ∧ b < ct + k)
    · rw [if_pos q, if_pos (by omega)]
    · rw [if_neg q, if_neg (by omega)]
theorem ivS_e {T : Nat → Nat → Int32} {vn ct : Nat} {M : Nat → Nat → Int64} (hv : 1 ≤ vn) (h : ivS T vn ct M ct) : ∀ a b, a ≤ 3 * vn → b ≤ 2 * ct → M a b = tgR T vn ct a b := by
  intro a b ha hb
  rw [h a b ha hb]
  by_cases q : a < 3 * vn ∨ (ct ≤ b ∧ b < ct + ct)
  · rw [if_pos q]
  · rw [if_neg q]
    unfold tgR
    by_cases q2 : b < ct
    · rw [if_pos q2, if_neg (by omega), if_neg (by omega)]
    · rw [if_neg q2, if_neg (by omega)]
theorem ivR_0 {T : Nat → Nat → Int32} {vn ct : Nat} {M : Nat → Nat → Int64} (hv : vn ≤ 3) (hc : ct ≤ 8) : ivR T vn ct (clF M (3 * vn + 1)) 0 0 := by
  intro a b ha hb
  rw [if_neg (fun q => by have := q.2; omega)]
  unfold clF
  rw [if_pos (by omega)]
set_option maxHeartbeats 1000000 in
set_option maxRecDepth 100000 in
/-- weighGoal() -/
theorem c_X1_weighGoal (l : Launch) (dC : Nat → ClassId) (dI : Nat → Nat → Nat) (sz : Nat) (p0 qt qg h0 : Nat) (rt : Nat → Nat) (cB cI cA cJ : ClassId) (qc qh : Nat) (r : Nat → Nat) (vn ct : Nat) (ft fb : Int64) (gl : Nat → Int32) (T : Nat → Nat → Int32) (me nw : Nat) (u : Int64) (tw : Int32) (iv : Int64) (hd : Nat → Int32) (M : Nat → Nat → Int64) (hv1 : 1 ≤ vn) (hv3 : vn ≤ 3) (hc : ct ≤ 8) : Met l yX1_weighGoal wsX1_weighGoal ({ frames := 3, cells := 0, slots := 0, locals := 71 }) (va_Pc [.ref p0] (fun U => U.heap.size = sz ∧ va_P (dC, dI) vwCl (rfX p0 qt qg h0 rt cB cI vn ct ft fb gl T ++ (wgW h0 qc qh r cA cI cJ me nw u tw iv hd M)) U.heap ∧ va_K (dC, dI) vwCl ((cB, .array .int) :: (cI, .int) :: wgT cA cI cJ) U ∧ va_D (fun _ => True) (rfX p0 qt qg h0 rt cB cI vn ct ft fb gl T ++ (wgW h0 qc qh r cA cI cJ me nw u tw iv hd M)))) (va_Qv (fun v : Nat → Nat → Int64 => ∀ a b, a ≤ 2 * vn → b ≤ ct → v a b = tgG T gl vn ct a b) (fun v t => va_P (dC, dI) vwCl (rfX p0 qt qg h0 rt cB cI vn ct ft fb gl T ++ (wgW h0 qc qh r cA cI cJ (2 * vn) ct 1 (bcF ((1 &&& -1) - 1)) (nwF (sr 1 (bcF ((1 &&& -1) - 1))) 5) (filI hd 9 (-1)) v)) t.heap ∧ va_K (dC, dI) vwCl ((cB, .array .int) :: (cI, .int) :: wgT cA cI cJ) t ∧ va_D (va_A (rfX p0 qt qg h0 rt cB cI vn ct ft fb gl T ++ (wgW h0 qc qh r cA cI cJ me nw u tw iv hd M)) sz) (rfX p0 qt qg h0 rt cB cI vn ct ft fb gl T ++ (wgW h0 qc qh r cA cI cJ (2 * vn) ct 1 (bcF ((1 &&& -1) - 1)) (nwF (sr 1 (bcF ((1 &&& -1) - 1))) 5) (filI hd 9 (-1)) v))) (va_A (rfX p0 qt qg h0 rt cB cI vn ct ft fb gl T ++ (wgW h0 qc qh r cA cI cJ me nw u tw iv hd M)) sz)) 0 0 (va_A (rfX p0 qt qg h0 rt cB cI vn ct ft fb gl T ++ (wgW h0 qc qh r cA cI cJ me nw u tw iv hd M)) sz) := by
  refine Met.ofW (cc := cX1_weighGoal) (maxL := 4) (ret := none) (by decide) rfl ?_
  intro p e s m args below meth c s₁ B hml hv
  obtain ⟨rfl, hsz, hP, hK, hD0⟩ := hv
  have hx := B.exec
  have hb := B.bytes
  have hr := B.returns
  have hts := atoms_spec (ws := wsX1_weighGoal) B.pre
  have hown : s.vm.findClass RX1 = some m.cls := findClass_of_methodNamed B.named
  subst hsz
  have hD := hD0.self (sz := s.heap.size)
  clear hD0
  generalize hAe : va_A (rfX p0 qt qg h0 rt cB cI vn ct ft fb gl T ++ (wgW h0 qc qh r cA cI cJ me nw u tw iv hd M)) s.heap.size = A at hD ⊢
  have hA : ∀ q : Nat, s.heap.size ≤ q → A q := fun q h => by rw [← hAe]; exact Or.inr h
  have hl := lv_entry ([.ref p0]) (n := 4) (Nat.le_of_ble_eq_true rfl)
  rw [lg_entry_eq]
  generalize (lg_sl ([.ref p0]) ++ List.replicate (4 - (lg_sl ([.ref p0])).length) Slot.unset).toArray = ls at hl ⊢
  have hl : lv_has ls 4 [(0, .ref p0)] := hl
  have hP : va_P (dC, dI) vwCl (rfX p0 qt qg h0 rt cB cI vn ct ft fb gl T ++ (wgW h0 qc qh r cA cI cJ me nw u tw iv hd M)) s.heap := hP
  obtain ⟨H, hH⟩ : ∃ H, H = s.heap := ⟨_, rfl⟩
  have hS : va_S A s.heap H [] := by rw [hH]; exact va_S.rf
  rw [← hH] at hP ⊢
  refine lv_aload_n hx hb dX1_weighGoal_0 rfl (lv_at hl 0 rfl) ?_
  refine va_get (D := (dC, dI)) (ci := 1) (v := .ref h0) (C := RX1) (T := TX1) (N := 7) hx hb hts (fun _ h => List.mem_cons_of_mem _ (List.mem_append_left _ (List.mem_append_right _ h))) hown hK hP 0 rfl rfl 2 (by decide) (hts (.fieldLink RX1 21 "RankFinder" "weighing" "LRankFinder$Weighing;") (List.mem_of_getElem? (i := 1) rfl)) (fun _ h9 => h9) rfl dX1_weighGoal_1 ?_
  refine lv_iconst (v := nI 2) hx hb dX1_weighGoal_4 (by decide) ?_
  refine lv_aload_n hx hb dX1_weighGoal_5 rfl (lv_at hl 0 rfl) ?_
  refine va_get (D := (dC, dI)) (ci := 1) (v := .int (nI vn)) (C := RX1) (T := TX1) (N := 7) hx hb hts (fun _ h => List.mem_cons_of_mem _ (List.mem_append_left _ (List.mem_append_right _ h))) hown hK hP 0 rfl rfl 3 (by decide) (hts (.fieldLink RX1 25 "RankFinder" "variables" "I") (List.mem_of_getElem? (i := 2) rfl)) (fun _ h9 => h9) rfl dX1_weighGoal_6 ?_
  refine lv_imul hx hb dX1_weighGoal_9 ?_
  refine lv_topi (fun z_1 ez_1 => ?_)
  obtain rfl : z_1 = nI (2 * vn) := ez_1.trans (pk_mul 2 vn)
  refine lv_aload_n hx hb dX1_weighGoal_10 rfl (lv_at hl 0 rfl) ?_
  refine va_get (D := (dC, dI)) (ci := 1) (v := .int (nI ct)) (C := RX1) (T := TX1) (N := 7) hx hb hts (fun _ h => List.mem_cons_of_mem _ (List.mem_append_left _ (List.mem_append_right _ h))) hown hK hP 0 rfl rfl 4 (by decide) (hts (.fieldLink RX1 29 "RankFinder" "count" "I") (List.mem_of_getElem? (i := 3) rfl)) (fun _ h9 => h9) rfl dX1_weighGoal_11 ?_
  have hPc : va_P (dC, dI) vwCl (wgW h0 qc qh r cA cI cJ me nw u tw iv hd M) H := va_Pr hP
  have hKc := hK.sub (tys' := wgT cA cI cJ) [2, 3, 4] rfl
  have hFc : ∀ q, va_A (wgW h0 qc qh r cA cI cJ me nw u tw iv hd M) H.size q → A q := va_Ar hD hS hA
  refine va_callv (va_runV (As := [.int (nI (2 * vn)), .int (nI ct)]) (rest := []) ⟨hx, hb, hml, hown, hts⟩ (c_X0_clear l dC dI h0 qc qh r cA cI cJ H.size me nw u tw iv hd M (2 * vn) ct (by omega) (by omega)) (cwV 2 hts gX1_weighGoal_X0_clear rfl rfl rfl (by decide +kernel) ⟨Nat.le_of_ble_eq_true rfl, Nat.le_of_ble_eq_true rfl⟩) ⟨fun a U g mk q => by obtain ⟨q0, q1, qP, qK, qD⟩ := q; exact ⟨q0, q1, qP, va_K.moved (u := U) (U := U.calling g mk a) (Vm.Alike.refl U.vm) qK, qD⟩, va_recv hKc hPc (ci := 0) (q0 := 0) rfl rfl, fun U hU hW => ⟨rfl, by rw [hU], by rw [hU]; exact hPc, va_K.moved hW.alike hKc, va_Dr hD⟩⟩ rfl rfl hl.1 rfl (lv_room (Nat.le_of_ble_eq_true rfl)) dX1_weighGoal_14 ⟨(Nat.zero_le _), (Nat.zero_le _)⟩) hS (fun q _ h => hFc q h) hFc (fun v9 t H1 locs ht hvm hw hB hz1 hk1 hS => ?_)
  obtain ⟨hP1, hK1, hD1⟩ := hB
  rw [ht] at hP1
  obtain ⟨hP, hD⟩ := jn_app hP hD hk1 hFc hP1 hD1
  clear hPc hKc hP1 hD1 hK1 hFc hk1 hz1 ht hvm
  generalize H1 = H at hP hS ⊢
  have hP : va_P (dC, dI) vwCl (rfX p0 qt qg h0 rt cB cI vn ct ft fb gl T ++ (wgW h0 qc qh r cA cI cJ (2 * vn) ct 1 (bcF ((1 &&& -1) - 1)) (nwF (sr 1 (bcF ((1 &&& -1) - 1))) 5) (filI hd 9 (-1)) (clF M (2 * vn + 1)))) H := hP
  have hD : va_D A (rfX p0 qt qg h0 rt cB cI vn ct ft fb gl T ++ (wgW h0 qc qh r cA cI cJ (2 * vn) ct 1 (bcF ((1 &&& -1) - 1)) (nwF (sr 1 (bcF ((1 &&& -1) - 1))) 5) (filI hd 9 (-1)) (clF M (2 * vn + 1)))) := hD
  have hI := ivG_0 (T := T) (gl := gl) (vn := vn) (ct := ct) (M := M) hv3 hc
  obtain ⟨M9, hM9⟩ : ∃ M9, M9 = clF M (2 * vn + 1) := ⟨_, rfl⟩
  rw [← hM9] at hP hD hI
  refine lv_iconst (v := nI 0) hx hb dX1_weighGoal_17 (by decide) ?_
  refine lv_istore_n (lv' := [(1, .int (nI 0)), (0, .ref p0)]) hx hb dX1_weighGoal_18 rfl hl (by decide) rfl (fun ls hl => ?_)
  have outer : ∀ (d i : Nat) (M9 : Nat → Nat → Int64) (H : Heap) (locs : List Loc) (ls : Array Slot), i + d = vn → ivG T gl vn ct M9 i 0 → va_P (dC, dI) vwCl (rfX p0 qt qg h0 rt cB cI vn ct ft fb gl T ++ (wgW h0 qc qh r cA cI cJ (2 * vn) ct 1 (bcF ((1 &&& -1) - 1)) (nwF (sr 1 (bcF ((1 &&& -1) - 1))) 5) (filI hd 9 (-1)) M9)) H → va_K (dC, dI) vwCl ((cB, .array .int) :: (cI, .int) :: wgT cA cI cJ) s → va_D A (rfX p0 qt qg h0 rt cB cI vn ct ft fb gl T ++ (wgW h0 qc qh r cA cI cJ (2 * vn) ct 1 (bcF ((1 &&& -1) - 1)) (nwF (sr 1 (bcF ((1 &&& -1) - 1))) 5) (filI hd 9 (-1)) M9)) → va_S A s.heap H locs → lv_has ls 4 [(1, .int (nI i)), (0, .ref p0)] → W p l e (headSpec wsX1_weighGoal ({ frames := 3, cells := 0, slots := 0, locals := 71 })).room s m #[.ref p0] below meth c H locs 0 0 (MQ below (va_Qv (fun v : Nat → Nat → Int64 => ∀ a b, a ≤ 2 * vn → b ≤ ct → v a b = tgG T gl vn ct a b) (fun v t => va_P (dC, dI) vwCl (rfX p0 qt qg h0 rt cB cI vn ct ft fb gl T ++ (wgW h0 qc qh r cA cI cJ (2 * vn) ct 1 (bcF ((1 &&& -1) - 1)) (nwF (sr 1 (bcF ((1 &&& -1) - 1))) 5) (filI hd 9 (-1)) v)) t.heap ∧ va_K (dC, dI) vwCl ((cB, .array .int) :: (cI, .int) :: wgT cA cI cJ) t ∧ va_D A (rfX p0 qt qg h0 rt cB cI vn ct ft fb gl T ++ (wgW h0 qc qh r cA cI cJ (2 * vn) ct 1 (bcF ((1 &&& -1) - 1)) (nwF (sr 1 (bcF ((1 &&& -1) - 1))) 5) (filI hd 9 (-1)) v))) A) #[.ref p0] s 0 0 A) (F0 m 19 ls []) := by
    clear hP hK hD hS hl hI hM9 M9
    intro d
    induction d with
    | zero =>
      intro i M9 H locs ls hi hI hP hK hD hS hl
      refine lv_iload_n hx hb dX1_weighGoal_19 rfl (lv_at hl 0 rfl) ?_
      refine lv_aload_n hx hb dX1_weighGoal_20 rfl (lv_at hl 1 rfl) ?_
      refine va_get (D := (dC, dI)) (ci := 1) (v := .int (nI vn)) (C := RX1) (T := TX1) (N := 7) hx hb hts (fun _ h => List.mem_cons_of_mem _ (List.mem_append_left _ (List.mem_append_right _ h))) hown hK hP 0 rfl rfl 3 (by decide) (hts (.fieldLink RX1 25 "RankFinder" "variables" "I") (List.mem_of_getElem? (i := 2) rfl)) (fun _ h9 => h9) rfl dX1_weighGoal_21 ?_
      refine lv_icmp_ge (tgt := 124) hx hb dX1_weighGoal_24 (by decide) (fun c1 => ?_) (fun c1 => ?_)
      · obtain rfl : i = vn := by omega
        replace hI := ivC_0 hI
        refine lv_iconst (v := nI 0) hx hb dX1_weighGoal_124 (by decide) ?_
        refine lv_istore_n (lv' := [(1, .int (nI 0)), (0, .ref p0)]) hx hb dX1_weighGoal_125 rfl hl (by decide) rfl (fun ls hl => ?_)
        have cost : ∀ (d k : Nat) (M9 : Nat → Nat → Int64) (H : Heap) (locs : List Loc) (ls : Array Slot), k + d = ct → ivC T gl i ct M9 k → va_P (dC, dI) vwCl (rfX p0 qt qg h0 rt cB cI i ct ft fb gl T ++ (wgW h0 qc qh r cA cI cJ (2 * i) ct 1 (bcF ((1 &&& -1) - 1)) (nwF (sr 1 (bcF ((1 &&& -1) - 1))) 5) (filI hd 9 (-1)) M9)) H → va_K (dC, dI) vwCl ((cB, .array .int) :: (cI, .int) :: wgT cA cI cJ) s → va_D A (rfX p0 qt qg h0 rt cB cI i ct ft fb gl T ++ (wgW h0 qc qh r cA cI cJ (2 * i) ct 1 (bcF ((1 &&& -1) - 1)) (nwF (sr 1 (bcF ((1 &&& -1) - 1))) 5) (filI hd 9 (-1)) M9)) → va_S A s.heap H locs → lv_has ls 4 [(1, .int (nI k)), (0, .ref p0)] → W p l e (headSpec wsX1_weighGoal ({ frames := 3, cells := 0, slots := 0, locals := 71 })).room s m #[.ref p0] below meth c H locs 0 0 (MQ below (va_Qv (fun v : Nat → Nat → Int64 => ∀ a b, a ≤ 2 * i → b ≤ ct → v a b = tgG T gl i ct a b) (fun v t => va_P (dC, dI) vwCl (rfX p0 qt qg h0 rt cB cI i ct ft fb gl T ++ (wgW h0 qc qh r cA cI cJ (2 * i) ct 1 (bcF ((1 &&& -1) - 1)) (nwF (sr 1 (bcF ((1 &&& -1) - 1))) 5) (filI hd 9 (-1)) v)) t.heap ∧ va_K (dC, dI) vwCl ((cB, .array .int) :: (cI, .int) :: wgT cA cI cJ) t ∧ va_D A (rfX p0 qt qg h0 rt cB cI i ct ft fb gl T ++ (wgW h0 qc qh r cA cI cJ (2 * i) ct 1 (bcF ((1 &&& -1) - 1)) (nwF (sr 1 (bcF ((1 &&& -1) - 1))) 5) (filI hd 9 (-1)) v))) A) #[.ref p0] s 0 0 A) (F0 m 126 ls []) := by
          clear hP hK hD hS hl hI M9
          intro d2
          induction d2 with
          | zero =>
            intro k M9 H locs ls hk hI hP hK hD hS hl
            refine lv_iload_n hx hb dX1_weighGoal_126 rfl (lv_at hl 0 rfl) ?_
            refine lv_aload_n hx hb dX1_weighGoal_127 rfl (lv_at hl 1 rfl) ?_
            refine va_get (D := (dC, dI)) (ci := 1) (v := .int (nI ct)) (C := RX1) (T := TX1) (N := 7) hx hb hts (fun _ h => List.mem_cons_of_mem _ (List.mem_append_left _ (List.mem_append_right _ h))) hown hK hP 0 rfl rfl 4 (by decide) (hts (.fieldLink RX1 29 "RankFinder" "count" "I") (List.mem_of_getElem? (i := 3) rfl)) (fun _ h9 => h9) rfl dX1_weighGoal_128 ?_
            refine lv_icmp_ge (tgt := 157) hx hb dX1_weighGoal_131 (by decide) (fun c2 => ?_) (fun c2 => ?_)
            · obtain rfl : k = ct := by omega
              exact W.vret hx hb hr (fun t ht hW => ⟨⟨M9, rfl, ivC_e hI, by rw [ht]; exact hP, va_K.moved hW.alike hK, hD⟩, hS.F ht⟩) hS.2.2 dX1_weighGoal_157
            · exact absurd (nI_le (by omega) (by omega)) c2
          | succ d2 ih2 =>
            intro k M9 H locs ls hk hI hP hK hD hS hl
            refine lv_iload_n hx hb dX1_weighGoal_126 rfl (lv_at hl 0 rfl) ?_
            refine lv_aload_n hx hb dX1_weighGoal_127 rfl (lv_at hl 1 rfl) ?_
            refine va_get (D := (dC, dI)) (ci := 1) (v := .int (nI ct)) (C := RX1) (T := TX1) (N := 7) hx hb hts (fun _ h => List.mem_cons_of_mem _ (List.mem_append_left _ (List.mem_append_right _ h))) hown hK hP 0 rfl rfl 4 (by decide) (hts (.fieldLink RX1 29 "RankFinder" "count" "I") (List.mem_of_getElem? (i := 3) rfl)) (fun _ h9 => h9) rfl dX1_weighGoal_128 ?_
            refine lv_icmp_ge (tgt := 157) hx hb dX1_weighGoal_131 (by decide) (fun c2 => ?_) (fun c2 => ?_)
            · exact absurd c2 (nI_ge (by omega) (by omega))
            · refine lv_aload_n hx hb dX1_weighGoal_134 rfl (lv_at hl 1 rfl) ?_
              refine va_get (D := (dC, dI)) (ci := 1) (v := .ref h0) (C := RX1) (T := TX1) (N := 7) hx hb hts (fun _ h => List.mem_cons_of_mem _ (List.mem_append_left _ (List.mem_append_right _ h))) hown hK hP 0 rfl rfl 2 (by decide) (hts (.fieldLink RX1 21 "RankFinder" "weighing" "LRankFinder$Weighing;") (List.mem_of_getElem? (i := 1) rfl)) (fun _ h9 => h9) rfl dX1_weighGoal_135 ?_
              refine lv_iload_n hx hb dX1_weighGoal_138 rfl (lv_at hl 0 rfl) ?_
              refine lv_aload_n hx hb dX1_weighGoal_139 rfl (lv_at hl 1 rfl) ?_
              refine va_get (D := (dC, dI)) (ci := 1) (v := .ref qt) (C := RX1) (T := TX1) (N := 7) hx hb hts (fun _ h => List.mem_cons_of_mem _ (List.mem_append_left _ (List.mem_append_right _ h))) hown hK hP 0 rfl rfl 0 (by decide) (hts (.fieldLink RX1 11 "RankFinder" "told" "[[I") (List.mem_of_getElem? (i := 4) rfl)) (fun _ h9 => h9) rfl dX1_weighGoal_140 ?_
              refine lv_iload_n hx hb dX1_weighGoal_143 rfl (lv_at hl 0 rfl) ?_
              refine na_aald (y := rt k) hx hb hK hP 1 0 rfl rfl (show k < 8 by omega) (by decide) (if_pos (show k < 8 by omega)) dX1_weighGoal_144 ?_
              refine lv_bipush (v := nI 6) hx hb dX1_weighGoal_145 (by decide) ?_
              refine na_iald hx hb hK hP (3 + k) 1 (rf_row (show k < 8 by omega)) rfl (show 6 < 7 by omega) (by decide) dX1_weighGoal_147 ?_
              have hPc : va_P (dC, dI) vwCl (wgW h0 qc qh r cA cI cJ (2 * i) ct 1 (bcF ((1 &&& -1) - 1)) (nwF (sr 1 (bcF ((1 &&& -1) - 1))) 5) (filI hd 9 (-1)) M9) H := va_Pr hP
              have hKc := hK.sub (tys' := wgT cA cI cJ) [2, 3, 4] rfl
              have hFc : ∀ q, va_A (wgW h0 qc qh r cA cI cJ (2 * i) ct 1 (bcF ((1 &&& -1) - 1)) (nwF (sr 1 (bcF ((1 &&& -1) - 1))) 5) (filI hd 9 (-1)) M9) H.size q → A q := va_Ar hD hS hA
              refine va_callv (va_runV (As := [.int (nI k), .int (T k 6)]) (rest := []) ⟨hx, hb, hml, hown, hts⟩ (c_X0_putCost l dC dI h0 qc qh r cA cI cJ H.size (2 * i) ct 1 (bcF ((1 &&& -1) - 1)) (nwF (sr 1 (bcF ((1 &&& -1) - 1))) 5) (filI hd 9 (-1)) M9 k (T k 6) (by omega) (by omega)) (cwV 2 hts gX1_weighGoal_X0_putCost rfl rfl rfl (by decide +kernel) ⟨Nat.le_of_ble_eq_true rfl, Nat.le_of_ble_eq_true rfl⟩) ⟨fun a U g mk q => by obtain ⟨q0, q1, qP, qK, qD⟩ := q; exact ⟨q0, q1, qP, va_K.moved (u := U) (U := U.calling g mk a) (Vm.Alike.refl U.vm) qK, qD⟩, va_recv hKc hPc (ci := 0) (q0 := 0) rfl rfl, fun U hU hW => ⟨rfl, by rw [hU], by rw [hU]; exact hPc, va_K.moved hW.alike hKc, va_Dr hD⟩⟩ rfl rfl hl.1 rfl (lv_room (Nat.le_of_ble_eq_true rfl)) dX1_weighGoal_148 ⟨(Nat.zero_le _), (Nat.zero_le _)⟩) hS (fun q _ h => hFc q h) hFc (fun v9 t H1 locs ht hvm hw hB hz1 hk1 hS => ?_)
              obtain ⟨hP1, hK1, hD1⟩ := hB
              rw [ht] at hP1
              obtain ⟨hP, hD⟩ := jn_app hP hD hk1 hFc hP1 hD1
              clear hPc hKc hP1 hD1 hK1 hFc hk1 hz1 ht hvm
              generalize H1 = H at hP hS ⊢
              have hP : va_P (dC, dI) vwCl (rfX p0 qt qg h0 rt cB cI i ct ft fb gl T ++ (wgW h0 qc qh r cA cI cJ (2 * i) ct 1 (bcF ((1 &&& -1) - 1)) (nwF (sr 1 (bcF ((1 &&& -1) - 1))) 5) (filI hd 9 (-1)) (mup M9 (2 * i) k (T k 6).toInt64))) H := hP
              have hD : va_D A (rfX p0 qt qg h0 rt cB cI i ct ft fb gl T ++ (wgW h0 qc qh r cA cI cJ (2 * i) ct 1 (bcF ((1 &&& -1) - 1)) (nwF (sr 1 (bcF ((1 &&& -1) - 1))) 5) (filI hd 9 (-1)) (mup M9 (2 * i) k (T k 6).toInt64))) := hD
              refine lv_iinc (v := nI (k + 1)) (lv' := [(1, .int (nI (k + 1))), (0, .ref p0)]) hx hb dX1_weighGoal_151 hl (k := 0) rfl (nI_1 _) (by decide) rfl (fun ls hl => ?_)
              refine lv_goto (tgt := 126) hx hb dX1_weighGoal_154 (by decide) ?_
              exact ih2 (k + 1) _ H _ ls (by omega) (ivC_s hI (by omega)) hP hK hD hS (lv_sub hl [0, 1] rfl)
        exact cost ct 0 M9 H _ ls (by omega) hI hP hK hD hS (lv_sub hl [0, 1] rfl)
      · exact absurd (nI_le (by omega) (by omega)) c1
    | succ d ih =>
      intro i M9 H locs ls hi hI hP hK hD hS hl
      refine lv_iload_n hx hb dX1_weighGoal_19 rfl (lv_at hl 0 rfl) ?_
      refine lv_aload_n hx hb dX1_weighGoal_20 rfl (lv_at hl 1 rfl) ?_
      refine va_get (D := (dC, dI)) (ci := 1) (v := .int (nI vn)) (C := RX1) (T := TX1) (N := 7) hx hb hts (fun _ h => List.mem_cons_of_mem _ (List.mem_append_left _ (List.mem_append_right _ h))) hown hK hP 0 rfl rfl 3 (by decide) (hts (.fieldLink RX1 25 "RankFinder" "variables" "I") (List.mem_of_getElem? (i := 2) rfl)) (fun _ h9 => h9) rfl dX1_weighGoal_21 ?_
      refine lv_icmp_ge (tgt := 124) hx hb dX1_weighGoal_24 (by decide) (fun c1 => ?_) (fun c1 => ?_)
      · exact absurd c1 (nI_ge (by omega) (by omega))
      · refine lv_aload_n hx hb dX1_weighGoal_27 rfl (lv_at hl 1 rfl) ?_
        refine va_get (D := (dC, dI)) (ci := 1) (v := .int (nI vn)) (C := RX1) (T := TX1) (N := 7) hx hb hts (fun _ h => List.mem_cons_of_mem _ (List.mem_append_left _ (List.mem_append_right _ h))) hown hK hP 0 rfl rfl 3 (by decide) (hts (.fieldLink RX1 25 "RankFinder" "variables" "I") (List.mem_of_getElem? (i := 2) rfl)) (fun _ h9 => h9) rfl dX1_weighGoal_28 ?_
        refine lv_iload_n hx hb dX1_weighGoal_31 rfl (lv_at hl 0 rfl) ?_
        refine lv_iadd hx hb dX1_weighGoal_32 ?_
        refine lv_topi (fun z_1 ez_1 => ?_)
        obtain rfl : z_1 = nI (vn + i) := ez_1.trans (nI_add vn i)
        refine lv_istore_n (lv' := [(2, .int (nI (vn + i))), (1, .int (nI i)), (0, .ref p0)]) hx hb dX1_weighGoal_33 rfl hl (by decide) rfl (fun ls hl => ?_)
        refine lv_iconst (v := nI 0) hx hb dX1_weighGoal_34 (by decide) ?_
        refine lv_istore_n (lv' := [(3, .int (nI 0)), (2, .int (nI (vn + i))), (1, .int (nI i)), (0, .ref p0)]) hx hb dX1_weighGoal_35 rfl hl (by decide) rfl (fun ls hl => ?_)
        have inner : ∀ (d k : Nat) (M9 : Nat → Nat → Int64) (H : Heap) (locs : List Loc) (ls : Array Slot), k + d = ct → ivG T gl vn ct M9 i k → va_P (dC, dI) vwCl (rfX p0 qt qg h0 rt cB cI vn ct ft fb gl T ++ (wgW h0 qc qh r cA cI cJ (2 * vn) ct 1 (bcF ((1 &&& -1) - 1)) (nwF (sr 1 (bcF ((1 &&& -1) - 1))) 5) (filI hd 9 (-1)) M9)) H → va_K (dC, dI) vwCl ((cB, .array .int) :: (cI, .int) :: wgT cA cI cJ) s → va_D A (rfX p0 qt qg h0 rt cB cI vn ct ft fb gl T ++ (wgW h0 qc qh r cA cI cJ (2 * vn) ct 1 (bcF ((1 &&& -1) - 1)) (nwF (sr 1 (bcF ((1 &&& -1) - 1))) 5) (filI hd 9 (-1)) M9)) → va_S A s.heap H locs → lv_has ls 4 [(3, .int (nI k)), (2, .int (nI (vn + i))), (1, .int (nI i)), (0, .ref p0)] → W p l e (headSpec wsX1_weighGoal ({ frames := 3, cells := 0, slots := 0, locals := 71 })).room s m #[.ref p0] below meth c H locs 0 0 (MQ below (va_Qv (fun v : Nat → Nat → Int64 => ∀ a b, a ≤ 2 * vn → b ≤ ct → v a b = tgG T gl vn ct a b) (fun v t => va_P (dC, dI) vwCl (rfX p0 qt qg h0 rt cB cI vn ct ft fb gl T ++ (wgW h0 qc qh r cA cI cJ (2 * vn) ct 1 (bcF ((1 &&& -1) - 1)) (nwF (sr 1 (bcF ((1 &&& -1) - 1))) 5) (filI hd 9 (-1)) v)) t.heap ∧ va_K (dC, dI) vwCl ((cB, .array .int) :: (cI, .int) :: wgT cA cI cJ) t ∧ va_D A (rfX p0 qt qg h0 rt cB cI vn ct ft fb gl T ++ (wgW h0 qc qh r cA cI cJ (2 * vn) ct 1 (bcF ((1 &&& -1) - 1)) (nwF (sr 1 (bcF ((1 &&& -1) - 1))) 5) (filI hd 9 (-1)) v))) A) #[.ref p0] s 0 0 A) (F0 m 36 ls []) := by
          clear hP hK hD hS hl hI
          intro d2
          induction d2 with
          | zero =>
            intro k M9 H locs ls hk hI hP hK hD hS hl
            refine lv_iload_n hx hb dX1_weighGoal_36 rfl (lv_at hl 0 rfl) ?_
            refine lv_aload_n hx hb dX1_weighGoal_37 rfl (lv_at hl 3 rfl) ?_
            refine va_get (D := (dC, dI)) (ci := 1) (v := .int (nI ct)) (C := RX1) (T := TX1) (N := 7) hx hb hts (fun _ h => List.mem_cons_of_mem _ (List.mem_append_left _ (List.mem_append_right _ h))) hown hK hP 0 rfl rfl 4 (by decide) (hts (.fieldLink RX1 29 "RankFinder" "count" "I") (List.mem_of_getElem? (i := 3) rfl)) (fun _ h9 => h9) rfl dX1_weighGoal_38 ?_
            refine lv_icmp_ge (tgt := 86) hx hb dX1_weighGoal_41 (by decide) (fun c2 => ?_) (fun c2 => ?_)
            · obtain rfl : k = ct := by omega
              refine lv_aload_n hx hb dX1_weighGoal_86 rfl (lv_at hl 3 rfl) ?_
              refine va_get (D := (dC, dI)) (ci := 1) (v := .ref h0) (C := RX1) (T := TX1) (N := 7) hx hb hts (fun _ h => List.mem_cons_of_mem _ (List.mem_append_left _ (List.mem_append_right _ h))) hown hK hP 0 rfl rfl 2 (by decide) (hts (.fieldLink RX1 21 "RankFinder" "weighing" "LRankFinder$Weighing;") (List.mem_of_getElem? (i := 1) rfl)) (fun _ h9 => h9) rfl dX1_weighGoal_87 ?_
              refine lv_iload_n hx hb dX1_weighGoal_90 rfl (lv_at hl 2 rfl) ?_
              refine lv_aload_n hx hb dX1_weighGoal_91 rfl (lv_at hl 3 rfl) ?_
              refine va_get (D := (dC, dI)) (ci := 1) (v := .ref qg) (C := RX1) (T := TX1) (N := 7) hx hb hts (fun _ h => List.mem_cons_of_mem _ (List.mem_append_left _ (List.mem_append_right _ h))) hown hK hP 0 rfl rfl 1 (by decide) (hts (.fieldLink RX1 14 "RankFinder" "goal" "[I") (List.mem_of_getElem? (i := 5) rfl)) (fun _ h9 => h9) rfl dX1_weighGoal_92 ?_
              refine lv_iload_n hx hb dX1_weighGoal_95 rfl (lv_at hl 2 rfl) ?_
              refine na_iald hx hb hK hP 2 1 rfl rfl (show i < 6 by omega) (by decide) dX1_weighGoal_96 ?_
              refine lv_ineg hx hb dX1_weighGoal_97 ?_
              have hPc : va_P (dC, dI) vwCl (wgW h0 qc qh r cA cI cJ (2 * vn) k 1 (bcF ((1 &&& -1) - 1)) (nwF (sr 1 (bcF ((1 &&& -1) - 1))) 5) (filI hd 9 (-1)) M9) H := va_Pr hP
              have hKc := hK.sub (tys' := wgT cA cI cJ) [2, 3, 4] rfl
              have hFc : ∀ q, va_A (wgW h0 qc qh r cA cI cJ (2 * vn) k 1 (bcF ((1 &&& -1) - 1)) (nwF (sr 1 (bcF ((1 &&& -1) - 1))) 5) (filI hd 9 (-1)) M9) H.size q → A q := va_Ar hD hS hA
              refine va_callv (va_runV (As := [.int (nI i), .int (-(gl i))]) (rest := []) ⟨hx, hb, hml, hown, hts⟩ (c_X0_putRightSide l dC dI h0 qc qh r cA cI cJ H.size (2 * vn) k 1 (bcF ((1 &&& -1) - 1)) (nwF (sr 1 (bcF ((1 &&& -1) - 1))) 5) (filI hd 9 (-1)) M9 i (-(gl i)) (by omega) (by omega)) (cwV 2 hts gX1_weighGoal_X0_putRightSide rfl rfl rfl (by decide +kernel) ⟨Nat.le_of_ble_eq_true rfl, Nat.le_of_ble_eq_true rfl⟩) ⟨fun a U g mk q => by obtain ⟨q0, q1, qP, qK, qD⟩ := q; exact ⟨q0, q1, qP, va_K.moved (u := U) (U := U.calling g mk a) (Vm.Alike.refl U.vm) qK, qD⟩, va_recv hKc hPc (ci := 0) (q0 := 0) rfl rfl, fun U hU hW => ⟨rfl, by rw [hU], by rw [hU]; exact hPc, va_K.moved hW.alike hKc, va_Dr hD⟩⟩ rfl rfl hl.1 rfl (lv_room (Nat.le_of_ble_eq_true rfl)) dX1_weighGoal_98 ⟨(Nat.zero_le _), (Nat.zero_le _)⟩) hS (fun q _ h => hFc q h) hFc (fun v9 t H1 locs ht hvm hw hB hz1 hk1 hS => ?_)
              obtain ⟨hP1, hK1, hD1⟩ := hB
              rw [ht] at hP1
              obtain ⟨hP, hD⟩ := jn_app hP hD hk1 hFc hP1 hD1
              clear hPc hKc hP1 hD1 hK1 hFc hk1 hz1 ht hvm
              generalize H1 = H at hP hS ⊢
              have hP : va_P (dC, dI) vwCl (rfX p0 qt qg h0 rt cB cI vn k ft fb gl T ++ (wgW h0 qc qh r cA cI cJ (2 * vn) k 1 (bcF ((1 &&& -1) - 1)) (nwF (sr 1 (bcF ((1 &&& -1) - 1))) 5) (filI hd 9 (-1)) (mup M9 i k (-(gl i)).toInt64))) H := hP
              have hD : va_D A (rfX p0 qt qg h0 rt cB cI vn k ft fb gl T ++ (wgW h0 qc qh r cA cI cJ (2 * vn) k 1 (bcF ((1 &&& -1) - 1)) (nwF (sr 1 (bcF ((1 &&& -1) - 1))) 5) (filI hd 9 (-1)) (mup M9 i k (-(gl i)).toInt64))) := hD
              refine lv_aload_n hx hb dX1_weighGoal_101 rfl (lv_at hl 3 rfl) ?_
              refine va_get (D := (dC, dI)) (ci := 1) (v := .ref h0) (C := RX1) (T := TX1) (N := 7) hx hb hts (fun _ h => List.mem_cons_of_mem _ (List.mem_append_left _ (List.mem_append_right _ h))) hown hK hP 0 rfl rfl 2 (by decide) (hts (.fieldLink RX1 21 "RankFinder" "weighing" "LRankFinder$Weighing;") (List.mem_of_getElem? (i := 1) rfl)) (fun _ h9 => h9) rfl dX1_weighGoal_102 ?_
              refine lv_iload_n hx hb dX1_weighGoal_105 rfl (lv_at hl 1 rfl) ?_
              refine lv_aload_n hx hb dX1_weighGoal_106 rfl (lv_at hl 3 rfl) ?_
              refine va_get (D := (dC, dI)) (ci := 1) (v := .ref qg) (C := RX1) (T := TX1) (N := 7) hx hb hts (fun _ h => List.mem_cons_of_mem _ (List.mem_append_left _ (List.mem_append_right _ h))) hown hK hP 0 rfl rfl 1 (by decide) (hts (.fieldLink RX1 14 "RankFinder" "goal" "[I") (List.mem_of_getElem? (i := 5) rfl)) (fun _ h9 => h9) rfl dX1_weighGoal_107 ?_
              refine lv_iconst (v := nI 3) hx hb dX1_weighGoal_110 (by decide) ?_
              refine lv_iload_n hx hb dX1_weighGoal_111 rfl (lv_at hl 2 rfl) ?_
              refine lv_iadd hx hb dX1_weighGoal_112 ?_
              refine lv_topi (fun z_1 ez_1 => ?_)
              obtain rfl : z_1 = nI (3 + i) := ez_1.trans (nI_add 3 i)
              refine na_iald hx hb hK hP 2 1 rfl rfl (show 3 + i < 6 by omega) (by decide) dX1_weighGoal_113 ?_
              refine lv_ineg hx hb dX1_weighGoal_114 ?_
              have hPc : va_P (dC, dI) vwCl (wgW h0 qc qh r cA cI cJ (2 * vn) k 1 (bcF ((1 &&& -1) - 1)) (nwF (sr 1 (bcF ((1 &&& -1) - 1))) 5) (filI hd 9 (-1)) (mup M9 i k (-(gl i)).toInt64)) H := va_Pr hP
              have hKc := hK.sub (tys' := wgT cA cI cJ) [2, 3, 4] rfl
              have hFc : ∀ q, va_A (wgW h0 qc qh r cA cI cJ (2 * vn) k 1 (bcF ((1 &&& -1) - 1)) (nwF (sr 1 (bcF ((1 &&& -1) - 1))) 5) (filI hd 9 (-1)) (mup M9 i k (-(gl i)).toInt64)) H.size q → A q := va_Ar hD hS hA
              refine va_callv (va_runV (As := [.int (nI (vn + i)), .int (-(gl (3 + i)))]) (rest := []) ⟨hx, hb, hml, hown, hts⟩ (c_X0_putRightSide l dC dI h0 qc qh r cA cI cJ H.size (2 * vn) k 1 (bcF ((1 &&& -1) - 1)) (nwF (sr 1 (bcF ((1 &&& -1) - 1))) 5) (filI hd 9 (-1)) (mup M9 i k (-(gl i)).toInt64) (vn + i) (-(gl (3 + i))) (by omega) (by omega)) (cwV 2 hts gX1_weighGoal_X0_putRightSide rfl rfl rfl (by decide +kernel) ⟨Nat.le_of_ble_eq_true rfl, Nat.le_of_ble_eq_true rfl⟩) ⟨fun a U g mk q => by obtain ⟨q0, q1, qP, qK, qD⟩ := q; exact ⟨q0, q1, qP, va_K.moved (u := U) (U := U.calling g mk a) (Vm.Alike.refl U.vm) qK, qD⟩, va_recv hKc hPc (ci := 0) (q0 := 0) rfl rfl, fun U hU hW => ⟨rfl, by rw [hU], by rw [hU]; exact hPc, va_K.moved hW.alike hKc, va_Dr hD⟩⟩ rfl rfl hl.1 rfl (lv_room (Nat.le_of_ble_eq_true rfl)) dX1_weighGoal_115 ⟨(Nat.zero_le _), (Nat.zero_le _)⟩) hS (fun q _ h => hFc q h) hFc (fun v9 t H1 locs ht hvm hw hB hz1 hk1 hS => ?_)
              obtain ⟨hP1, hK1, hD1⟩ := hB
              rw [ht] at hP1
              obtain ⟨hP, hD⟩ := jn_app hP hD hk1 hFc hP1 hD1
              clear hPc hKc hP1 hD1 hK1 hFc hk1 hz1 ht hvm
              generalize H1 = H at hP hS ⊢
              have hP : va_P (dC, dI) vwCl (rfX p0 qt qg h0 rt cB cI vn k ft fb gl T ++ (wgW h0 qc qh r cA cI cJ (2 * vn) k 1 (bcF ((1 &&& -1) - 1)) (nwF (sr 1 (bcF ((1 &&& -1) - 1))) 5) (filI hd 9 (-1)) (mup (mup M9 i k (-(gl i)).toInt64) (vn + i) k (-(gl (3 + i))).toInt64))) H := hP
              have hD : va_D A (rfX p0 qt qg h0 rt cB cI vn k ft fb gl T ++ (wgW h0 qc qh r cA cI cJ (2 * vn) k 1 (bcF ((1 &&& -1) - 1)) (nwF (sr 1 (bcF ((1 &&& -1) - 1))) 5) (filI hd 9 (-1)) (mup (mup M9 i k (-(gl i)).toInt64) (vn + i) k (-(gl (3 + i))).toInt64))) := hD
              refine lv_iinc (v := nI (i + 1)) (lv' := [(1, .int (nI (i + 1))), (3, .int (nI k)), (2, .int (nI (vn + i))), (0, .ref p0)]) hx hb dX1_weighGoal_118 hl (k := 2) rfl (nI_1 _) (by decide) rfl (fun ls hl => ?_)
              refine lv_goto (tgt := 19) hx hb dX1_weighGoal_121 (by decide) ?_
              exact ih (i + 1) _ H _ ls (by omega) (ivG_rhs hI (by omega)) hP hK hD hS (lv_sub hl [0, 3] rfl)
            · exact absurd (nI_le (by omega) (by omega)) c2
          | succ d2 ih2 =>
            intro k M9 H locs ls hk hI hP hK hD hS hl
            refine lv_iload_n hx hb dX1_weighGoal_36 rfl (lv_at hl 0 rfl) ?_
            refine lv_aload_n hx hb dX1_weighGoal_37 rfl (lv_at hl 3 rfl) ?_
            refine va_get (D := (dC, dI)) (ci := 1) (v := .int (nI ct)) (C := RX1) (T := TX1) (N := 7) hx hb hts (fun _ h => List.mem_cons_of_mem _ (List.mem_append_left _ (List.mem_append_right _ h))) hown hK hP 0 rfl rfl 4 (by decide) (hts (.fieldLink RX1 29 "RankFinder" "count" "I") (List.mem_of_getElem? (i := 3) rfl)) (fun _ h9 => h9) rfl dX1_weighGoal_38 ?_
            refine lv_icmp_ge (tgt := 86) hx hb dX1_weighGoal_41 (by decide) (fun c2 => ?_) (fun c2 => ?_)
            · exact absurd c2 (nI_ge (by omega) (by omega))
            · refine lv_aload_n hx hb dX1_weighGoal_44 rfl (lv_at hl 3 rfl) ?_
              refine va_get (D := (dC, dI)) (ci := 1) (v := .ref h0) (C := RX1) (T := TX1) (N := 7) hx hb hts (fun _ h => List.mem_cons_of_mem _ (List.mem_append_left _ (List.mem_append_right _ h))) hown hK hP 0 rfl rfl 2 (by decide) (hts (.fieldLink RX1 21 "RankFinder" "weighing" "LRankFinder$Weighing;") (List.mem_of_getElem? (i := 1) rfl)) (fun _ h9 => h9) rfl dX1_weighGoal_45 ?_
              refine lv_iload_n hx hb dX1_weighGoal_48 rfl (lv_at hl 2 rfl) ?_
              refine lv_iload_n hx hb dX1_weighGoal_49 rfl (lv_at hl 0 rfl) ?_
              refine lv_aload_n hx hb dX1_weighGoal_50 rfl (lv_at hl 3 rfl) ?_
              refine va_get (D := (dC, dI)) (ci := 1) (v := .ref qt) (C := RX1) (T := TX1) (N := 7) hx hb hts (fun _ h => List.mem_cons_of_mem _ (List.mem_append_left _ (List.mem_append_right _ h))) hown hK hP 0 rfl rfl 0 (by decide) (hts (.fieldLink RX1 11 "RankFinder" "told" "[[I") (List.mem_of_getElem? (i := 4) rfl)) (fun _ h9 => h9) rfl dX1_weighGoal_51 ?_
              refine lv_iload_n hx hb dX1_weighGoal_54 rfl (lv_at hl 0 rfl) ?_
              refine na_aald (y := rt k) hx hb hK hP 1 0 rfl rfl (show k < 8 by omega) (by decide) (if_pos (show k < 8 by omega)) dX1_weighGoal_55 ?_
              refine lv_iload_n hx hb dX1_weighGoal_56 rfl (lv_at hl 2 rfl) ?_
              refine na_iald hx hb hK hP (3 + k) 1 (rf_row (show k < 8 by omega)) rfl (show i < 7 by omega) (by decide) dX1_weighGoal_57 ?_
              have hPc : va_P (dC, dI) vwCl (wgW h0 qc qh r cA cI cJ (2 * vn) ct 1 (bcF ((1 &&& -1) - 1)) (nwF (sr 1 (bcF ((1 &&& -1) - 1))) 5) (filI hd 9 (-1)) M9) H := va_Pr hP
              have hKc := hK.sub (tys' := wgT cA cI cJ) [2, 3, 4] rfl
              have hFc : ∀ q, va_A (wgW h0 qc qh r cA cI cJ (2 * vn) ct 1 (bcF ((1 &&& -1) - 1)) (nwF (sr 1 (bcF ((1 &&& -1) - 1))) 5) (filI hd 9 (-1)) M9) H.size q → A q := va_Ar hD hS hA
              refine va_callv (va_runV (As := [.int (nI i), .int (nI k), .int (T k i)]) (rest := []) ⟨hx, hb, hml, hown, hts⟩ (c_X0_put l dC dI h0 qc qh r cA cI cJ H.size (2 * vn) ct 1 (bcF ((1 &&& -1) - 1)) (nwF (sr 1 (bcF ((1 &&& -1) - 1))) 5) (filI hd 9 (-1)) M9 i k (T k i) (by omega) (by omega)) (cwV 3 hts gX1_weighGoal_X0_put rfl rfl rfl (by decide +kernel) ⟨Nat.le_of_ble_eq_true rfl, Nat.le_of_ble_eq_true rfl⟩) ⟨fun a U g mk q => by obtain ⟨q0, q1, qP, qK, qD⟩ := q; exact ⟨q0, q1, qP, va_K.moved (u := U) (U := U.calling g mk a) (Vm.Alike.refl U.vm) qK, qD⟩, va_recv hKc hPc (ci := 0) (q0 := 0) rfl rfl, fun U hU hW => ⟨rfl, by rw [hU], by rw [hU]; exact hPc, va_K.moved hW.alike hKc, va_Dr hD⟩⟩ rfl rfl hl.1 rfl (lv_room (Nat.le_of_ble_eq_true rfl)) dX1_weighGoal_58 ⟨(Nat.zero_le _), (Nat.zero_le _)⟩) hS (fun q _ h => hFc q h) hFc (fun v9 t H1 locs ht hvm hw hB hz1 hk1 hS => ?_)
              obtain ⟨hP1, hK1, hD1⟩ := hB
              rw [ht] at hP1
              obtain ⟨hP, hD⟩ := jn_app hP hD hk1 hFc hP1 hD1
              clear hPc hKc hP1 hD1 hK1 hFc hk1 hz1 ht hvm
              generalize H1 = H at hP hS ⊢
              have hP : va_P (dC, dI) vwCl (rfX p0 qt qg h0 rt cB cI vn ct ft fb gl T ++ (wgW h0 qc qh r cA cI cJ (2 * vn) ct 1 (bcF ((1 &&& -1) - 1)) (nwF (sr 1 (bcF ((1 &&& -1) - 1))) 5) (filI hd 9 (-1)) (mup M9 i k (T k i).toInt64))) H := hP
              have hD : va_D A (rfX p0 qt qg h0 rt cB cI vn ct ft fb gl T ++ (wgW h0 qc qh r cA cI cJ (2 * vn) ct 1 (bcF ((1 &&& -1) - 1)) (nwF (sr 1 (bcF ((1 &&& -1) - 1))) 5) (filI hd 9 (-1)) (mup M9 i k (T k i).toInt64))) := hD
              refine lv_aload_n hx hb dX1_weighGoal_61 rfl (lv_at hl 3 rfl) ?_
              refine va_get (D := (dC, dI)) (ci := 1) (v := .ref h0) (C := RX1) (T := TX1) (N := 7) hx hb hts (fun _ h => List.mem_cons_of_mem _ (List.mem_append_left _ (List.mem_append_right _ h))) hown hK hP 0 rfl rfl 2 (by decide) (hts (.fieldLink RX1 21 "RankFinder" "weighing" "LRankFinder$Weighing;") (List.mem_of_getElem? (i := 1) rfl)) (fun _ h9 => h9) rfl dX1_weighGoal_62 ?_
              refine lv_iload_n hx hb dX1_weighGoal_65 rfl (lv_at hl 1 rfl) ?_
              refine lv_iload_n hx hb dX1_weighGoal_66 rfl (lv_at hl 0 rfl) ?_
              refine lv_aload_n hx hb dX1_weighGoal_67 rfl (lv_at hl 3 rfl) ?_
              refine va_get (D := (dC, dI)) (ci := 1) (v := .ref qt) (C := RX1) (T := TX1) (N := 7) hx hb hts (fun _ h => List.mem_cons_of_mem _ (List.mem_append_left _ (List.mem_append_right _ h))) hown hK hP 0 rfl rfl 0 (by decide) (hts (.fieldLink RX1 11 "RankFinder" "told" "[[I") (List.mem_of_getElem? (i := 4) rfl)) (fun _ h9 => h9) rfl dX1_weighGoal_68 ?_
              refine lv_iload_n hx hb dX1_weighGoal_71 rfl (lv_at hl 0 rfl) ?_
              refine na_aald (y := rt k) hx hb hK hP 1 0 rfl rfl (show k < 8 by omega) (by decide) (if_pos (show k < 8 by omega)) dX1_weighGoal_72 ?_
              refine lv_iconst (v := nI 3) hx hb dX1_weighGoal_73 (by decide) ?_
              refine lv_iload_n hx hb dX1_weighGoal_74 rfl (lv_at hl 2 rfl) ?_
              refine lv_iadd hx hb dX1_weighGoal_75 ?_
              refine lv_topi (fun z_1 ez_1 => ?_)
              obtain rfl : z_1 = nI (3 + i) := ez_1.trans (nI_add 3 i)
              refine na_iald hx hb hK hP (3 + k) 1 (rf_row (show k < 8 by omega)) rfl (show 3 + i < 7 by omega) (by decide) dX1_weighGoal_76 ?_
              have hPc : va_P (dC, dI) vwCl (wgW h0 qc qh r cA cI cJ (2 * vn) ct 1 (bcF ((1 &&& -1) - 1)) (nwF (sr 1 (bcF ((1 &&& -1) - 1))) 5) (filI hd 9 (-1)) (mup M9 i k (T k i).toInt64)) H := va_Pr hP
              have hKc := hK.sub (tys' := wgT cA cI cJ) [2, 3, 4] rfl
              have hFc : ∀ q, va_A (wgW h0 qc qh r cA cI cJ (2 * vn) ct 1 (bcF ((1 &&& -1) - 1)) (nwF (sr 1 (bcF ((1 &&& -1) - 1))) 5) (filI hd 9 (-1)) (mup M9 i k (T k i).toInt64)) H.size q → A q := va_Ar hD hS hA
              refine va_callv (va_runV (As := [.int (nI (vn + i)), .int (nI k), .int (T k (3 + i))]) (rest := []) ⟨hx, hb, hml, hown, hts⟩ (c_X0_put l dC dI h0 qc qh r cA cI cJ H.size (2 * vn) ct 1 (bcF ((1 &&& -1) - 1)) (nwF (sr 1 (bcF ((1 &&& -1) - 1))) 5) (filI hd 9 (-1)) (mup M9 i k (T k i).toInt64) (vn + i) k (T k (3 + i)) (by omega) (by omega)) (cwV 3 hts gX1_weighGoal_X0_put rfl rfl rfl (by decide +kernel) ⟨Nat.le_of_ble_eq_true rfl, Nat.le_of_ble_eq_true rfl⟩) ⟨fun a U g mk q => by obtain ⟨q0, q1, qP, qK, qD⟩ := q; exact ⟨q0, q1, qP, va_K.moved (u := U) (U := U.calling g mk a) (Vm.Alike.refl U.vm) qK, qD⟩, va_recv hKc hPc (ci := 0) (q0 := 0) rfl rfl, fun U hU hW => ⟨rfl, by rw [hU], by rw [hU]; exact hPc, va_K.moved hW.alike hKc, va_Dr hD⟩⟩ rfl rfl hl.1 rfl (lv_room (Nat.le_of_ble_eq_true rfl)) dX1_weighGoal_77 ⟨(Nat.zero_le _), (Nat.zero_le _)⟩) hS (fun q _ h => hFc q h) hFc (fun v9 t H1 locs ht hvm hw hB hz1 hk1 hS => ?_)
              obtain ⟨hP1, hK1, hD1⟩ := hB
              rw [ht] at hP1
              obtain ⟨hP, hD⟩ := jn_app hP hD hk1 hFc hP1 hD1
              clear hPc hKc hP1 hD1 hK1 hFc hk1 hz1 ht hvm
              generalize H1 = H at hP hS ⊢
              have hP : va_P (dC, dI) vwCl (rfX p0 qt qg h0 rt cB cI vn ct ft fb gl T ++ (wgW h0 qc qh r cA cI cJ (2 * vn) ct 1 (bcF ((1 &&& -1) - 1)) (nwF (sr 1 (bcF ((1 &&& -1) - 1))) 5) (filI hd 9 (-1)) (mup (mup M9 i k (T k i).toInt64) (vn + i) k (T k (3 + i)).toInt64))) H := hP
              have hD : va_D A (rfX p0 qt qg h0 rt cB cI vn ct ft fb gl T ++ (wgW h0 qc qh r cA cI cJ (2 * vn) ct 1 (bcF ((1 &&& -1) - 1)) (nwF (sr 1 (bcF ((1 &&& -1) - 1))) 5) (filI hd 9 (-1)) (mup (mup M9 i k (T k i).toInt64) (vn + i) k (T k (3 + i)).toInt64))) := hD
              refine lv_iinc (v := nI (k + 1)) (lv' := [(3, .int (nI (k + 1))), (2, .int (nI (vn + i))), (1, .int (nI i)), (0, .ref p0)]) hx hb dX1_weighGoal_80 hl (k := 0) rfl (nI_1 _) (by decide) rfl (fun ls hl => ?_)
              refine lv_goto (tgt := 36) hx hb dX1_weighGoal_83 (by decide) ?_
              exact ih2 (k + 1) _ H _ ls (by omega) (ivG_put hI (by omega) (by omega)) hP hK hD hS (lv_sub hl [0, 1, 2, 3] rfl)
        exact inner ct 0 M9 H _ ls (by omega) hI hP hK hD hS (lv_sub hl [0, 1, 2, 3] rfl)
  exact outer vn 0 M9 H _ ls (by omega) hI hP hK hD hS (lv_sub hl [0, 1] rfl)
end
