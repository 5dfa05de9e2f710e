/-! ===== what holds at the law's entry ===== -/
def sigma0 (L : Nat) (xs : Nat → Int) : Int → Int → Int := fun a j =>
  if a = 4 then (if 0 ≤ j ∧ j < L then xs j.toNat else 0)
  else if 1 ≤ a ∧ a ≤ 3 then (LWL.getD (a.toNat - 1) []).getD j.toNat 0
  else if a = 6 then KWI.getD j.toNat 0 else 0
def sh0 (L : Nat) : MSh := [(0, 4, []), (0, 4, []), (0, 4, []), (0, L, []), (30, 0, []), (2, 183, [])]
def h00 (L : Nat) (xs : Nat → Int) : MH := (sh0 L, sigma0 L xs)
theorem STR_start (L : Nat) (xs : Nat → Int) : STR L xs (h00 L xs) := by
  refine ⟨fun a a1 a2 => ⟨?_, fun j hj => ?_⟩, rfl, fun j hj => ?_, rfl⟩
  · rcases (show a = 1 ∨ a = 2 ∨ a = 3 ∨ a = 4 by omega) with rfl | rfl | rfl | rfl <;> rfl
  · show sigma0 L xs (a : Int) (j : Int) = oldV xs a j
    unfold sigma0 oldV
    unfold oldN at hj
    by_cases e : a = 4
    · rw [if_pos e] at hj
      rw [if_pos (by omega), if_pos (by omega), if_pos e]; rfl
    · rw [if_neg (by omega), if_pos (by omega), if_neg e]; rfl
  · show sigma0 L xs 6 (j : Int) = _
    unfold sigma0
    rw [if_neg (by omega), if_neg (by omega), if_pos rfl]; rfl
theorem LWL_r : ∀ a, a < 3 → ∀ j, j < 4 → 0 ≤ (LWL.getD a []).getD j 0 ∧ (LWL.getD a []).getD j 0 < 1000 := by decide +kernel
theorem LWL_r2 (a j : Nat) : 0 ≤ (LWL.getD a []).getD j 0 ∧ (LWL.getD a []).getD j 0 < 1000 := by
  by_cases h1 : a < 3
  · by_cases h2 : j < 4
    · exact LWL_r a h1 j h2
    · have : (LWL.getD a []).length = 4 := by
        rcases (show a = 0 ∨ a = 1 ∨ a = 2 by omega) with rfl | rfl | rfl <;> rfl
      rw [List.getD_eq_getElem?_getD, List.getElem?_eq_none (by omega)]; decide
  · rw [show LWL.getD a [] = [] by rw [List.getD_eq_getElem?_getD, List.getElem?_eq_none (by show 3 ≤ a; omega)]; rfl]; simp
theorem WF_start {L : Nat} {xs : Nat → Int} (hL : L ≤ 3072) (hx : ∀ j, r32 (xs j)) : WF (h00 L xs) := by
  refine ⟨fun a a1 a2 => ?_, fun a j ha => ?_⟩
  · have a2 : a ≤ 6 := a2
    have hr : ∀ j, r32 (sigma0 L xs a j) := by
      intro j
      unfold sigma0
      split
      · split
        · exact hx _
        · unfold r32; omega
      · split
        · have := LWL_r2 (a.toNat - 1) j.toNat; unfold r32; omega
        · split
          · have := KWI_r j.toNat; unfold r32; omega
          · unfold r32; omega
    have hcode : ∀ (k : Nat), (k = 0 ∨ k = 2 ∨ k = 30) → ∀ j x, r32 x → rgx (tcode k j) x := by
      intro k hk j x hxx
      rcases hk with rfl | rfl | rfl
      · exact hxx
      · exact hxx
      · unfold tcode
        rw [if_neg (by decide), if_neg (by decide)]
        have : ftc (30 - 10) j.toNat = 9 := by
          unfold ftc
          rw [show ftT.getD (30 - 10) [] = [] from rfl]; rfl
        rw [this]; exact hxx
    rcases (show a = 1 ∨ a = 2 ∨ a = 3 ∨ a = 4 ∨ a = 5 ∨ a = 6 by omega) with rfl | rfl | rfl | rfl | rfl | rfl
    · exact ⟨by show 4 < 2147483648; decide, fun j => hcode 0 (by decide) j _ (hr j), fun k => by show 0 ≤ ([] : List Int).getD k 0; simp, fun q1 _ => absurd (show 3 ≤ 0 from q1) (by decide), fun q1 _ => absurd (show 10 ≤ 0 from q1) (by decide)⟩
    · exact ⟨by show 4 < 2147483648; decide, fun j => hcode 0 (by decide) j _ (hr j), fun k => by show 0 ≤ ([] : List Int).getD k 0; simp, fun q1 _ => absurd (show 3 ≤ 0 from q1) (by decide), fun q1 _ => absurd (show 10 ≤ 0 from q1) (by decide)⟩
    · exact ⟨by show 4 < 2147483648; decide, fun j => hcode 0 (by decide) j _ (hr j), fun k => by show 0 ≤ ([] : List Int).getD k 0; simp, fun q1 _ => absurd (show 3 ≤ 0 from q1) (by decide), fun q1 _ => absurd (show 10 ≤ 0 from q1) (by decide)⟩
    · exact ⟨by show L < _; omega, fun j => hcode 0 (by decide) j _ (hr j), fun k => by show 0 ≤ ([] : List Int).getD k 0; simp, fun q1 _ => absurd (show 3 ≤ 0 from q1) (by decide), fun q1 _ => absurd (show 10 ≤ 0 from q1) (by decide)⟩
    · exact ⟨by show 0 < 2147483648; decide, fun j => hcode 30 (by decide) j _ (hr j), fun k => by show 0 ≤ ([] : List Int).getD k 0; simp, fun _ q1 => absurd (show 30 ≤ 5 from q1) (by decide), fun _ q1 => absurd (show 30 < 23 from q1) (by decide)⟩
    · exact ⟨by show 183 < 2147483648; decide, fun j => hcode 2 (by decide) j _ (hr j), fun k => by show 0 ≤ ([] : List Int).getD k 0; simp, fun q1 _ => absurd (show 3 ≤ 2 from q1) (by decide), fun q1 _ => absurd (show 10 ≤ 2 from q1) (by decide)⟩
  · have ha : (6 : Int) < a := ha
    show sigma0 L xs a j = 0
    unfold sigma0
    rw [if_neg (by omega), if_neg (by omega), if_neg (by omega)]
def R_law : String := "EmptyChairsLaw"
def NB : List Cond := flatC (Jvm.Cond.and given_1 narrow_1)
def tmS (k : Nat) : Term := .static "EmptyChairs" (stN k) "[I"
theorem nb_arr : ∀ k, 1 ≤ k → k ≤ 3 → NB[10 + 7 * (k - 1)]? = some (Cond.arrayOf (tmS k) .int) := by
  intro k h1 h2
  rcases (show k = 1 ∨ k = 2 ∨ k = 3 by omega) with rfl | rfl | rfl <;> decide +kernel
theorem nb_len : ∀ k, 1 ≤ k → k ≤ 3 → NB[11 + 7 * (k - 1)]? = some (Cond.eq (.length (tmS k)) (.int 4)) := by
  intro k h1 h2
  rcases (show k = 1 ∨ k = 2 ∨ k = 3 by omega) with rfl | rfl | rfl <;> decide +kernel
theorem nb_el : ∀ k, k < 3 → ∀ j, j < 4 → NB[12 + 7 * k + j]? = some (Cond.eq (.elem (tmS (k + 1)) (.int (Int32.ofNat j))) (.int (Int32.ofInt ((LWL.getD k []).getD j 0)))) := by decide +kernel
theorem nb_cs : NB[4]? = some (Cond.eq (.static "java/lang/String" "COMPACT_STRINGS" "Z") (.int 1)) := by decide +kernel
theorem nb_fm : NB[5]? = some (Cond.isRef (.static "jdk/internal/util/Preconditions" "SIOOBE_FORMATTER" "Ljava/util/function/BiFunction;")) := by decide +kernel
def tmT : Term := .string "EmptyChairs$Tape" 29
theorem nb_ex : NB[69]? = some (Cond.exactly tmT "java/lang/String") := by decide +kernel
theorem nb_co : NB[70]? = some (Cond.eq (.field tmT "java/lang/String" "coder" "B") (.int 0)) := by decide +kernel
theorem nb_va : NB[71]? = some (Cond.arrayOf (.field tmT "java/lang/String" "value" "[B") .byte) := by decide +kernel
theorem nb_vl : NB[72]? = some (Cond.eq (.length (.field tmT "java/lang/String" "value" "[B")) (.int 183)) := by decide +kernel
theorem nb_ve : ∀ j, j < 183 → NB[73 + j]? = some (Cond.eq (.elem (.field tmT "java/lang/String" "value" "[B") (.int (Int32.ofNat j))) (.int (KWB.getD j 0))) := by decide +kernel
theorem ls_1 : Cond.laysStatic "EmptyChairs" "LAW_AT_FIRST" "[I" ∈ lw_tbl := (mt2 _ (List.mem_of_getElem? (i := 46) (by decide +kernel)))
theorem ls_2 : Cond.laysStatic "EmptyChairs" "LAW_LEAST" "[I" ∈ lw_tbl := (mt4 _ (List.mem_of_getElem? (i := 27) (by decide +kernel)))
theorem ls_3 : Cond.laysStatic "EmptyChairs" "LAW_MOST" "[I" ∈ lw_tbl := (mt4 _ (List.mem_of_getElem? (i := 29) (by decide +kernel)))
theorem ls_cs : Cond.laysStatic "java/lang/String" "COMPACT_STRINGS" "Z" ∈ lw_tbl := (mt1 _ (List.mem_of_getElem? (i := 68) (by decide +kernel)))
theorem ls_fm : Cond.laysStatic "jdk/internal/util/Preconditions" "SIOOBE_FORMATTER" "Ljava/util/function/BiFunction;" ∈ lw_tbl := (mt1 _ (List.mem_of_getElem? (i := 84) (by decide +kernel)))
theorem ls_sr : Cond.stringRef "EmptyChairs$Tape" 29 KWT ∈ lw_tbl := (mt1 _ (List.mem_of_getElem? (i := 58) (by decide +kernel)))
theorem ins_0 : Cond.instantiable RX0 16 ∈ lw_tbl := (mt1 _ (List.mem_of_getElem? (i := 163) (by decide +kernel)))
theorem ins_1 : Cond.instantiable RX1 6 ∈ lw_tbl := (mt2 _ (List.mem_of_getElem? (i := 230) (by decide +kernel)))
theorem ins_2 : Cond.instantiable RX2 10 ∈ lw_tbl := (mt1 _ (List.mem_of_getElem? (i := 219) (by decide +kernel)))
theorem ins_3 : Cond.instantiable RX3 6 ∈ lw_tbl := (mt3 _ (List.mem_of_getElem? (i := 40) (by decide +kernel)))
theorem ins_4 : Cond.instantiable RX4 9 ∈ lw_tbl := (mt2 _ (List.mem_of_getElem? (i := 142) (by decide +kernel)))
theorem ins_5 : Cond.instantiable RX5 8 ∈ lw_tbl := (mt1 _ (List.mem_of_getElem? (i := 171) (by decide +kernel)))
theorem ins_6 : Cond.instantiable RX6 5 ∈ lw_tbl := (mt3 _ (List.mem_of_getElem? (i := 15) (by decide +kernel)))
theorem ins_7 : Cond.instantiable RX7 6 ∈ lw_tbl := (mt2 _ (List.mem_of_getElem? (i := 183) (by decide +kernel)))
theorem ins_8 : Cond.instantiable RX8 4 ∈ lw_tbl := (mt2 _ (List.mem_of_getElem? (i := 209) (by decide +kernel)))
theorem ins_9 : Cond.instantiable RX9 14 ∈ lw_tbl := (mt1 _ (List.mem_of_getElem? (i := 53) (by decide +kernel)))
theorem ins_10 : Cond.instantiable RX10 3 ∈ lw_tbl := (mt1 _ (List.mem_of_getElem? (i := 32) (by decide +kernel)))
theorem ins_11 : Cond.instantiable RX11 18 ∈ lw_tbl := (mt1 _ (List.mem_of_getElem? (i := 23) (by decide +kernel)))
theorem ins_12 : Cond.instantiable RX12 42 ∈ lw_tbl := (mt6 _ (List.mem_of_getElem? (i := 185) (by decide +kernel)))
theorem ini_ec : Cond.initialized "EmptyChairs" ∈ lw_tbl := (mt1 _ (List.mem_of_getElem? (i := 1) (by decide +kernel)))
