/-! ===== the class: SESSIONS taken: what holds between STEPS (text laid by gencls80.py) ===== -/
theorem tes_26 {y : Int → Int} {x : Ps} {v j : Int} (hj : j < 12 ∨ 19 < j) : (pTes y x v).1 j = x.1 j := by
  unfold pTes pTe3
  have e : (pTe2 y (pTe1 y x v) v (twI x.1)).1 j = x.1 j := by
    unfold pTe2 pTe1; dsimp only; rw [rt_25 hj, must_25 hj]
  split
  · exact e
  · dsimp only; rw [cou_25 hj, must_25 hj]; exact e
theorem res_26 {y : Int → Int} {x : Ps} {v j : Int} (hj : j < 12 ∨ 19 < j) : (pRes y x v).1 j = x.1 j := by
  unfold pRes
  split
  · exact cou_25 hj
  · split
    · exact cou_25 hj
    · split
      · exact tes_26 hj
      · split
        · exact rt_25 hj
        · rfl
theorem s4_26 {y : Int → Int} {x : Ps} : (pS4 y x (swI x.1)).1 26 = x.1 26 + 1 := by
  rw [pS4_e]; dsimp only; rw [must_25 (by omega), res_26 (by omega)]; unfold sX1; dsimp only; rw [mAdv_f (by omega), bu_e rfl]
theorem s4_j {y : Int → Int} {x : Ps} {j : Int} (h : ¬ (1720 + 9 * x.1 26 ≤ j ∧ j ≤ 1720 + 9 * x.1 26 + 7)) : (pS4 y x (swI x.1)).2.1 j = x.2.1 j := by
  rw [pS4_e]; dsimp only; rw [res_j (by omega)]; unfold sX1; dsimp only; rw [bu_n (by omega)]
theorem StpD.cg {σ σ' : Sg} {c c' : Int → Int} {s : Int} (h : StpD σ c s) (e : ∀ q, 171 ≤ q → q ≤ 175 → σ' q s = σ q s) (ec : ∀ j, 1720 + 9 * s ≤ j → j ≤ 1720 + 9 * s + 7 → c' j = c j) : StpD σ' c' s := by
  unfold StpD at *
  rw [e 171 (by decide) (by decide), e 172 (by decide) (by decide), e 173 (by decide) (by decide), e 174 (by decide) (by decide), e 175 (by decide) (by decide), ec (1720 + 9 * s) (by omega) (by omega), ec (1720 + 9 * s + 1) (by omega) (by omega), ec (1720 + 9 * s + 2) (by omega) (by omega), ec (1720 + 9 * s + 6) (by omega) (by omega), ec (1720 + 9 * s + 7) (by omega) (by omega)]; exact h
theorem SKd.cg {c c' d d' : Int → Int} {k s : Int} (h : SKd c d k s) (ec : ∀ j, 1720 + 9 * s ≤ j → j ≤ 1720 + 9 * s + 7 → c' j = c j) (e1 : d' 1 = d 1) (e2 : d' 2 = d 2) : SKd c' d' k s := by
  unfold SKd at *
  rw [ec (1720 + 9 * s + 1) (by omega) (by omega), ec (1720 + 9 * s + 6) (by omega) (by omega), e1, e2]; exact h
def SC (y : Int → Int) (σ : Sg) (x : Ps) (n : Int) : Prop := TC y σ x.1 ∧ SI0 x ∧ HN σ x.2.1 x.2.2 ∧ (σ 170 1 = x.1 26 ∧ σ 169 4 = n ∧ 0 ≤ n ∧ n ≤ 3) ∧ (∀ s, 0 ≤ s → s < x.1 26 → StpD σ x.2.1 s ∧ SKd x.2.1 x.2.1 (x.2.1 (1720 + 9 * s)) s) ∧ (∀ s, 0 ≤ s → s < x.1 26 → (∀ i, 0 ≤ i → i < n → σ 177 i ≠ s) → σ 176 s = x.2.1 (1720 + 9 * s + 8)) ∧ (∀ i, 0 ≤ i → i < n → 0 ≤ σ 177 i ∧ σ 177 i < x.1 26)
theorem SC.st {y : Int → Int} {σ σ' : Sg} {x : Ps} {n : Int} (h : SC y σ x n) (h26 : x.1 26 < 30) (a1 : StpD σ' (pS4 y x (swI x.1)).2.1 (x.1 26)) (a2 : SKd (pS4 y x (swI x.1)).2.1 x.2.1 (swI x.1) (x.1 26)) (a3 : (pS4 y x (swI x.1)).2.1 (1720 + 9 * x.1 26) = swI x.1) (a4 : ∀ q j, 171 ≤ q → q ≤ 175 → j ≠ x.1 26 → σ' q j = σ q j) : ∀ s, 0 ≤ s → s < x.1 26 + 1 → StpD σ' (pS4 y x (swI x.1)).2.1 s ∧ SKd (pS4 y x (swI x.1)).2.1 (pS4 y x (swI x.1)).2.1 ((pS4 y x (swI x.1)).2.1 (1720 + 9 * s)) s := by
  intro s x1 x2
  have cqz1 : (pS4 y x (swI x.1)).2.1 1 = x.2.1 1 := s4_j (by omega)
  have cqz2 : (pS4 y x (swI x.1)).2.1 2 = x.2.1 2 := s4_j (by omega)
  by_cases e : s = x.1 26
  · subst e; exact ⟨a1, by rw [a3]; exact a2.cg (fun _ _ _ => rfl) cqz1 cqz2⟩
  · obtain ⟨b1, b2⟩ := h.2.2.2.2.1 s x1 (by omega)
    have ec : ∀ j, 1720 + 9 * s ≤ j → j ≤ 1720 + 9 * s + 7 → (pS4 y x (swI x.1)).2.1 j = x.2.1 j := fun j q1 q2 => s4_j (by omega)
    exact ⟨b1.cg (fun q p1 p2 => a4 q s p1 p2 e) ec, by rw [ec _ (by omega) (by omega)]; exact b2.cg ec cqz1 cqz2⟩
