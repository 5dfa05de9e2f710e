/-! ===== what assembly and sessions leave in the row of numbers (text laid by gencls84.py) ===== -/
theorem asm_j {y g c v : Int → Int} {n j : Int} (h : 0 ≤ n ∧ n ≤ 900) (hj : j < 12) : (pAs y 1000 (pAs0 y g c v n)).1 j = bu (bu (bu (bu g 1 0) 0 0) 9 n) 8 0 j := by
  rw [(PG.as 1000 _ (pAs0_i h)).2.1.1 j (Or.inl hj)]
  show bu (gSt y (gZ g) n) 25 0 j = _
  rw [bu_n (by omega)]; unfold gSt gZ; rw [mAdv_f (by omega), bu_n (by omega), bu_n (by omega)]
theorem asm_c {y g c v : Int → Int} {n j : Int} (h : 0 ≤ n ∧ n ≤ 900) (hj : j < 1592) : (pAs y 1000 (pAs0 y g c v n)).2.1 j = c j := by
  rw [(PG.as 1000 _ (pAs0_i h)).2.2.2.1 j hj]
  show eBm 1592 10 c j = _
  unfold eBm; rw [if_neg (by omega)]
theorem asm_w {y g c v : Int → Int} {n j : Int} (h : 0 ≤ n ∧ n ≤ 900) (hj : j < 160) : (pAs y 1000 (pAs0 y g c v n)).2.2 j = v j := by
  rw [(PG.as 1000 _ (pAs0_i h)).2.2.2.2 j hj]; rfl
