/-! ===== the class: SESSIONS taken: each pass reads on (text laid by gencls83.py) ===== -/
theorem s4_16 {y : Int → Int} {x : Ps} (hI : SI0 x) (h26 : x.1 26 < 30) (h12 : (pS4 y x (swI x.1)).1 12 = 0) (h14 : ¬ (pS4 y x (swI x.1)).1 14 = 0) : x.1 16 < (pS4 y x (swI x.1)).1 16 := by
  have h0 := hI.2.2.1.1
  have g1 : SG0 x (sX1 y x) := SG0.s4a (y := y) hI (k := swI x.1) h26
  have g2 := SG0.res (y := y) g1.1 (v := 1720 + 9 * x.1 26) (by omega)
  have a := g1.2.1.2
  have b := g2.2.1.2
  rw [pS4_e] at h12 h14 ⊢
  have c := must_16 (y := y) g2.1.1 h12 h14 g2.1.2.1
  dsimp only at c ⊢; omega
theorem en_16 {y g : Int → Int} (h : GI g) (h0 : 0 ≤ g 12) (h12 : mMust y (mAdv y g) (sgI (mAdv y g)) 12 = 0) (h14 : ¬ mMust y (mAdv y g) (sgI (mAdv y g)) 14 = 0) : g 16 < mMust y (mAdv y g) (sgI (mAdv y g)) 16 := by
  have a := (mAdv_16 (y := y) h).1
  have c := must_16 (y := y) (mAdv_gi h) h12 h14 (mAdv_p h0)
  omega
