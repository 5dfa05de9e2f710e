/-! ===== the class: SESSIONS taken: a STEP, whole (text laid by gencls77.py) ===== -/
def sX1 (y : Int → Int) (x : Ps) : Ps := (mAdv y (bu x.1 26 (x.1 26 + 1)), bu x.2.1 (1720 + 9 * x.1 26) (swI x.1), x.2.2)
theorem pS4_e {y : Int → Int} {x : Ps} : pS4 y x (swI x.1) = (mMust y (pRes y (sX1 y x) (1720 + 9 * x.1 26)).1 (sgI (pRes y (sX1 y x) (1720 + 9 * x.1 26)).1), (pRes y (sX1 y x) (1720 + 9 * x.1 26)).2) := rfl
def StpD (σ : Sg) (c : Int → Int) (s : Int) : Prop := σ 171 s = kk (c (1720 + 9 * s)) ∧ (0 ≤ c (1720 + 9 * s) ∧ c (1720 + 9 * s) ≤ 9) ∧ (c (1720 + 9 * s) = 0 ∨ c (1720 + 9 * s) = 8 → σ 175 s = c (1720 + 9 * s + 1)) ∧ ((1 ≤ c (1720 + 9 * s) ∧ c (1720 + 9 * s) ≤ 5) ∨ c (1720 + 9 * s) = 7 → σ 173 s = c (1720 + 9 * s + 1)) ∧ (c (1720 + 9 * s) = 7 → σ 172 s = 28 + c (1720 + 9 * s + 6) ∧ (0 ≤ c (1720 + 9 * s + 6) ∧ c (1720 + 9 * s + 6) ≤ 2) ∧ (c (1720 + 9 * s + 6) = 2 → σ 174 s = c (1720 + 9 * s + 7) ∧ σ 175 s = c (1720 + 9 * s + 2)))
def HTs (σ τ : Sg) (n : Int) (x : Ps) : Prop := (τ 171 = bu (σ 171) (x.1 26) (kk (swI x.1)) ∧ τ 176 = bu (σ 176) (x.1 26) ((x.1 26) + 1) ∧ τ 170 = bu (σ 170) 1 ((x.1 26) + 1)) ∧ (blk (swI x.1) = 0 → τ 177 = σ 177 ∧ τ 169 = σ 169) ∧ (blk (swI x.1) = 1 → τ 177 = bu (σ 177) n (x.1 26) ∧ τ 169 = bu (σ 169) 4 (n + 1)) ∧ ∀ q, q ≠ 169 → q ≠ 170 → q ≠ 171 → q ≠ 176 → q ≠ 177 → τ q = σ q
def FrS (σ σ' : Sg) : Prop := ∀ q, ¬ (169 ≤ q ∧ q ≤ 177) → q ≠ 17 → σ' q = σ q
def StO (y : Int → Int) (σ σ' : Sg) (r n : Int) (x : Ps) : Prop := (r = 0 ∧ 0 < (pS3 (pS2 (pS1 x.1)) (blk (swI x.1)) n) 12 ∧ TF σ' (pS3 (pS2 (pS1 x.1)) (blk (swI x.1)) n) ∧ FrS σ σ') ∨ ((pS3 (pS2 (pS1 x.1)) (blk (swI x.1)) n) = x.1 ∧ r = 0 ∧ TF σ' (pS4 y x (swI x.1)).1 ∧ FrS σ σ') ∨ ((pS3 (pS2 (pS1 x.1)) (blk (swI x.1)) n) = x.1 ∧ r = 1 ∧ (0 ≤ (swI x.1) ∧ (swI x.1) ≤ 9) ∧ (x.1 26) < 30 ∧ (blk (swI x.1) = 1 → n < 3) ∧ TC y σ' (pS4 y x (swI x.1)).1 ∧ (σ' 170 = bu (σ 170) 1 ((x.1 26) + 1) ∧ σ' 176 = bu (σ 176) (x.1 26) ((x.1 26) + 1)) ∧ (blk (swI x.1) = 0 → σ' 177 = σ 177 ∧ σ' 169 = σ 169) ∧ (blk (swI x.1) = 1 → σ' 177 = bu (σ 177) n (x.1 26) ∧ σ' 169 = bu (σ 169) 4 (n + 1)) ∧ StpD σ' (pS4 y x (swI x.1)).2.1 (x.1 26) ∧ SKd (pS4 y x (swI x.1)).2.1 x.2.1 (swI x.1) (x.1 26) ∧ (pS4 y x (swI x.1)).2.1 (1720 + 9 * x.1 26) = (swI x.1) ∧ (∀ q j, 171 ≤ q → q ≤ 175 → j ≠ (x.1 26) → σ' q j = σ q j) ∧ ∀ q, ¬ (169 ≤ q ∧ q ≤ 177) → q ≠ 17 → σ' q = σ q)
theorem StO.r0 {y : Int → Int} {σ τ σ1 σ2 : Sg} {r n : Int} {x : Ps} (g4 : (pS3 (pS2 (pS1 x.1)) (blk (swI x.1)) n) = x.1) (ht : HTs σ τ n x) (f1 : frTp τ σ1) (o : RsO y σ1 σ2 r (x.1 26) (swI x.1) (sX1 y x) (pRes y (sX1 y x) (1720 + 9 * x.1 26))) (z : r = 0) : StO y σ σ2 0 n x := Or.inr (Or.inl ⟨g4, rfl, by rw [pS4_e]; exact TF.gs (o.1.no z) Gs.must, fun q c d => by rw [o.2.2 q d (by omega) (by omega) (by omega), f1 q d, ht.2.2.2 q (by omega) (by omega) (by omega) (by omega) (by omega)]⟩)
theorem StO.r1 {y : Int → Int} {σ τ σ1 σ2 σ3 : Sg} {r r3 n : Int} {x : Ps} (g4 : (pS3 (pS2 (pS1 x.1)) (blk (swI x.1)) n) = x.1) (hk : 0 ≤ (swI x.1) ∧ (swI x.1) ≤ 9) (h26 : 0 ≤ (x.1 26) ∧ (x.1 26) < 30) (hb : blk (swI x.1) = 1 → n < 3) (ht : HTs σ τ n x) (f1 : frTp τ σ1) (o : RsO y σ1 σ2 r (x.1 26) (swI x.1) (sX1 y x) (pRes y (sX1 y x) (1720 + 9 * x.1 26))) (z : ¬ r = 0) (o3 : TO y σ3 r3 (mMust y (pRes y (sX1 y x) (1720 + 9 * x.1 26)).1 (sgI (pRes y (sX1 y x) (1720 + 9 * x.1 26)).1))) (f3 : frTp (up σ2 175 (x.1 26) (σ2 17 5)) σ3) : StO y σ σ3 r3 n x := by
  rcases o3 with ⟨a, b⟩ | ⟨a, b⟩
  · refine Or.inr (Or.inr ⟨g4, a, hk, h26.2, hb, ?_⟩)
    rw [pS4_e]
    obtain ⟨oo, t, f2⟩ := o
    obtain ⟨q1, q2, q3, q4, q5⟩ := t (oo.e z)
    obtain ⟨⟨t1, t2, t3⟩, u0, u1, te⟩ := ht
    have eV : (pRes y (sX1 y x) (1720 + 9 * x.1 26)).2.1 (1720 + 9 * x.1 26) = (swI x.1) := by rw [res_j (by omega)]; exact bu_e rfl
    have r3 : ∀ q, q ≠ 17 → q ≠ 172 → q ≠ 173 → q ≠ 174 → q ≠ 175 → σ3 q = τ q := fun q a b c d e => by rw [f3 q a, up_row e, f2 q a b c d, f1 q a]
    have e5 : σ3 175 = bu (σ 175) (x.1 26) (σ2 17 5) := by rw [f3 175 (by decide), up_rw, f2 175 (by decide) (by decide) (by decide) (by decide), f1 175 (by decide), te 175 (by decide) (by decide) (by decide) (by decide) (by decide)]
    have m3 : ∀ q, 172 ≤ q → q ≤ 174 → σ3 q = σ2 q := fun q a b => by rw [f3 q (by omega), up_row (by omega)]
    have w1 : ∀ q, 172 ≤ q → q ≤ 174 → σ1 q = σ q := fun q a b => by rw [f1 q (by omega), te q (by omega) (by omega) (by omega) (by omega) (by omega)]
    refine ⟨b, ⟨?_, ?_⟩, fun w => ?_, fun w => ?_, ?_, ?_, eV, fun q j c d e => ?_, fun q c d => ?_⟩
    · rw [r3 170 (by decide) (by decide) (by decide) (by decide) (by decide)]; exact t3
    · rw [r3 176 (by decide) (by decide) (by decide) (by decide) (by decide)]; exact t2
    · rw [r3 177 (by decide) (by decide) (by decide) (by decide) (by decide), r3 169 (by decide) (by decide) (by decide) (by decide) (by decide)]; exact u0 w
    · rw [r3 177 (by decide) (by decide) (by decide) (by decide) (by decide), r3 169 (by decide) (by decide) (by decide) (by decide) (by decide)]; exact u1 w
    · unfold StpD
      rw [eV, r3 171 (by decide) (by decide) (by decide) (by decide) (by decide), t1, bu_e rfl, e5, bu_e rfl, m3 172 (by decide) (by decide), m3 173 (by decide) (by decide), m3 174 (by decide) (by decide)]
      exact ⟨rfl, hk, q1, q2, q3⟩
    · have e1 : (sX1 y x).2.1 1 = x.2.1 1 := bu_n (by omega)
      have e2 : (sX1 y x).2.1 2 = x.2.1 2 := bu_n (by omega)
      unfold SKd at *; rw [e1, e2] at q4; exact q4
    · by_cases w : q = 171
      · subst w; rw [r3 171 (by decide) (by decide) (by decide) (by decide) (by decide), t1, bu_n e]
      · by_cases w5 : q = 175
        · subst w5; rw [e5, bu_n e]
        · rw [m3 q (by omega) (by omega), q5 q j (by omega) (by omega) e, w1 q (by omega) (by omega)]
    · rw [r3 q d (by omega) (by omega) (by omega) (by omega), te q (by omega) (by omega) (by omega) (by omega) (by omega)]
  · exact Or.inr (Or.inl ⟨g4, a, by rw [pS4_e]; exact b, fun q c d => by rw [f3 q d, up_row (by omega), o.2.2 q d (by omega) (by omega) (by omega), f1 q d, ht.2.2.2 q (by omega) (by omega) (by omega) (by omega) (by omega)]⟩)
theorem HTs.h3 {σ : Sg} {n : Int} {x : Ps} (e1 : σ 170 1 = x.1 26) (hs : 0 ≤ x.1 26 ∧ x.1 26 < 30) (ek : σ 17 3 = kk (swI x.1)) (b : blk (swI x.1) = 0) : HTs σ (up (up (up σ 171 (σ 170 1) (σ 17 3)) 176 (σ 170 1) (q32 ((σ 170 1) + 1))) 170 1 (q32 ((up (up σ 171 (σ 170 1) (σ 17 3)) 176 (σ 170 1) (q32 ((σ 170 1) + 1))) 170 1 + 1))) n x := by
  have q1 : q32 (x.1 26 + 1) = x.1 26 + 1 := q32_in (by omega) (by omega)
  have h1 : (up (up σ 171 (σ 170 1) (σ 17 3)) 176 (σ 170 1) (q32 ((σ 170 1) + 1))) 170 1 = x.1 26 := by rw [up_row (by decide), up_row (by decide), e1]
  rw [h1, e1, ek, q1]
  refine ⟨⟨?_, ?_, ?_⟩, fun _ => ⟨?_, ?_⟩, fun w => by omega, fun q a1 a2 a3 a4 a5 => ?_⟩
  · rw [up_row (by decide), up_row (by decide), up_rw]
  · rw [up_row (by decide), up_rw, up_row (by decide)]
  · rw [up_rw, up_row (by decide), up_row (by decide)]
  · rw [up_row (by decide), up_row (by decide), up_row (by decide)]
  · rw [up_row (by decide), up_row (by decide), up_row (by decide)]
  · rw [up_row a2, up_row a4, up_row a3]
theorem HTs.h5 {σ : Sg} {n : Int} {x : Ps} (e1 : σ 170 1 = x.1 26) (hs : 0 ≤ x.1 26 ∧ x.1 26 < 30) (ek : σ 17 3 = kk (swI x.1)) (b : blk (swI x.1) = 1) (hn : σ 169 4 = n) (n3 : 0 ≤ n ∧ n < 3) : HTs σ (up (up (up (up (up σ 171 (σ 170 1) (σ 17 3)) 176 (σ 170 1) (q32 ((σ 170 1) + 1))) 170 1 (q32 ((up (up σ 171 (σ 170 1) (σ 17 3)) 176 (σ 170 1) (q32 ((σ 170 1) + 1))) 170 1 + 1))) 177 ((up (up (up σ 171 (σ 170 1) (σ 17 3)) 176 (σ 170 1) (q32 ((σ 170 1) + 1))) 170 1 (q32 ((up (up σ 171 (σ 170 1) (σ 17 3)) 176 (σ 170 1) (q32 ((σ 170 1) + 1))) 170 1 + 1))) 169 4) (σ 170 1)) 169 4 (q32 ((up (up (up (up σ 171 (σ 170 1) (σ 17 3)) 176 (σ 170 1) (q32 ((σ 170 1) + 1))) 170 1 (q32 ((up (up σ 171 (σ 170 1) (σ 17 3)) 176 (σ 170 1) (q32 ((σ 170 1) + 1))) 170 1 + 1))) 177 ((up (up (up σ 171 (σ 170 1) (σ 17 3)) 176 (σ 170 1) (q32 ((σ 170 1) + 1))) 170 1 (q32 ((up (up σ 171 (σ 170 1) (σ 17 3)) 176 (σ 170 1) (q32 ((σ 170 1) + 1))) 170 1 + 1))) 169 4) (σ 170 1)) 169 4 + 1))) n x := by
  have q1 : q32 (x.1 26 + 1) = x.1 26 + 1 := q32_in (by omega) (by omega)
  have q2 : q32 (n + 1) = n + 1 := q32_in (by omega) (by omega)
  have h1 : (up (up σ 171 (σ 170 1) (σ 17 3)) 176 (σ 170 1) (q32 ((σ 170 1) + 1))) 170 1 = x.1 26 := by rw [up_row (by decide), up_row (by decide), e1]
  have h3 : (up (up (up σ 171 (σ 170 1) (σ 17 3)) 176 (σ 170 1) (q32 ((σ 170 1) + 1))) 170 1 (q32 ((up (up σ 171 (σ 170 1) (σ 17 3)) 176 (σ 170 1) (q32 ((σ 170 1) + 1))) 170 1 + 1))) 169 4 = n := by rw [up_row (by decide), up_row (by decide), up_row (by decide), hn]
  have h4 : (up (up (up (up σ 171 (σ 170 1) (σ 17 3)) 176 (σ 170 1) (q32 ((σ 170 1) + 1))) 170 1 (q32 ((up (up σ 171 (σ 170 1) (σ 17 3)) 176 (σ 170 1) (q32 ((σ 170 1) + 1))) 170 1 + 1))) 177 ((up (up (up σ 171 (σ 170 1) (σ 17 3)) 176 (σ 170 1) (q32 ((σ 170 1) + 1))) 170 1 (q32 ((up (up σ 171 (σ 170 1) (σ 17 3)) 176 (σ 170 1) (q32 ((σ 170 1) + 1))) 170 1 + 1))) 169 4) (σ 170 1)) 169 4 = n := by rw [up_row (by decide)]; exact h3
  rw [h4, h3, h1, e1, ek, q1, q2]
  refine ⟨⟨?_, ?_, ?_⟩, fun w => by omega, fun _ => ⟨?_, ?_⟩, fun q a1 a2 a3 a4 a5 => ?_⟩
  · rw [up_row (by decide), up_row (by decide), up_row (by decide), up_row (by decide), up_rw]
  · rw [up_row (by decide), up_row (by decide), up_row (by decide), up_rw, up_row (by decide)]
  · rw [up_row (by decide), up_row (by decide), up_rw, up_row (by decide), up_row (by decide)]
  · rw [up_row (by decide), up_rw, up_row (by decide), up_row (by decide), up_row (by decide)]
  · rw [up_rw, up_row (by decide), up_row (by decide), up_row (by decide), up_row (by decide)]
  · rw [up_row a1, up_row a5, up_row a2, up_row a4, up_row a3]
