/-! ===== the class: SESSIONS taken: a STEP laid, a block begun, a block ended (text laid by gencls81.py) ===== -/
theorem SC.s0 {y : Int → Int} {σ σ' : Sg} {x : Ps} {n : Int} (h : SC y σ x n) (h26 : x.1 26 < 30) (cqz7 : σ' 177 = σ 177) (cqz9 : σ' 169 = σ 169) (t : TC y σ' (pS4 y x (swI x.1)).1) (b1 : σ' 170 = bu (σ 170) 1 (x.1 26 + 1)) (b2 : σ' 176 = bu (σ 176) (x.1 26) (x.1 26 + 1)) (a1 : StpD σ' (pS4 y x (swI x.1)).2.1 (x.1 26)) (a2 : SKd (pS4 y x (swI x.1)).2.1 x.2.1 (swI x.1) (x.1 26)) (a3 : (pS4 y x (swI x.1)).2.1 (1720 + 9 * x.1 26) = swI x.1) (a4 : ∀ q j, 171 ≤ q → q ≤ 175 → j ≠ x.1 26 → σ' q j = σ q j) (a5 : ∀ q, ¬ (169 ≤ q ∧ q ≤ 177) → q ≠ 17 → σ' q = σ q) : SC y σ' ((pS4 y x (swI x.1)).1, bu (pS4 y x (swI x.1)).2.1 (1720 + 9 * x.1 26 + 8) ((pS4 y x (swI x.1)).1 26), (pS4 y x (swI x.1)).2.2) n := by
  have st := h.st h26 a1 a2 a3 a4
  obtain ⟨_, hI, hH, ⟨k1, k2, k3⟩, _, hx, ho⟩ := h
  have h0 := hI.2.2.1.1
  have i4 := (SG0.s4 (y := y) hI (k := swI x.1) h26).1
  have e26 := s4_26 (y := y) (x := x)
  have ew : (pS4 y x (swI x.1)).2.2 = x.2.2 := i4.2.2.2.2.1
  refine ⟨t, (SG0.put i4.1 (by omega)).1, ?_, ⟨?_, ?_, k3⟩, fun s x1 x2 => ?_, fun s x1 x2 x3 => ?_, fun i x1 x2 => ?_⟩
  · dsimp only; rw [ew]; exact hH.cg (fun q p1 p2 => a5 q (by omega) (by omega)) (fun j p1 p2 => by rw [bu_n (by omega)]; exact s4_j (by omega))
  · dsimp only; rw [b1, bu_e rfl, e26]
  · rw [cqz9]; exact k2
  · dsimp only at *; rw [e26] at x2
    obtain ⟨q1, q2⟩ := st s x1 x2
    have ec : ∀ j, 1720 + 9 * s ≤ j → j ≤ 1720 + 9 * s + 7 → bu (pS4 y x (swI x.1)).2.1 (1720 + 9 * x.1 26 + 8) ((pS4 y x (swI x.1)).1 26) j = (pS4 y x (swI x.1)).2.1 j := fun j p1 p2 => bu_n (by omega)
    exact ⟨q1.cg (fun _ _ _ => rfl) ec, by rw [ec _ (by omega) (by omega)]; exact q2.cg ec (bu_n (by omega)) (bu_n (by omega))⟩
  · dsimp only at *; rw [e26] at x2
    rw [cqz7] at x3
    by_cases e : s = x.1 26
    · subst e; rw [b2, bu_e rfl, bu_e rfl, e26]
    · rw [b2, bu_n e, bu_n (by omega), s4_j (by omega)]; exact hx s x1 (by omega) x3
  · dsimp only; rw [cqz7, e26]; have := ho i x1 x2; omega
theorem SC.s1 {y : Int → Int} {σ σ' : Sg} {x : Ps} {n : Int} (h : SC y σ x n) (h26 : x.1 26 < 30) (n3 : n < 3) (cqz7 : σ' 177 = bu (σ 177) n (x.1 26)) (cqz9 : σ' 169 = bu (σ 169) 4 (n + 1)) (t : TC y σ' (pS4 y x (swI x.1)).1) (b1 : σ' 170 = bu (σ 170) 1 (x.1 26 + 1)) (b2 : σ' 176 = bu (σ 176) (x.1 26) (x.1 26 + 1)) (a1 : StpD σ' (pS4 y x (swI x.1)).2.1 (x.1 26)) (a2 : SKd (pS4 y x (swI x.1)).2.1 x.2.1 (swI x.1) (x.1 26)) (a3 : (pS4 y x (swI x.1)).2.1 (1720 + 9 * x.1 26) = swI x.1) (a4 : ∀ q j, 171 ≤ q → q ≤ 175 → j ≠ x.1 26 → σ' q j = σ q j) (a5 : ∀ q, ¬ (169 ≤ q ∧ q ≤ 177) → q ≠ 17 → σ' q = σ q) : SC y σ' (pS4 y x (swI x.1)) (n + 1) := by
  have st := h.st h26 a1 a2 a3 a4
  obtain ⟨_, hI, hH, ⟨k1, k2, k3⟩, _, hx, ho⟩ := h
  have h0 := hI.2.2.1.1
  have i4 := (SG0.s4 (y := y) hI (k := swI x.1) h26).1
  have e26 := s4_26 (y := y) (x := x)
  have ew : (pS4 y x (swI x.1)).2.2 = x.2.2 := i4.2.2.2.2.1
  refine ⟨t, i4.1, ?_, ⟨?_, ?_, by omega⟩, fun s x1 x2 => ?_, fun s x1 x2 x3 => ?_, fun i x1 x2 => ?_⟩
  · rw [ew]; exact hH.cg (fun q p1 p2 => a5 q (by omega) (by omega)) (fun j p1 p2 => s4_j (by omega))
  · rw [b1, bu_e rfl, e26]
  · rw [cqz9, bu_e rfl]
  · rw [e26] at x2; exact st s x1 x2
  · rw [e26] at x2
    rw [cqz7] at x3
    by_cases e : s = x.1 26
    · exact absurd (show bu (σ 177) n (x.1 26) n = s by rw [bu_e rfl, e]) (x3 n k3.1 (by omega))
    · rw [b2, bu_n e, s4_j (by omega)]
      exact hx s x1 (by omega) (fun i p1 p2 => by have z := x3 i p1 (by omega); rw [bu_n (by omega)] at z; exact z)
  · rw [cqz7, e26]
    by_cases e : i = n
    · subst e; rw [bu_e rfl]; omega
    · rw [bu_n e]; have := ho i x1 (by omega); omega
theorem SC.en {y : Int → Int} {σ σ' : Sg} {x : Ps} {n r : Int} (h : SC y σ x (n + 1)) (n0 : 0 ≤ n ∧ n < 3) (hv : ∀ i, 0 ≤ i → i < n → σ 177 i ≠ σ 177 n) (o : EnO y σ σ' r n (σ 177 n) x.1) (z : ¬ r = 0) (k : x.1 14 = 1 ∧ x.1 19 = 5572) : SC y σ' ((pEn y x).1, bu (pEn y x).2.1 (1720 + 9 * σ 177 n + 8) ((pEn y x).1 26), (pEn y x).2.2) n := by
  obtain ⟨hT, hI, hH, ⟨k1, k2, k3⟩, st, hx, ho⟩ := h
  have hn := ho n n0.1 (by omega)
  have e := en_2 (y := y) hT.2.2.1 k
  have i4 := SG0.en (y := y) hI
  have e26 : (pEn y x).1 26 = x.1 26 := by rw [e]; dsimp only; rw [must_25 (by omega), mAdv_f (by omega)]
  have e2 : (pEn y x).2 = x.2 := by rw [e]
  obtain ⟨o1, o2, o3, o4⟩ := o
  refine ⟨?_, (SG0.put i4.1 (by omega)).1, ?_, ⟨?_, ?_, by omega⟩, fun s x1 x2 => ?_, fun s x1 x2 x3 => ?_, fun i x1 x2 => ?_⟩
  · dsimp only; rw [e]; exact o1.ok z
  · dsimp only; rw [e2]; exact hH.cg (fun q p1 p2 => o4 q (by omega) (by omega) (by omega)) (fun j p1 p2 => bu_n (by omega))
  · dsimp only; rw [o4 170 (by decide) (by decide) (by decide), e26]; exact k1
  · rw [o2, bu_e rfl]
  · dsimp only at *; rw [e26] at x2; rw [e2]
    obtain ⟨q1, q2⟩ := st s x1 x2
    have ec : ∀ j, 1720 + 9 * s ≤ j → j ≤ 1720 + 9 * s + 7 → bu x.2.1 (1720 + 9 * σ 177 n + 8) ((pEn y x).1 26) j = x.2.1 j := fun j p1 p2 => bu_n (by omega)
    exact ⟨q1.cg (fun q p1 p2 => by rw [o4 q (by omega) (by omega) (by omega)]) ec, by rw [ec _ (by omega) (by omega)]; exact q2.cg ec (bu_n (by omega)) (bu_n (by omega))⟩
  · dsimp only at *; rw [e26] at x2; rw [e2, e26]
    rw [o4 177 (by decide) (by decide) (by decide)] at x3
    by_cases w : s = σ 177 n
    · rw [o3, w, bu_e rfl, bu_e rfl]; exact k1
    · rw [o3, bu_n w, bu_n (by omega)]
      exact hx s x1 x2 (fun i p1 p2 => by
        by_cases w2 : i = n
        · subst w2; exact fun q => w q.symm
        · exact x3 i p1 (by omega))
  · dsimp only; rw [o4 177 (by decide) (by decide) (by decide), e26]; exact ho i x1 (by omega)
