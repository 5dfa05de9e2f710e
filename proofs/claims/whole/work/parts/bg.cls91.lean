/-! ===== assembly, sessions: what they do to what holds (text laid by gencls91.py) ===== -/
theorem k8_inc {x : Ps} {i : Int} (hi : i < 1600) : (pInc x i).2.1 1600 = x.2.1 1600 := by
  unfold pInc; split
  · exact bu_n (by omega)
  · rfl
theorem k8_once {y : Int → Int} {x : Ps} {b lo hi : Int} (hb : b ≤ 3) : (pOnce y x b lo hi).2.1 1600 = x.2.1 1600 := by
  unfold pOnce pOn2
  generalize (if hasb (x.1 25) b = 1 then mFail x.1 5 (x.1 15) else x.1) = g
  split
  · rfl
  · exact bu_n (by omega)
theorem me2_8 {y : Int → Int} {x : Ps} {k : Int} (hk : 1592 ≤ k) : (pMe2 y x k).2.1 1600 = x.2.1 1600 := bu_n (by omega)
theorem bhd_8 {y : Int → Int} {x : Ps} {v i lo hi : Int} (hk : 1600 < i) : (pBhd y x v i lo hi).2.1 1600 = x.2.1 1600 := bu_n (by omega)
theorem trt_8 {y : Int → Int} {x : Ps} {v i lo hi : Int} (hk : 1600 < i) : (pTrt y x v i lo hi).2.1 1600 = x.2.1 1600 := by unfold pTrt; split; exact Eq.refl _; exact bu_n (by omega)
theorem flg_8 {y : Int → Int} {x : Ps} {v i : Int} (hk : 1600 < i) : (pFlg y x v i).2.1 1600 = x.2.1 1600 := by unfold pFlg; split; exact Eq.refl _; exact bu_n (by omega)
theorem k8_mem {y : Int → Int} {x : Ps} (h : PI y x) : (pMem y x).2.1 1600 = x.2.1 1600 := by
  have hcc := h.2.1; unfold CI at hcc
  have hk := mNew_k (y := y) (g := x.1) (c := x.2.1) (x := x.2.2) (s := 1) (n := 10) (by simp only [Int.reduceAdd]; omega) (by simp only [Int.reduceAdd]; omega) (by decide)
  unfold pMem
  generalize hR : (mNew y x.1 x.2.1 x.2.2 1 10).1 = R at hk ⊢
  rw [k8_inc (by decide), flg_8 (by omega), flg_8 (by omega), trt_8 (by omega), trt_8 (by omega), trt_8 (by omega), bhd_8 (by omega), me2_8 (by omega)]; rfl
theorem k8_twi {y : Int → Int} {x : Ps} (h : PI y x) : (pTwi y x).2.1 1600 = x.2.1 1600 := by
  have k1 : PI y (pTw1 y x).2 := h.tw1
  have r1 : 0 ≤ (pTw1 y x).1 := (tw_r h _).1
  have r2 : 0 ≤ (pTw2 y (pTw1 y x).2 (pTw1 y x).1).1 := (tw_r k1 _).1
  unfold pTwi pTw3
  split
  · rfl
  · show bu (bu _ _ _) _ _ 1600 = _
    rw [bu_n (by omega), bu_n (by omega)]; rfl
theorem k8_mot {y : Int → Int} {x : Ps} (h : PI y x) : (pMot y x).2.1 1600 = x.2.1 1600 := by
  have hcc := h.2.1; unfold CI at hcc
  have hk := mNew_k (y := y) (g := x.1) (c := x.2.1) (x := x.2.2) (s := 2) (n := 5) (by simp only [Int.reduceAdd]; omega) (by simp only [Int.reduceAdd]; omega) (by decide)
  have e4 : (pPs y (pPs y 0 1000 0 (pMo1 y x)).1 1000 0 (pMo2 y (pPs y 0 1000 0 (pMo1 y x)).2)).2.2.1 = x.2.1 := by rw [pPs_c]; show (pPs y 0 1000 0 (pMo1 y x)).2.2.1 = _; rw [pPs_c]; rfl
  unfold pMot pMo3
  split
  · rw [e4]
  · dsimp only
    rw [bu_n (by omega), bu_n (by omega), bu_n (by omega), e4]
theorem k8_roo {y : Int → Int} {x : Ps} (h : PI y x) : (pRoo y x).2.1 1600 = x.2.1 1600 := by
  have hcc := h.2.1; unfold CI at hcc
  have hk := mNew_k (y := y) (g := x.1) (c := x.2.1) (x := x.2.2) (s := 3) (n := 6) (by simp only [Int.reduceAdd]; omega) (by simp only [Int.reduceAdd]; omega) (by decide)
  unfold pRoo
  generalize hR : (mNew y x.1 x.2.1 x.2.2 3 6).1 = R at hk ⊢
  rw [k8_inc (by decide), bhd_8 (by omega), bhd_8 (by omega)]; rfl
theorem k8_part {y : Int → Int} {x : Ps} (h : PI y x) : (pPart y x).2.1 1600 = x.2.1 1600 := by
  unfold pPart
  repeat' split
  all_goals first | exact k8_once (by decide) | exact (by rw [pPty_inc, k8_inc (by decide)]) | exact k8_mem h | exact k8_twi h | exact k8_mot h | exact k8_roo h | rfl
theorem k8_as {y : Int → Int} : ∀ (k : Nat) (x : Ps), PI y x → (pAs y k x).2.1 1600 = x.2.1 1600 := by
  intro k
  induction k with
  | zero => intro x _; rfl
  | succ k ih =>
    intro x h
    by_cases c : x.1 12 = 0 ∧ ¬ x.1 14 = 0
    · rw [pAs_s c, ih _ (PG.asb h).1]; exact k8_part h
    · rw [pAs_o c]
theorem asm_8 {y g c v : Int → Int} {n : Int} (h : 0 ≤ n ∧ n ≤ 900) : bk (pAs y 1000 (pAs0 y g c v n)).2.1 8 = 0 := by
  show (pAs y 1000 (pAs0 y g c v n)).2.1 1600 = 0
  rw [k8_as 1000 _ (pAs0_i h)]
  show eBm 1592 10 c 1600 = 0
  unfold eBm; rw [if_pos (by decide)]; decide
theorem asm_h {y g c v : Int → Int} {n j : Int} (h : 0 ≤ n ∧ n ≤ 900) (hj : 26 < j ∨ j = 24) : (pAs y 1000 (pAs0 y g c v n)).1 j = g j := by
  rw [(PG.as 1000 _ (pAs0_i h)).2.1.1 j (Or.inr (by omega))]
  show bu (gSt y (gZ g) n) 25 0 j = _
  rw [bu_n (by omega)]; unfold gSt gZ
  rw [mAdv_f (by omega), bu_n (by omega), bu_n (by omega), bu_n (by omega), bu_n (by omega), bu_n (by omega), bu_n (by omega)]
theorem ses_g {y g c v : Int → Int} {n : Int} (h : 0 ≤ n ∧ n ≤ 900) (hc : ∀ s, 0 ≤ s → s ≤ 3 → 0 ≤ c s ∧ c s ≤ 10) : (∀ j, j < 12 → (pSe y 40 (pSe0 y g c v n)).1 j = bu (bu (bu (bu g 1 0) 0 0) 9 n) 8 0 j) ∧ (∀ j, (26 < j ∨ j = 24) → (pSe y 40 (pSe0 y g c v n)).1 j = g j) ∧ (∀ j, j < 1720 → (pSe y 40 (pSe0 y g c v n)).2.1 j = c j) ∧ (pSe y 40 (pSe0 y g c v n)).2.2 = v := by
  have s := SG0.se (y := y) 40 _ (pSe0_i (y := y) (g := g) (x := v) h hc)
  refine ⟨fun j p => ?_, fun j p => ?_, s.2.2.2.1, s.2.2.2.2.1⟩
  · rw [s.2.1.1 j (Or.inl p)]
    show bu (gSt y (gZ g) n) 26 0 j = _
    rw [bu_n (by omega)]; unfold gSt gZ; rw [mAdv_f (by omega), bu_n (by omega), bu_n (by omega)]
  · rw [s.2.1.1 j (Or.inr (by omega))]
    show bu (gSt y (gZ g) n) 26 0 j = _
    rw [bu_n (by omega)]; unfold gSt gZ
    rw [mAdv_f (by omega), bu_n (by omega), bu_n (by omega), bu_n (by omega), bu_n (by omega), bu_n (by omega), bu_n (by omega)]
theorem gWl_j {g : Int → Int} {j : Int} (h0 : j ≠ 0) (h1 : j ≠ 10) (h2 : j ≠ 11) : gWl g j = g j := by
  unfold gWl; split
  · rw [bu_n h2, bu_n h1]
  · rw [bu_n h0, bu_n h2, bu_n h1]
theorem gWl_y {g : Int → Int} (h : g 12 = 0) (g0 : g 0 = 0) : gWl g 0 = 0 ∧ gWl g 10 = 0 ∧ gWl g 11 = -1 := by
  unfold gWl; rw [if_pos h]
  refine ⟨?_, ?_, ?_⟩
  · rw [bu_n (by decide), bu_n (by decide)]; exact g0
  · rw [bu_n (by decide), bu_e rfl]; exact h
  · rw [bu_e rfl]
theorem gWl_n {g : Int → Int} (h : 0 < g 12) : gWl g 0 = 10 ∧ gWl g 10 = g 12 ∧ gWl g 11 = g 13 := by
  unfold gWl; rw [if_neg (by omega)]
  refine ⟨?_, ?_, ?_⟩
  · rw [bu_e rfl]
  · rw [bu_n (by decide), bu_n (by decide), bu_e rfl]
  · rw [bu_n (by decide), bu_e rfl]
theorem sp_182 {σ : Sg} {x : Ps} : stP σ x 182 = x.1 ∧ stP σ x 187 = x.2.1 ∧ stP σ x 190 = x.2.2 := by
  unfold stP
  exact ⟨by rw [sr_n (by decide), sr_n (by decide), sr_e rfl], by rw [sr_n (by decide), sr_e rfl], by rw [sr_e rfl]⟩
theorem sp_o {σ : Sg} {x : Ps} {a : Int} (h1 : a ≠ 182) (h2 : a ≠ 187) (h3 : a ≠ 190) : stP σ x a = σ a := by
  unfold stP; rw [sr_n h3, sr_n h2, sr_n h1]
/-- what is left when the reading is refused -/
theorem IV.rj {σ σ1 : Sg} {v : Int} (h : IV σ) (e1 : σ1 = up σ 7 0 v) : IV (stP σ1 (bu (gZ (σ1 182)) 0 v, σ1 187, σ1 190)) := by
  subst e1
  have e2 := sp_182 (σ := up σ 7 0 v) (x := (bu (gZ (up σ 7 0 v 182)) 0 v, up σ 7 0 v 187, up σ 7 0 v 190))
  have e3 := @sp_o (up σ 7 0 v) (bu (gZ (up σ 7 0 v 182)) 0 v, up σ 7 0 v 187, up σ 7 0 v 190)
  generalize stP (up σ 7 0 v) (bu (gZ (up σ 7 0 v 182)) 0 v, up σ 7 0 v 187, up σ 7 0 v 190) = τ at e2 e3 ⊢
  have g : ∀ a j : Int, Cel a j → τ a j = σ a j := fun a j c => by
    unfold Cel at c
    by_cases cqz2 : a = 182
    · subst cqz2; rw [e2.1]; dsimp only; unfold gZ; rw [bu_n (by omega), bu_n (by omega), bu_n (by omega), up_row (by decide)]
    · by_cases cqz7 : a = 187
      · subst cqz7; rw [e2.2.1]; dsimp only; rw [up_row (by decide)]
      · by_cases cqz9 : a = 190
        · subst cqz9; rw [e2.2.2]; dsimp only; rw [up_row (by decide)]
        · rw [e3 cqz2 cqz7 cqz9]
          by_cases c0 : a = 7
          · subst c0; exact up_nj (by omega)
          · rw [up_row c0]
  refine ⟨?_, IVr.cg h.2 g⟩
  unfold IVS
  rw [e3 (by decide) (by decide) (by decide), e2.1, up_eq]
  show v = bu (gZ (up σ 7 0 v 182)) 0 v 0
  exact (bu_e rfl).symm
theorem Asm.fr2 {σ σ' : Sg} {A : Int} {b : Int → Int} (h : Asm σ A b) (e : ∀ a, A ≤ a → a ≤ A + 27 → ¬ (A + 11 ≤ a ∧ a ≤ A + 17) → σ' a = σ a) (h1 : 0 ≤ b 1 ∧ b 1 ≤ 10) : Asm σ' A b := by
  obtain ⟨a1, a2, a3, a4, a5, a6⟩ := h
  refine ⟨?_, ?_, ?_, fun m x y => ?_, fun k x y => ?_, fun r x y => ?_⟩
  · rw [e A (by omega) (by omega) (by omega)]; exact a1
  · rw [e (A + 1) (by omega) (by omega) (by omega)]; exact a2
  · rw [e (A + 2) (by omega) (by omega) (by omega)]; exact a3
  · rw [e (A + 18 + m) (by omega) (by omega) (by omega)]; exact a4 m x y
  · rw [e (A + 6) (by omega) (by omega) (by omega), e (A + 7) (by omega) (by omega) (by omega)]; exact a5 k x y
  · rw [e (A + 9) (by omega) (by omega) (by omega), e (A + 10) (by omega) (by omega) (by omega)]; exact a6 r x y
/-- what is left when a text was read: all but the hall and its sessions -/
theorem IV.rd {σ σ1 : Sg} {x : Ps} (h : IV σ) (s0 : σ1 7 0 = x.1 0) (t0 : σ1 17 0 = 0 ∧ x.1 8 = 0) (fa : σ1 17 1 = x.1 10 ∧ σ1 17 2 = x.1 11) (g2 : x.1 2 = σ 182 2 ∧ x.1 3 = σ 182 3 ∧ x.1 24 = σ 182 24 ∧ x.1 33 = σ 182 33) (cqz7 : ∀ j, 398 ≤ j → j < 1592 → x.2.1 j = σ 187 j) (cqz9 : ∀ j, 40 ≤ j → j < 160 → x.2.2 j = σ 190 j) (f7 : ∀ j, j ≠ 0 → σ1 7 j = σ 7 j) (f : ∀ a, a ≠ 7 → a ≠ 17 → a < 20 ∨ (77 ≤ a ∧ a ≤ 160) ∨ 180 ≤ a → σ1 a = σ a) (hF : HAs σ1 20 x.2.1 x.2.2) : IV (stP σ1 x) := by
  have e2 := sp_182 (σ := σ1) (x := x)
  have e3 := @sp_o σ1 x
  generalize stP σ1 x = τ at e2 e3 ⊢
  have e1 : ∀ a, a < 182 → τ a = σ1 a := fun a p => e3 (by omega) (by omega) (by omega)
  have g : ∀ a, a ≠ 7 → a ≠ 17 → a ≠ 182 → a ≠ 187 → a ≠ 190 → a < 20 ∨ (77 ≤ a ∧ a ≤ 160) ∨ 180 ≤ a → ∀ j, τ a j = σ a j := fun a p q r s t u j => by rw [e3 r s t, f a p q u]
  obtain ⟨hA, hB, hC, hD, hE, _, hG, hH⟩ := h.2
  refine ⟨?_, hA.cg (fun a j c => ?_), hB.cg (fun a j c => g a (by omega) (by omega) (by omega) (by omega) (by omega) (by omega) j), ⟨⟨?_, ?_⟩, ?_, ?_⟩, ⟨?_, ?_⟩, hE.cg (fun a j c => g a (by omega) (by omega) (by omega) (by omega) (by omega) (by omega) j), ?_, hG.cg (fun a j c => ?_), hH.cg (fun a j c => ?_)⟩
  · unfold IVS; rw [e1 7 (by decide), e2.1]; exact s0
  · rcases c with ⟨p, q⟩ | ⟨p, q⟩
    · subst p; rw [e1 7 (by decide)]; exact f7 j (by omega)
    · subst p; rw [e2.1]; rcases q with q | q
      · subst q; exact g2.1
      · subst q; exact g2.2.1
  · rw [e1 17 (by decide), e2.1, t0.1, t0.2]
  · rw [e1 17 (by decide), t0.1]; decide
  · rw [rw_e (σ' := τ) (g 18 (by decide) (by decide) (by decide) (by decide) (by decide) (by decide)), rw_e (σ' := τ) (g 186 (by decide) (by decide) (by decide) (by decide) (by decide) (by decide))]; exact hC.2.1
  · rw [rw_e (σ' := τ) (g 18 (by decide) (by decide) (by decide) (by decide) (by decide) (by decide))]; exact hC.2.2
  · rw [e1 17 (by decide), e2.1]; exact fa.1
  · rw [e1 17 (by decide), e2.1]; exact fa.2
  · unfold IVF; rw [e2.2.1, e2.2.2]; exact HAs.fr hF (fun a p q => e1 a (by omega))
  · rcases c with ⟨p, q⟩ | ⟨p, q⟩ | p | ⟨p, q⟩ | ⟨p, q⟩
    · subst p; rw [e1 7 (by decide)]; exact f7 j (by omega)
    · subst p; subst q; rw [e2.1]; exact g2.2.2.1
    · exact g a (by omega) (by omega) (by omega) (by omega) (by omega) (by omega) j
    · subst p; rw [e2.2.1]; exact cqz7 j q.1 q.2
    · subst p; rw [e2.2.2]; exact cqz9 j q.1 q.2
  · rcases c with ⟨p, q⟩ | ⟨p, q⟩ | p | p
    · subst p; rw [e1 7 (by decide)]; exact f7 j (by omega)
    · subst p; subst q; rw [e2.1]; exact g2.2.2.2
    · exact g a (by omega) (by omega) (by omega) (by omega) (by omega) (by omega) j
    · exact g a (by omega) (by omega) (by omega) (by omega) (by omega) (by omega) j
theorem IV.as {σ σ1 : Sg} {r1 n : Int} (h : IV σ) (o : ASx σ σ1 r1 n (pAs (σ 18) 1000 (pAs0 (σ 18) (σ 182) (σ 187) (σ 190) n))) : r1 = (g_asm (σ1 186) (σ1 182) (σ1 187) (σ1 190) n).1 ∧ IV (stP σ1 (g_asm (σ1 186) (σ1 182) (σ1 187) (σ1 190) n).2) := by
  have hC := h.C
  obtain ⟨⟨t1, t2, t3⟩, t4, _⟩ := hC
  rcases o with ⟨hn, hr, hs⟩ | ⟨hn, hr, tf, s0, z0, hh, f, f7⟩ | ⟨hn, hr, x12, ⟨f1, f2⟩, s0, z0, ⟨a1, a2, a3, a4⟩, ⟨b6, b7⟩, f, f7⟩
  · have q : n < 0 ∨ σ1 182 8 < n ∨ 900 < n := by rw [hs, up_row (by decide)]; omega
    unfold g_asm
    rw [if_pos q]
    exact ⟨hr, h.rj hs⟩
  · have e6 : σ1 186 = σ 18 := by rw [f 186 (by decide) (by decide) (by omega) (by decide), t4]
    have e2 : σ1 182 = σ 182 := f 182 (by decide) (by decide) (by omega) (by decide)
    have e7 : σ1 187 = σ 187 := f 187 (by decide) (by decide) (by omega) (by decide)
    have e9 : σ1 190 = σ 190 := f 190 (by decide) (by decide) (by omega) (by decide)
    rw [e6, e2, e7, e9]
    have hn9 : 0 ≤ n ∧ n ≤ 900 := by omega
    have j1 := @asm_j (σ 18) (σ 182) (σ 187) (σ 190) n
    have j2 := @asm_h (σ 18) (σ 182) (σ 187) (σ 190) n
    have j3 := @asm_c (σ 18) (σ 182) (σ 187) (σ 190) n
    have j4 := @asm_w (σ 18) (σ 182) (σ 187) (σ 190) n
    unfold g_asm
    rw [if_neg (by omega)]
    generalize pAs (σ 18) 1000 (pAs0 (σ 18) (σ 182) (σ 187) (σ 190) n) = X at tf j1 j2 j3 j4 ⊢
    have w := gWl_n tf.1
    unfold pAsT
    rw [if_neg (by have := tf.1; omega)]
    refine ⟨hr, h.rd (x := (gWl X.1, X.2)) ?_ ⟨z0, ?_⟩ ⟨?_, ?_⟩ ⟨?_, ?_, ?_, ?_⟩ (fun j p q => j3 hn9 (by omega)) (fun j p q => j4 hn9 (by omega)) f7 (fun a p q r => f a p q (by omega) (by omega)) ?_⟩
    · rw [s0]; exact w.1.symm
    · show gWl X.1 8 = 0
      rw [gWl_j (by decide) (by decide) (by decide), j1 hn9 (by decide), bu_e rfl]
    · rw [tf.2.1]; exact w.2.1.symm
    · rw [tf.2.2]; exact w.2.2.symm
    · show gWl X.1 2 = _
      rw [gWl_j (by decide) (by decide) (by decide), j1 hn9 (by decide), bu_n (by decide), bu_n (by decide), bu_n (by decide), bu_n (by decide)]
    · show gWl X.1 3 = _
      rw [gWl_j (by decide) (by decide) (by decide), j1 hn9 (by decide), bu_n (by decide), bu_n (by decide), bu_n (by decide), bu_n (by decide)]
    · show gWl X.1 24 = _
      rw [gWl_j (by decide) (by decide) (by decide), j2 hn9 (by decide)]
    · show gWl X.1 33 = _
      rw [gWl_j (by decide) (by decide) (by decide), j2 hn9 (by decide)]
    · exact (HAs.fr h.F (fun a p q => hh a p (by omega))).cb (fun j p q => j3 hn9 (by omega)) (fun j p q => j4 hn9 (by omega))
  · have e6 : σ1 186 = σ 18 := by rw [f 186 (by decide) (by decide) (by omega) (by decide), t4]
    have e2 : σ1 182 = σ 182 := f 182 (by decide) (by decide) (by omega) (by decide)
    have e7 : σ1 187 = σ 187 := f 187 (by decide) (by decide) (by omega) (by decide)
    have e9 : σ1 190 = σ 190 := f 190 (by decide) (by decide) (by omega) (by decide)
    rw [e6, e2, e7, e9]
    have hn9 : 0 ≤ n ∧ n ≤ 900 := by omega
    have j1 := @asm_j (σ 18) (σ 182) (σ 187) (σ 190) n
    have j2 := @asm_h (σ 18) (σ 182) (σ 187) (σ 190) n
    have j3 := @asm_c (σ 18) (σ 182) (σ 187) (σ 190) n
    have j4 := @asm_w (σ 18) (σ 182) (σ 187) (σ 190) n
    have j8 := asm_8 (y := σ 18) (g := σ 182) (c := σ 187) (v := σ 190) hn9
    unfold g_asm
    rw [if_neg (by omega)]
    generalize pAs (σ 18) 1000 (pAs0 (σ 18) (σ 182) (σ 187) (σ 190) n) = X at x12 j1 j2 j3 j4 j8 hr a1 a2 a3 a4 b6 b7 ⊢
    have w := gWl_y x12 (by rw [j1 hn9 (by decide), bu_n (by decide), bu_n (by decide), bu_e rfl])
    unfold pAsT
    rw [if_pos x12]
    refine ⟨hr, h.rd (x := (gWl X.1, cpb 398 1592 0 X.2.1, cpb 40 160 0 X.2.2)) ?_ ⟨z0, ?_⟩ ⟨?_, ?_⟩ ⟨?_, ?_, ?_, ?_⟩ (fun j p q => ?_) (fun j p q => ?_) f7 (fun a p q r => f a p q (by omega) (by omega)) ?_⟩
    · rw [s0]; exact w.1.symm
    · show gWl X.1 8 = 0
      rw [gWl_j (by decide) (by decide) (by decide), j1 hn9 (by decide), bu_e rfl]
    · rw [f1]; exact w.2.1.symm
    · rw [f2]; exact w.2.2.symm
    · show gWl X.1 2 = _
      rw [gWl_j (by decide) (by decide) (by decide), j1 hn9 (by decide), bu_n (by decide), bu_n (by decide), bu_n (by decide), bu_n (by decide)]
    · show gWl X.1 3 = _
      rw [gWl_j (by decide) (by decide) (by decide), j1 hn9 (by decide), bu_n (by decide), bu_n (by decide), bu_n (by decide), bu_n (by decide)]
    · show gWl X.1 24 = _
      rw [gWl_j (by decide) (by decide) (by decide), j2 hn9 (by decide)]
    · show gWl X.1 33 = _
      rw [gWl_j (by decide) (by decide) (by decide), j2 hn9 (by decide)]
    · show cpb 398 1592 0 X.2.1 j = _
      rw [cpb_out (by omega), j3 hn9 (by omega)]
    · show cpb 40 160 0 X.2.2 j = _
      rw [cpb_out (by omega), j4 hn9 (by omega)]
    · have hs : HAs σ1 20 (bk X.2.1) (wk X.2.2) := ⟨a1, a2, a3, a4, by rw [j8]; decide, by rw [b7]; exact SWf_s.mpr ⟨by decide, fun s p q => by exfalso; omega⟩⟩
      refine hs.cb (fun j p q => ?_) (fun j p q => ?_)
      · show cpb 398 1592 0 X.2.1 j = X.2.1 (1592 + j)
        rw [cpb_in (by omega)]; exact congrArg _ (by omega)
      · show cpb 40 160 0 X.2.2 j = X.2.2 (160 + j)
        rw [cpb_in (by omega)]; exact congrArg _ (by omega)
theorem IV.hc {σ : Sg} (h : IV σ) : ∀ s, 0 ≤ s → s ≤ 3 → 0 ≤ σ 187 s ∧ σ 187 s ≤ 10 := by
  intro s p q
  have B := h.W
  rcases (show s = 0 ∨ s = 1 ∨ s = 2 ∨ s = 3 by omega) with e | e | e | e
  · subst e; have := B.1; omega
  · subst e; have := B.2.1; omega
  · subst e; have := B.2.2.1; omega
  · subst e; have := B.2.2.2.1; omega
theorem IV.hn {σ : Sg} (h : IV σ) : HN σ (σ 187) (σ 190) := ⟨σ 187, h.A, h.F.2.1, h.W, fun _ _ _ => rfl⟩
theorem IV.se {σ σ1 : Sg} {r1 n : Int} (h : IV σ) (o : SEx σ σ1 r1 n (pSe (σ 18) 40 (pSe0 (σ 18) (σ 182) (σ 187) (σ 190) n))) : r1 = (g_ses (σ1 186) (σ1 182) (σ1 187) (σ1 190) n).1 ∧ IV (stP σ1 (g_ses (σ1 186) (σ1 182) (σ1 187) (σ1 190) n).2) := by
  have hC := h.C
  have hc := h.hc
  obtain ⟨⟨t1, t2, t3⟩, t4, _⟩ := hC
  rcases o with ⟨hn, hr, hs⟩ | ⟨hn, hr, tf, s0, z0, hh, f, f7⟩ | ⟨hn, hr, x12, ⟨f1, f2⟩, s0, z0, ⟨a3, a4⟩, f, f7⟩
  · have q : n < 0 ∨ σ1 182 8 < n ∨ 300 < n := by rw [hs, up_row (by decide)]; omega
    unfold g_ses
    rw [if_pos q]
    exact ⟨hr, h.rj hs⟩
  · have e6 : σ1 186 = σ 18 := by rw [f 186 (by decide) (by decide) (by omega) (by omega), t4]
    have e2 : σ1 182 = σ 182 := f 182 (by decide) (by decide) (by omega) (by omega)
    have e7 : σ1 187 = σ 187 := f 187 (by decide) (by decide) (by omega) (by omega)
    have e9 : σ1 190 = σ 190 := f 190 (by decide) (by decide) (by omega) (by omega)
    rw [e6, e2, e7, e9]
    have hn9 : 0 ≤ n ∧ n ≤ 900 := by omega
    obtain ⟨j1, j2, j3, j4⟩ := ses_g (y := σ 18) (g := σ 182) (c := σ 187) (v := σ 190) hn9 hc
    unfold g_ses
    rw [if_neg (by omega)]
    generalize pSe (σ 18) 40 (pSe0 (σ 18) (σ 182) (σ 187) (σ 190) n) = X at tf j1 j2 j3 j4 ⊢
    have w := gWl_n tf.1
    unfold pSeT
    rw [if_neg (by have := tf.1; omega)]
    refine ⟨hr, h.rd (x := (gWl X.1, X.2)) ?_ ⟨z0, ?_⟩ ⟨?_, ?_⟩ ⟨?_, ?_, ?_, ?_⟩ (fun j p q => j3 j (by omega)) (fun j p q => by rw [j4]) f7 (fun a p q r => f a p q (by omega) (by omega)) ?_⟩
    · rw [s0]; exact w.1.symm
    · show gWl X.1 8 = 0
      rw [gWl_j (by decide) (by decide) (by decide), j1 8 (by decide), bu_e rfl]
    · rw [tf.2.1]; exact w.2.1.symm
    · rw [tf.2.2]; exact w.2.2.symm
    · show gWl X.1 2 = _
      rw [gWl_j (by decide) (by decide) (by decide), j1 2 (by decide), bu_n (by decide), bu_n (by decide), bu_n (by decide), bu_n (by decide)]
    · show gWl X.1 3 = _
      rw [gWl_j (by decide) (by decide) (by decide), j1 3 (by decide), bu_n (by decide), bu_n (by decide), bu_n (by decide), bu_n (by decide)]
    · show gWl X.1 24 = _
      rw [gWl_j (by decide) (by decide) (by decide), j2 24 (by decide)]
    · show gWl X.1 33 = _
      rw [gWl_j (by decide) (by decide) (by decide), j2 33 (by decide)]
    · refine (HAs.fr h.F (fun a p q => ?_)).cb (fun j p q => j3 j (by omega)) (fun j p q => by rw [j4])
      by_cases cqz3 : 31 ≤ a ∧ a ≤ 37
      · exact hh a cqz3.1 cqz3.2
      · exact f a (by omega) (by omega) cqz3 (by omega)
  · have e6 : σ1 186 = σ 18 := by rw [f 186 (by decide) (by decide) (by omega) (by omega), t4]
    have e2 : σ1 182 = σ 182 := f 182 (by decide) (by decide) (by omega) (by omega)
    have e7 : σ1 187 = σ 187 := f 187 (by decide) (by decide) (by omega) (by omega)
    have e9 : σ1 190 = σ 190 := f 190 (by decide) (by decide) (by omega) (by omega)
    rw [e6, e2, e7, e9]
    have hn9 : 0 ≤ n ∧ n ≤ 900 := by omega
    obtain ⟨j1, j2, j3, j4⟩ := ses_g (y := σ 18) (g := σ 182) (c := σ 187) (v := σ 190) hn9 hc
    have si := (SG0.se (y := σ 18) 40 _ (pSe0_i (y := σ 18) (g := σ 182) (x := σ 190) hn9 hc)).1.2.2.1
    unfold g_ses
    rw [if_neg (by omega)]
    generalize pSe (σ 18) 40 (pSe0 (σ 18) (σ 182) (σ 187) (σ 190) n) = X at x12 j1 j2 j3 j4 hr a3 a4 si ⊢
    have w := gWl_y x12 (by rw [j1 0 (by decide), bu_n (by decide), bu_n (by decide), bu_e rfl])
    have b6 := pSB_6 (X := X)
    have po : ∀ j, j < 126 → pSB X j = σ 187 j := fun j p => by rw [pSB_o p, j3 j (by omega)]
    unfold pSeT
    rw [if_pos x12]
    refine ⟨hr, h.rd (x := (gWl X.1, pSB X, X.2.2)) ?_ ⟨z0, ?_⟩ ⟨?_, ?_⟩ ⟨?_, ?_, ?_, ?_⟩ (fun j p q => ?_) (fun j p q => by rw [j4]) f7 (fun a p q r => f a p q (by omega) (by omega)) ?_⟩
    · rw [s0]; exact w.1.symm
    · show gWl X.1 8 = 0
      rw [gWl_j (by decide) (by decide) (by decide), j1 8 (by decide), bu_e rfl]
    · rw [f1]; exact w.2.1.symm
    · rw [f2]; exact w.2.2.symm
    · show gWl X.1 2 = _
      rw [gWl_j (by decide) (by decide) (by decide), j1 2 (by decide), bu_n (by decide), bu_n (by decide), bu_n (by decide), bu_n (by decide)]
    · show gWl X.1 3 = _
      rw [gWl_j (by decide) (by decide) (by decide), j1 3 (by decide), bu_n (by decide), bu_n (by decide), bu_n (by decide), bu_n (by decide)]
    · show gWl X.1 24 = _
      rw [gWl_j (by decide) (by decide) (by decide), j2 24 (by decide)]
    · show gWl X.1 33 = _
      rw [gWl_j (by decide) (by decide) (by decide), j2 33 (by decide)]
    · show pSB X j = _
      unfold pSB
      rw [cpb_out (by omega), bu_n (by omega), bu_n (by omega), j3 j (by omega)]
    · obtain ⟨m1, m2, m3, m4, m5, m6⟩ := h.F
      show HAs σ1 20 (pSB X) X.2.2
      rw [j4]
      refine ⟨?_, ?_, a3, m4.cb (fun j p q => po j q), by rw [po 8 (by decide)]; exact m5, by rw [b6.2]; exact a4⟩
      · refine Asm.cg (m1.fr2 (fun a p q r => f a (by omega) (by omega) (by omega) (by omega)) m4.2.1) m4.2.2.1.2 m4.2.2.2.1.2 (fun j p => po j (by omega)) (fun m g p q r => po (g + m) (by have := m4.2.1; omega))
      · exact (m2.fr m4.2.1.2 (fun a j p q r => by rw [f a (by omega) (by omega) (by omega) (by omega)])).cb (fun j p q => po j (by omega))
