/-! ===== the model: readStep (text laid by genmod61.py) ===== -/
theorem pS_ok {g : Int → Int} {n : Int} (h0 : 0 ≤ g 12) (h : ¬ 0 < pS3 (pS2 (pS1 g)) (blk (swI g)) n 12) : pS3 (pS2 (pS1 g)) (blk (swI g)) n = g ∧ g 12 = 0 ∧ ¬ g 26 = 30 ∧ 0 ≤ swI g ∧ ¬ (¬ blk (swI g) = 0 ∧ n = 3) := by
  have hf : ∀ k q : Int, 0 < k → 0 < mFail g k q 12 := fun k q hk => by unfold mFail; split; assumption; simp (disch := omega) only [bu_n, bu_e]; exact hk
  have s1 : Gs (pS2 (pS1 g)) (pS3 (pS2 (pS1 g)) (blk (swI g)) n) := by unfold pS3; split; exact Gs.fail; exact Gs.rfl
  have s2 : Gs (pS1 g) (pS2 (pS1 g)) := by unfold pS2; split; exact Gs.fail; exact Gs.rfl
  have b2 : ¬ 0 < pS2 (pS1 g) 12 := fun hb => h (by have := s1 hb; omega)
  have b1 : ¬ 0 < pS1 g 12 := fun hb => b2 (by have := s2 hb; omega)
  have e1 : 0 ≤ swI g ∧ pS1 g = g := by
    unfold pS1 at b1 ⊢
    by_cases c : swI g < 0
    · rw [if_pos c] at b1; exact absurd (hf _ _ (by split <;> decide)) b1
    · rw [if_neg c]; exact ⟨by omega, rfl⟩
  rw [e1.2] at b2 b1 s1 h ⊢
  have e2 : ¬ g 26 = 30 ∧ pS2 g = g := by
    unfold pS2 at b2 ⊢
    by_cases c : g 12 = 0 ∧ g 26 = 30
    · rw [if_pos c] at b2; exact absurd (hf _ _ (by decide)) b2
    · rw [if_neg c]; exact ⟨fun x => c ⟨by omega, x⟩, rfl⟩
  rw [e2.2] at h ⊢
  have e3 : ¬ (¬ blk (swI g) = 0 ∧ n = 3) ∧ pS3 g (blk (swI g)) n = g := by
    unfold pS3 at h ⊢
    by_cases c : g 12 = 0 ∧ ¬ blk (swI g) = 0 ∧ n = 3
    · rw [if_pos c] at h; exact absurd (hf _ _ (by decide)) h
    · rw [if_neg c]; exact ⟨fun x => c ⟨by omega, x⟩, rfl⟩
  exact ⟨e3.2, by omega, e2.1, e1.1, e3.1⟩
theorem SG0.s13 {x : Ps} (h : SI0 x) {b n : Int} : SG0 x (pS3 (pS2 (pS1 x.1)) b n, x.2) := by
  have h1 : SG0 x (pS1 x.1, x.2) := by unfold pS1; split; exact SG0.g h (mAmi_gi h.1) (mAmi_p h.2.1) Gm.ami Gs.ami G6.ami; exact SG0.rfl h
  have h2 : SG0 (pS1 x.1, x.2) (pS2 (pS1 x.1), x.2) := by
    unfold pS2; split
    · exact SG0.g (x := (pS1 x.1, x.2)) h1.1 (mFail_gi h1.1.1) (mFail_p h1.1.2.1 (by decide)) Gm.fail Gs.fail G6.fail
    · exact SG0.rfl h1.1
  have h3 : SG0 (pS2 (pS1 x.1), x.2) (pS3 (pS2 (pS1 x.1)) b n, x.2) := by
    unfold pS3; split
    · exact SG0.g (x := (pS2 (pS1 x.1), x.2)) h2.1 (mFail_gi h2.1.1) (mFail_p h2.1.2.1 (by decide)) Gm.fail Gs.fail G6.fail
    · exact SG0.rfl h2.1
  exact h1.tr (h2.tr h3)
theorem SG0.cl {y : Int → Int} {x : Ps} (h : SI0 x) : SG0 x (pCl y x) := SG0.g h (mMust_gi h.1) (mMust_p h.2.1) (Gm.must h.1) Gs.must G6.must
theorem SG0.en {y : Int → Int} {x : Ps} (h : SI0 x) : SG0 x (pEn y x) := by
  have h1 : SG0 x (mMust y x.1 (kwI x.1 5572), x.2) := SG0.g h (mMust_gi h.1) (mMust_p h.2.1) (Gm.must h.1) Gs.must G6.must
  exact h1.tr (SG0.cl h1.1)
theorem SG0.s4a {y : Int → Int} {x : Ps} (h : SI0 x) {k : Int} (h26 : x.1 26 < 30) : SG0 x (mAdv y (bu x.1 26 (x.1 26 + 1)), bu x.2.1 (1720 + 9 * x.1 26) k, x.2.2) := by
  have k1 := bu25_gi (v := x.1 26 + 1) h.1 (Or.inr (Eq.refl _))
  have e26 : mAdv y (bu x.1 26 (x.1 26 + 1)) 26 = x.1 26 + 1 := by rw [mAdv_f (by omega), bu_e (Eq.refl _)]
  have hh := h.2.2.1
  refine ⟨⟨mAdv_gi k1, mAdv_p (by rw [bu_n (by omega)]; exact h.2.1), ?_, fun s a b => by dsimp only; rw [bu_n (by omega)]; exact h.2.2.2 s a b⟩, (Gm.b25 (Or.inr (Eq.refl _))).tr (Gm.adv k1), (Gs.b25 (Or.inr (Eq.refl _))).tr Gs.adv, fun j hj => by dsimp only; rw [bu_n (by omega)], Eq.refl _, ?_⟩
  · show 0 ≤ mAdv y _ 26 ∧ mAdv y _ 26 ≤ 30; rw [e26]; omega
  · show x.1 26 ≤ mAdv y _ 26; rw [e26]; omega
theorem SG0.s4 {y : Int → Int} {x : Ps} (h : SI0 x) {k : Int} (h26 : x.1 26 < 30) : SG0 x (pS4 y x k) ∧ x.1 26 + 1 ≤ (pS4 y x k).1 26 := by
  have p1 := SG0.s4a (y := y) h (k := k) h26
  have hh := h.2.2.1
  have p2 := SG0.res (y := y) p1.1 (v := 1720 + 9 * x.1 26) (by omega)
  have p3 := SG0.cl (y := y) p2.1
  refine ⟨p1.tr (p2.tr p3), ?_⟩
  have e26 : mAdv y (bu x.1 26 (x.1 26 + 1)) 26 = x.1 26 + 1 := by rw [mAdv_f (by omega), bu_e (Eq.refl _)]
  have a := p2.2.2.2.2.2
  have b := p3.2.2.2.2.2
  have c : (mAdv y (bu x.1 26 (x.1 26 + 1)), bu x.2.1 (1720 + 9 * x.1 26) k, x.2.2).1 26 = x.1 26 + 1 := e26
  show x.1 26 + 1 ≤ (pCl y _).1 26
  omega
theorem SG0.lp {F : Ps → Ps} (hF : ∀ x, SI0 x → SG0 x (F x)) : ∀ (k : Nat) (x : Ps), SI0 x → SG0 x (pLp F k x)
  | 0, x, h => SG0.rfl h
  | k + 1, x, h => by
    by_cases c : x.1 12 = 0 ∧ kwI x.1 5572 = 0
    · rw [pLp_s c]; exact (hF x h).tr (SG0.lp hF k _ (hF x h).1)
    · rw [pLp_o c]; exact SG0.rfl h
theorem SG0.put {x : Ps} (h : SI0 x) {i v : Int} (hi : 1720 ≤ i) : SG0 x (x.1, bu x.2.1 i v, x.2.2) := SG0.c h h.1 h.2.1 Gm.rfl Gs.rfl G6.rfl hi
theorem SG0.s5 {y : Int → Int} {F : Ps → Ps} (hF : ∀ x, SI0 x → SG0 x (F x)) {x : Ps} (h : SI0 x) {b v : Int} (hv : 1720 ≤ v) : SG0 x (pS5 y F x b v) := by
  unfold pS5; split
  · exact SG0.put h (by omega)
  · have p1 := SG0.lp hF 40 x h
    have p2 := SG0.en (y := y) p1.1
    exact p1.tr (p2.tr (SG0.put p2.1 (by omega)))
theorem SG0.stp {y : Int → Int} : ∀ (D : Nat) (n : Int) (x : Ps), SI0 x → SG0 x (pStp y D n x) ∧ (0 < D → (pStp y D n x).1 12 = 0 → x.1 26 + 1 ≤ (pStp y D n x).1 26)
  | 0, n, x, h => ⟨SG0.rfl h, fun hD => by omega⟩
  | D + 1, n, x, h => by
    unfold pStp
    split
    · next c => exact ⟨SG0.s13 h, fun _ hz => by dsimp only at hz; omega⟩
    · next c =>
      have ok := pS_ok h.2.1 c
      rw [ok.1]
      have hh := h.2.2.1
      have p1 := SG0.s4 (y := y) (x := (x.1, x.2)) h (k := swI x.1) (by show x.1 26 < 30; omega)
      have p2 := SG0.s5 (y := y) (F := pStp y D (n + 1)) (fun z hz => (SG0.stp D (n + 1) z hz).1) p1.1.1 (b := blk (swI x.1)) (v := 1720 + 9 * x.1 26) (by omega)
      exact ⟨p1.1.tr p2, fun _ _ => by have a := p1.2; have b := p2.2.2.2.2.2; dsimp only at a; show x.1 26 + 1 ≤ _; omega⟩
theorem t_rs_5 {d L : Nat} {σ : Sg} {n kd : Int} {b : Int} {v : Int} (hv : 1720 ≤ v ∧ v < 1990 - 8) {x : Ps} (hp : SI0 x) (hy : BY (σ 186)) : Go d k_X12_readStep 99 [vr 182, vi n, vi kd, vi b, vi v] [] (SH L, stP σ x) (fun v' h' => v' = none ∧ h'.1 = SH L ∧ h'.2 = stP σ ((x.1, bu x.2.1 (v + 8) (x.1 26), x.2.2))) := by
  exact Go.sym (cut := []) 10 ⟨rfl, ⟨rfl, ⟨⟨rfl, (ib rfl), (by first | omega | ((try clear ih) <;> (try clear hV) <;> (try clear K) <;> (try clear KS) <;> (try simp only [stP_2, stP_7, stP_0, stP_o, stP_u, stP_c, stP_w, stP_s, icond, nc, bi0, bi1, bin0, bin1, ne_eq, Decidable.not_not] at *) <;> (try simp (disch := omega) only [stP_2, stP_7, stP_0, stP_o, stP_u, stP_c, stP_w, stP_s, icond, q32_in, srM, srN, jc_lt, jc_gt, jc_le, jc_ge, jc_eq, bi0, bi1, bin0, bin1, List.headD_cons, ne_eq, Decidable.not_not, fin01, nc, not_true_eq_false, not_false_eq_true, false_and, and_false, true_and, and_true, false_or, or_false, sr_sr, sr_e, sr_n, bu_n, bu_e, sr_id, up_sr, shn] at *) <;> (try simp (disch := omega) only [stP_2, stP_7, stP_0, stP_o, stP_u, stP_c, stP_w, stP_s, q32_in, bu_n, bu_e] at *) <;> omega)), (by first | omega | ((try clear ih) <;> (try clear hV) <;> (try clear K) <;> (try clear KS) <;> (try simp only [stP_2, stP_7, stP_0, stP_o, stP_u, stP_c, stP_w, stP_s, icond, nc, bi0, bi1, bin0, bin1, ne_eq, Decidable.not_not] at *) <;> (try simp (disch := omega) only [stP_2, stP_7, stP_0, stP_o, stP_u, stP_c, stP_w, stP_s, icond, q32_in, srM, srN, jc_lt, jc_gt, jc_le, jc_ge, jc_eq, bi0, bi1, bin0, bin1, List.headD_cons, ne_eq, Decidable.not_not, fin01, nc, not_true_eq_false, not_false_eq_true, false_and, and_false, true_and, and_true, false_or, or_false, sr_sr, sr_e, sr_n, bu_n, bu_e, sr_id, up_sr, shn] at *) <;> (try simp (disch := omega) only [stP_2, stP_7, stP_0, stP_o, stP_u, stP_c, stP_w, stP_s, q32_in, bu_n, bu_e] at *) <;> omega))⟩, ⟨rfl, rfl, (by (try clear ih) <;> (try clear hV) <;> (try clear K) <;> (try clear KS) <;> (try simp only [stP_2, stP_7, stP_0, stP_o, stP_u, stP_c, stP_w, stP_s, icond, nc, bi0, bi1, bin0, bin1, ne_eq, Decidable.not_not] at *) <;> (try simp (disch := omega) only [stP_2, stP_7, stP_0, stP_o, stP_u, stP_c, stP_w, stP_s, icond, q32_in, srM, srN, jc_lt, jc_gt, jc_le, jc_ge, jc_eq, bi0, bi1, bin0, bin1, List.headD_cons, ne_eq, Decidable.not_not, fin01, nc, not_true_eq_false, not_false_eq_true, false_and, and_false, true_and, and_true, false_or, or_false, sr_sr, sr_e, sr_n, bu_n, bu_e, sr_id, up_sr, shn] at *) <;> (try simp (disch := omega) only [stP_2, stP_7, stP_0, stP_o, stP_u, stP_c, stP_w, stP_s, q32_in, bu_n, bu_e] at *))⟩⟩⟩⟩
theorem t_rs_4 {d L : Nat} {σ : Sg} {n kd : Int} {v : Int} (hv : 1720 ≤ v ∧ v < 1990 - 8) {Q : Option MV → MH → Prop} {x : Ps} (hp : SI0 x) (hy : BY (σ 186)) (hd : 7 ≤ d) (K : Go d k_X12_readStep 99 [vr 182, vi n, vi kd, vi 1, vi v] [] (SH L, stP σ (pEn (σ 186) x)) Q) : Go d k_X12_readStep 88 [vr 182, vi n, vi kd, vi 1, vi v] [] (SH L, stP σ x) Q := by
  exact Go.sym (cut := [99]) 12 ⟨fun c1 => (by exfalso; revert c1; simp only [icond]; decide), fun c1 => ⟨⟨nb rfl, nb rfl, rfl⟩, ⟨d0 hd, nb rfl⟩, cI.det (t_isEnd (ds (by omega : 1 + 1 ≤ d))) ⟨⟨nb rfl, nb rfl, rfl⟩, ⟨d0 hd, nb rfl⟩, cV.det (t_must (by first | exact hp.1 | (simp (disch := omega) only [nc, srM, srN, up_sr, sr_sr, sr_e, sr_n, stP_2, stP_7, stP_0, stP_o, stP_u, stP_c, stP_w, stP_s]; first | exact hp.1 | (repeat first | exact hp.1 | apply mMust_gi | apply mCou_gi | apply mPer_gi | apply mRT_gi | apply mNew_gi | apply mAdv_gi | apply mTold_gi | apply mFail_gi))) (by first | exact hy | (simp (disch := omega) only [nc, srM, srN, up_sr, sr_sr, sr_e, sr_n, stP_2, stP_7, stP_0, stP_o, stP_u, stP_c, stP_w, stP_s]; exact hy)) (ds (by omega : 2 + 1 ≤ d))) ⟨⟨nb rfl, nb rfl, rfl⟩, ⟨d0 hd, nb rfl⟩, cI.det (t_isSign) ⟨⟨nb rfl, nb rfl, rfl⟩, ⟨d0 hd, nb rfl⟩, cV.det (t_must (by first | exact hp.1 | (simp (disch := omega) only [nc, srM, srN, up_sr, sr_sr, sr_e, sr_n, stP_2, stP_7, stP_0, stP_o, stP_u, stP_c, stP_w, stP_s]; first | exact hp.1 | (repeat first | exact hp.1 | apply mMust_gi | apply mCou_gi | apply mPer_gi | apply mRT_gi | apply mNew_gi | apply mAdv_gi | apply mTold_gi | apply mFail_gi))) (by first | exact hy | (simp (disch := omega) only [nc, srM, srN, up_sr, sr_sr, sr_e, sr_n, stP_2, stP_7, stP_0, stP_o, stP_u, stP_c, stP_w, stP_s]; exact hy)) (ds (by omega : 2 + 1 ≤ d))) (Go.toh rfl rfl (he (by unfold pEn pCl kwI sgI; (try clear ih) <;> (try clear hV) <;> (try clear K) <;> (try clear KS) <;> (try simp only [stP_2, stP_7, stP_0, stP_o, stP_u, stP_c, stP_w, stP_s, icond, nc, bi0, bi1, bin0, bin1, ne_eq, Decidable.not_not] at *) <;> (try simp (disch := omega) only [stP_2, stP_7, stP_0, stP_o, stP_u, stP_c, stP_w, stP_s, icond, q32_in, srM, srN, jc_lt, jc_gt, jc_le, jc_ge, jc_eq, bi0, bi1, bin0, bin1, List.headD_cons, ne_eq, Decidable.not_not, fin01, nc, not_true_eq_false, not_false_eq_true, false_and, and_false, true_and, and_true, false_or, or_false, sr_sr, sr_e, sr_n, bu_n, bu_e, sr_id, up_sr, shn] at *) <;> (try simp (disch := omega) only [stP_2, stP_7, stP_0, stP_o, stP_u, stP_c, stP_w, stP_s, q32_in, bu_n, bu_e] at *))) K)⟩⟩⟩⟩⟩
theorem t_rs_3 {d L : Nat} {σ : Sg} {n kd : Int} {v : Int} {F : Ps → Ps} {Q : Option MV → MH → Prop} (hy : BY (σ 186)) (hF : ∀ x, SI0 x → SG0 x (F x) ∧ ((F x).1 12 = 0 → x.1 26 + 1 ≤ (F x).1 26)) (hG : ∀ x, SI0 x → cV (d - 1) m_X12_readStep [vr 182, vi (q32 (n + 1))] (SH L) (stP σ x) (fun σ' => σ' = stP σ (F x))) (hd : 7 ≤ d) : ∀ (k : Nat) (x : Ps), SI0 x → ((x.1 12 = 0 ∧ kwI x.1 5572 = 0) → 30 - x.1 26 < k) → Go d k_X12_readStep 88 [vr 182, vi n, vi kd, vi 1, vi v] [] (SH L, stP σ (pLp F k x)) Q → Go d k_X12_readStep 74 [vr 182, vi n, vi kd, vi 1, vi v] [] (SH L, stP σ x) Q := by
  intro k
  induction k using Nat.strongRecOn with
  | ind k ih =>
    intro x hp hm K
    exact Go.sym (cut := [74, 88]) 15 ⟨fun c1 => (by exfalso; revert c1; simp only [icond]; decide), fun c1 => ⟨rfl, ⟨fun c2 => (Go.toh rfl rfl (he (by rw [pLp_o (show ¬ (x.1 12 = 0 ∧ kwI x.1 5572 = 0) by unfold kwI; intro hc; (try clear ih) <;> (try clear hV) <;> (try clear K) <;> (try clear KS) <;> (try simp only [stP_2, stP_7, stP_0, stP_o, stP_u, stP_c, stP_w, stP_s, icond, nc, bi0, bi1, bin0, bin1, ne_eq, Decidable.not_not] at *) <;> (try simp (disch := omega) only [stP_2, stP_7, stP_0, stP_o, stP_u, stP_c, stP_w, stP_s, icond, q32_in, srM, srN, jc_lt, jc_gt, jc_le, jc_ge, jc_eq, bi0, bi1, bin0, bin1, List.headD_cons, ne_eq, Decidable.not_not, fin01, nc, not_true_eq_false, not_false_eq_true, false_and, and_false, true_and, and_true, false_or, or_false, sr_sr, sr_e, sr_n, bu_n, bu_e, sr_id, up_sr, shn] at *) <;> (try simp (disch := omega) only [stP_2, stP_7, stP_0, stP_o, stP_u, stP_c, stP_w, stP_s, q32_in, bu_n, bu_e] at *) <;> omega)])) K), fun c2 => ⟨⟨nb rfl, nb rfl, rfl⟩, ⟨d0 hd, nb rfl⟩, cI.det (t_isEnd (ds (by omega : 1 + 1 ≤ d))) ⟨fun c3 => (Go.toh rfl rfl (he (by rw [pLp_o (show ¬ (x.1 12 = 0 ∧ kwI x.1 5572 = 0) by unfold kwI; intro hc; (try clear ih) <;> (try clear hV) <;> (try clear K) <;> (try clear KS) <;> (try simp only [stP_2, stP_7, stP_0, stP_o, stP_u, stP_c, stP_w, stP_s, icond, nc, bi0, bi1, bin0, bin1, ne_eq, Decidable.not_not] at *) <;> (try simp (disch := omega) only [stP_2, stP_7, stP_0, stP_o, stP_u, stP_c, stP_w, stP_s, icond, q32_in, srM, srN, jc_lt, jc_gt, jc_le, jc_ge, jc_eq, bi0, bi1, bin0, bin1, List.headD_cons, ne_eq, Decidable.not_not, fin01, nc, not_true_eq_false, not_false_eq_true, false_and, and_false, true_and, and_true, false_or, or_false, sr_sr, sr_e, sr_n, bu_n, bu_e, sr_id, up_sr, shn] at *) <;> (try simp (disch := omega) only [stP_2, stP_7, stP_0, stP_o, stP_u, stP_c, stP_w, stP_s, q32_in, bu_n, bu_e] at *) <;> omega)])) K), fun c3 => ⟨⟨nb rfl, nb rfl, rfl⟩, ⟨d0 hd, nb rfl⟩, cV.det (hG x hp) ((by have hc : (x.1 12 = 0 ∧ kwI x.1 5572 = 0) := (by unfold kwI; constructor; ((try clear ih) <;> (try clear hV) <;> (try clear K) <;> (try clear KS) <;> (try simp only [stP_2, stP_7, stP_0, stP_o, stP_u, stP_c, stP_w, stP_s, icond, nc, bi0, bi1, bin0, bin1, ne_eq, Decidable.not_not] at *) <;> (try simp (disch := omega) only [stP_2, stP_7, stP_0, stP_o, stP_u, stP_c, stP_w, stP_s, icond, q32_in, srM, srN, jc_lt, jc_gt, jc_le, jc_ge, jc_eq, bi0, bi1, bin0, bin1, List.headD_cons, ne_eq, Decidable.not_not, fin01, nc, not_true_eq_false, not_false_eq_true, false_and, and_false, true_and, and_true, false_or, or_false, sr_sr, sr_e, sr_n, bu_n, bu_e, sr_id, up_sr, shn] at *) <;> (try simp (disch := omega) only [stP_2, stP_7, stP_0, stP_o, stP_u, stP_c, stP_w, stP_s, q32_in, bu_n, bu_e] at *) <;> omega); (rw [bi0]; (try clear ih) <;> (try clear hV) <;> (try clear K) <;> (try clear KS) <;> (try simp only [stP_2, stP_7, stP_0, stP_o, stP_u, stP_c, stP_w, stP_s, icond, nc, bi0, bi1, bin0, bin1, ne_eq, Decidable.not_not] at *) <;> (try simp (disch := omega) only [stP_2, stP_7, stP_0, stP_o, stP_u, stP_c, stP_w, stP_s, icond, q32_in, srM, srN, jc_lt, jc_gt, jc_le, jc_ge, jc_eq, bi0, bi1, bin0, bin1, List.headD_cons, ne_eq, Decidable.not_not, fin01, nc, not_true_eq_false, not_false_eq_true, false_and, and_false, true_and, and_true, false_or, or_false, sr_sr, sr_e, sr_n, bu_n, bu_e, sr_id, up_sr, shn] at *) <;> (try simp (disch := omega) only [stP_2, stP_7, stP_0, stP_o, stP_u, stP_c, stP_w, stP_s, q32_in, bu_n, bu_e] at *) <;> first | assumption | omega)); obtain ⟨k', hk'⟩ : ∃ k', k = k' + 1 := ⟨k - 1, by have := hm hc; have := hp.2.2.1; omega⟩; subst hk'; rw [pLp_s hc] at K; have sg := hF x hp; exact ih k' (by omega) (F x) sg.1.1 (fun hc' => by have h1 := sg.2 hc'.1; have := hm hc; omega) K))⟩⟩⟩⟩⟩⟩
