/-! ===== the model: readTest, readRest (text laid by genmod59.py) ===== -/
/-- what is kept while SESSIONS are read -/
def SI0 (x : Ps) : Prop := GI x.1 ∧ 0 ≤ x.1 12 ∧ (0 ≤ x.1 26 ∧ x.1 26 ≤ 30) ∧ (∀ s, 0 ≤ s → s ≤ 3 → 0 ≤ x.2.1 s ∧ x.2.1 s ≤ 10)
def sTt (t : Int) : Int := if t = 0 then 0 else if t = 1 then 2 else 1
def pTe1 (y : Int → Int) (x : Ps) (v : Int) : Ps := (mMust y x.1 (if twI x.1 < 0 then 0 else 1), bu x.2.1 (v + 6) (twI x.1), x.2.2)
def pTe2 (y : Int → Int) (x : Ps) (v t : Int) : Ps := ((mRT y x.1 x.2.1 x.2.2 0 (sTt t)).2, bu x.2.1 (v + 1) (mRT y x.1 x.2.1 x.2.2 0 (sTt t)).1, x.2.2)
def cmI (g : Int → Int) : Int := bi (g 14 = 3 ∧ (g 17 = 60 ∨ g 17 = 62 ∨ g 17 = 61))
def pTe3 (y : Int → Int) (x : Ps) (v t : Int) : Ps := if 0 < x.1 12 ∨ ¬ t = 2 then x else ((mCou y (mMust y x.1 (cmI x.1)) 0 999).2, bu (bu x.2.1 (v + 7) (if x.1 14 = 3 then x.1 17 else 0)) (v + 2) (mCou y (mMust y x.1 (cmI x.1)) 0 999).1, x.2.2)
def pTes (y : Int → Int) (x : Ps) (v : Int) : Ps := pTe3 y (pTe2 y (pTe1 y x v) v (twI x.1)) v (twI x.1)
def pRes (y : Int → Int) (x : Ps) (v : Int) : Ps := if x.2.1 v = 0 then ((mCou y x.1 1 60).2, bu x.2.1 (v + 1) (mCou y x.1 1 60).1, x.2.2) else if x.2.1 v = 8 then ((mCou y x.1 1 99).2, bu x.2.1 (v + 1) (mCou y x.1 1 99).1, x.2.2) else if x.2.1 v = 7 then pTes y x v else if x.2.1 v < 6 then ((mRT y x.1 x.2.1 x.2.2 0 1).2, bu x.2.1 (v + 1) (mRT y x.1 x.2.1 x.2.2 0 1).1, x.2.2) else x
/-- the count of STEPS stays -/
def G6 (g g' : Int → Int) : Prop := g' 26 = g 26
theorem G6.fail {g : Int → Int} {k q : Int} : G6 g (mFail g k q) := mFail_f (by omega)
theorem G6.adv {y g : Int → Int} : G6 g (mAdv y g) := mAdv_f (by omega)
theorem G6.tr {g g' g2 : Int → Int} (h : G6 g g') (h2 : G6 g' g2) : G6 g g2 := by unfold G6 at *; omega
theorem G6.rfl {g : Int → Int} : G6 g g := Eq.refl _
theorem G6.ami {g : Int → Int} : G6 g (mAmi g) := G6.fail
theorem G6.must {y g : Int → Int} {b : Int} : G6 g (mMust y g b) := by unfold mMust; split; exact G6.rfl; split; exact G6.ami; exact G6.adv
theorem G6.cou {y g : Int → Int} {lo hi : Int} : G6 g (mCou y g lo hi).2 := by
  have h1 : G6 g (mCo1 g) := by unfold mCo1; split; exact G6.ami; exact G6.rfl
  have h2 : G6 (mCo1 g) (mCo2 (mCo1 g) lo hi) := by unfold mCo2; split; exact G6.fail; exact G6.rfl
  have h3 : G6 (mCo2 (mCo1 g) lo hi) (mCo3 y (mCo2 (mCo1 g) lo hi)).2 := by unfold mCo3; split; exact G6.rfl; exact G6.adv
  exact (h1.tr h2).tr h3
theorem G6.told {g c x : Int → Int} {b s : Int} : G6 g (mTold g c x b s).2 := by
  have h1 : G6 g (mTo1 g) := by unfold mTo1; split; exact G6.ami; exact G6.rfl
  unfold mTold mTo2; split; exact h1; dsimp only; split; exact h1.tr G6.fail; exact h1
theorem G6.rt {y g c x : Int → Int} {b s : Int} : G6 g (mRT y g c x b s).2 := G6.told.tr G6.must
/-- one step of reading SESSIONS -/
def SG0 (x x' : Ps) : Prop := SI0 x' ∧ Gm x.1 x'.1 ∧ Gs x.1 x'.1 ∧ (∀ j, j < 1720 → x'.2.1 j = x.2.1 j) ∧ x'.2.2 = x.2.2 ∧ x.1 26 ≤ x'.1 26
theorem SG0.tr {x x' x2 : Ps} (h : SG0 x x') (h2 : SG0 x' x2) : SG0 x x2 := ⟨h2.1, h.2.1.tr h2.2.1, h.2.2.1.tr h2.2.2.1, fun j hj => by rw [h2.2.2.2.1 j hj, h.2.2.2.1 j hj], by rw [h2.2.2.2.2.1, h.2.2.2.2.1], by have := h.2.2.2.2.2; have := h2.2.2.2.2.2; omega⟩
theorem SG0.rfl {x : Ps} (h : SI0 x) : SG0 x x := ⟨h, Gm.rfl, Gs.rfl, fun _ _ => Eq.refl _, Eq.refl _, Int.le_refl _⟩
theorem SG0.c {x : Ps} {g : Int → Int} {i v : Int} (h : SI0 x) (h1 : GI g) (h2 : 0 ≤ g 12) (h3 : Gm x.1 g) (h4 : Gs x.1 g) (h6 : G6 x.1 g) (hi : 1720 ≤ i) : SG0 x (g, bu x.2.1 i v, x.2.2) := ⟨⟨h1, h2, by show 0 ≤ g 26 ∧ g 26 ≤ 30; rw [h6]; exact h.2.2.1, fun s a b => by dsimp only; rw [bu_n (by omega)]; exact h.2.2.2 s a b⟩, h3, h4, fun j hj => by dsimp only; rw [bu_n (by omega)], Eq.refl _, by show x.1 26 ≤ g 26; rw [h6]; exact Int.le_refl _⟩
theorem SG0.g {x : Ps} {g : Int → Int} (h : SI0 x) (h1 : GI g) (h2 : 0 ≤ g 12) (h3 : Gm x.1 g) (h4 : Gs x.1 g) (h6 : G6 x.1 g) : SG0 x (g, x.2) := ⟨⟨h1, h2, by show 0 ≤ g 26 ∧ g 26 ≤ 30; rw [h6]; exact h.2.2.1, h.2.2.2⟩, h3, h4, fun j hj => Eq.refl _, Eq.refl _, by show x.1 26 ≤ g 26; rw [h6]; exact Int.le_refl _⟩
theorem SG0.te1 {y : Int → Int} {x : Ps} (h : SI0 x) {v : Int} (hv : 1720 ≤ v) : SG0 x (pTe1 y x v) := SG0.c h (mMust_gi h.1) (mMust_p h.2.1) (Gm.must h.1) Gs.must G6.must (by omega)
theorem SG0.te2 {y : Int → Int} {x : Ps} (h : SI0 x) {v t : Int} (hv : 1720 ≤ v) : SG0 x (pTe2 y x v t) := SG0.c h (mRT_gi h.1) (mRT_p h.2.1) (Gm.rt h.1) Gs.rt G6.rt (by omega)
theorem SG0.te3 {y : Int → Int} {x : Ps} (h : SI0 x) {v t : Int} (hv : 1720 ≤ v) : SG0 x (pTe3 y x v t) := by
  unfold pTe3; split
  · exact SG0.rfl h
  · have h1 : SG0 x (mMust y x.1 (cmI x.1), bu x.2.1 (v + 7) (if x.1 14 = 3 then x.1 17 else 0), x.2.2) := SG0.c h (mMust_gi h.1) (mMust_p h.2.1) (Gm.must h.1) Gs.must G6.must (by omega)
    exact h1.tr (SG0.c (x := (mMust y x.1 (cmI x.1), bu x.2.1 (v + 7) (if x.1 14 = 3 then x.1 17 else 0), x.2.2)) h1.1 (mCou_gi h1.1.1) (mCou_p h1.1.2.1) (Gm.cou h1.1.1) Gs.cou G6.cou (by omega))
theorem SG0.tes {y : Int → Int} {x : Ps} (h : SI0 x) {v : Int} (hv : 1720 ≤ v) : SG0 x (pTes y x v) := by
  have p1 := SG0.te1 (y := y) h hv
  have p2 := SG0.te2 (y := y) (t := twI x.1) p1.1 hv
  exact p1.tr (p2.tr (SG0.te3 p2.1 hv))
theorem SG0.res {y : Int → Int} {x : Ps} (h : SI0 x) {v : Int} (hv : 1720 ≤ v) : SG0 x (pRes y x v) := by
  unfold pRes
  repeat' split
  all_goals first | exact SG0.tes h hv | exact SG0.rfl h | exact SG0.c h (mCou_gi h.1) (mCou_p h.2.1) (Gm.cou h.1) Gs.cou G6.cou (by omega) | exact SG0.c h (mRT_gi h.1) (mRT_p h.2.1) (Gm.rt h.1) Gs.rt G6.rt (by omega)
theorem t_te_4 {d L : Nat} {σ : Sg} {t : Int} {v : Int} (hv : 1720 ≤ v ∧ v < 1990 - 8) {x : Ps} (hp : SI0 x) (hy : BY (σ 186)) (hd : 6 ≤ d) : Go d k_X12_readTest 74 [vr 182, vi v, vi t] [] (SH L, stP σ x) (fun v' h' => v' = none ∧ h'.1 = SH L ∧ h'.2 = stP σ ((mCou (σ 186) x.1 0 999).2, bu x.2.1 (v + 2) (mCou (σ 186) x.1 0 999).1, x.2.2)) := by
  exact Go.sym (cut := []) 12 ⟨rfl, ⟨⟨nb rfl, nb rfl, rfl⟩, ⟨d0 hd, nb rfl⟩, cI.det (t_count (by first | exact hp.1 | (simp (disch := omega) only [nc, srM, srN, up_sr, sr_sr, sr_e, sr_n, stP_2, stP_7, stP_0, stP_o, stP_u, stP_c, stP_w, stP_s]; first | exact hp.1 | (repeat first | exact hp.1 | apply mMust_gi | apply mCou_gi | apply mPer_gi | apply mRT_gi | apply mNew_gi | apply mAdv_gi | apply mTold_gi | apply mFail_gi))) (by first | exact hy | (simp (disch := omega) only [nc, srM, srN, up_sr, sr_sr, sr_e, sr_n, stP_2, stP_7, stP_0, stP_o, stP_u, stP_c, stP_w, stP_s]; exact hy)) (ds (by omega : 2 + 1 ≤ d))) ⟨⟨rfl, (ib rfl), (by first | omega | ((try clear ih) <;> (try clear hV) <;> (try clear K) <;> (try clear KS) <;> (try simp only [stP_2, stP_7, stP_0, stP_o, stP_u, stP_c, stP_w, stP_s, icond, nc, bi0, bi1, bin0, bin1, ne_eq, Decidable.not_not] at *) <;> (try simp (disch := omega) only [stP_2, stP_7, stP_0, stP_o, stP_u, stP_c, stP_w, stP_s, icond, q32_in, srM, srN, jc_lt, jc_gt, jc_le, jc_ge, jc_eq, bi0, bi1, bin0, bin1, List.headD_cons, ne_eq, Decidable.not_not, fin01, nc, not_true_eq_false, not_false_eq_true, false_and, and_false, true_and, and_true, false_or, or_false, sr_sr, sr_e, sr_n, bu_n, bu_e, sr_id, up_sr, shn] at *) <;> (try simp (disch := omega) only [stP_2, stP_7, stP_0, stP_o, stP_u, stP_c, stP_w, stP_s, q32_in, bu_n, bu_e] at *) <;> omega)), (by first | omega | ((try clear ih) <;> (try clear hV) <;> (try clear K) <;> (try clear KS) <;> (try simp only [stP_2, stP_7, stP_0, stP_o, stP_u, stP_c, stP_w, stP_s, icond, nc, bi0, bi1, bin0, bin1, ne_eq, Decidable.not_not] at *) <;> (try simp (disch := omega) only [stP_2, stP_7, stP_0, stP_o, stP_u, stP_c, stP_w, stP_s, icond, q32_in, srM, srN, jc_lt, jc_gt, jc_le, jc_ge, jc_eq, bi0, bi1, bin0, bin1, List.headD_cons, ne_eq, Decidable.not_not, fin01, nc, not_true_eq_false, not_false_eq_true, false_and, and_false, true_and, and_true, false_or, or_false, sr_sr, sr_e, sr_n, bu_n, bu_e, sr_id, up_sr, shn] at *) <;> (try simp (disch := omega) only [stP_2, stP_7, stP_0, stP_o, stP_u, stP_c, stP_w, stP_s, q32_in, bu_n, bu_e] at *) <;> omega))⟩, ⟨rfl, rfl, (by (try clear ih) <;> (try clear hV) <;> (try clear K) <;> (try clear KS) <;> (try simp only [stP_2, stP_7, stP_0, stP_o, stP_u, stP_c, stP_w, stP_s, icond, nc, bi0, bi1, bin0, bin1, ne_eq, Decidable.not_not] at *) <;> (try simp (disch := omega) only [stP_2, stP_7, stP_0, stP_o, stP_u, stP_c, stP_w, stP_s, icond, q32_in, srM, srN, jc_lt, jc_gt, jc_le, jc_ge, jc_eq, bi0, bi1, bin0, bin1, List.headD_cons, ne_eq, Decidable.not_not, fin01, nc, not_true_eq_false, not_false_eq_true, false_and, and_false, true_and, and_true, false_or, or_false, sr_sr, sr_e, sr_n, bu_n, bu_e, sr_id, up_sr, shn] at *) <;> (try simp (disch := omega) only [stP_2, stP_7, stP_0, stP_o, stP_u, stP_c, stP_w, stP_s, q32_in, bu_n, bu_e] at *))⟩⟩⟩⟩
