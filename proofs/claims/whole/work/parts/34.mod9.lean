/-! ===== the model: what will be (text laid by genmod9.py) ===== -/
theorem t_gives_b {d L : Nat} {σ : Sg} {c a : Int → Int} (hK : σ 188 = cpr 126 (σ 187) a) (hc : ∀ j, ¬ (0 ≤ j ∧ j < 126) → c j = σ 187 j) : cV d m_X12_gives [vr 182] (SH L) (sr σ 187 c) (fun σ' => σ' = σ) := by
  refine cV.mono t_gives (fun σ' h => ?_)
  rw [h, sr_sr, sr_n (by decide), sr_e rfl, hK, cpr_back hc, sr_id]
def frS (σ σ' : Sg) : Prop := ∀ a j : Int, ¬ (a = 182 ∧ j = 0) → σ' a j = σ a j
theorem frS.rfl {σ : Sg} : frS σ σ := fun _ _ _ => Eq.refl _
theorem frS.st {σ σ' : Sg} {v : Int} (h : frS σ σ') : frS σ (up σ' 182 0 v) := fun a j q => by unfold up; rw [if_neg q]; exact h a j q
/-- all but what was kept aside, STATUS, thrown -/
def frK (σ σ' : Sg) : Prop := ∀ a j : Int, a ≠ 188 → ¬ (a = 182 ∧ (j = 0 ∨ j = 1)) → σ' a j = σ a j
theorem frK.of {σ σ' : Sg} {r : Int → Int} (h : frS (sr (up (up σ 182 1 0) 182 0 0) 188 r) σ') : frK σ σ' := fun a j p q => by
  rw [h a j (fun e => q ⟨e.1, Or.inl e.2⟩), sr_n p, up_sr, up_sr]
  by_cases e : a = 182
  · subst e
    rw [sr_e rfl, sr_e rfl, bu_n (fun e => q ⟨rfl, Or.inl e⟩), bu_n (fun e => q ⟨rfl, Or.inr e⟩)]
  · rw [sr_n e, sr_n e]
theorem frK.m {σ σ' : Sg} (h : frM σ σ') : frK σ σ' := fun a j _ q => h a j q
theorem cpr_n {n : Int} {s d : Int → Int} : cpr n s d = cpr n s d := rfl
def mSo (b : Int → Int) (w k : Int) : Int := if w = 0 then (if mG b = k then 1 else 0) else if w = 1 then (if 0 < mMar b k then 1 else 0) else (if mSet (mTh b 0) (b 1).toNat = 0 then 1 else 0)
def mFst (b : Int → Int) (w k : Int) : Nat → Int
  | 0 => -1
  | t + 1 => if 0 ≤ mFst b w k t then mFst b w k t else if mSo (mMinN b t) w k = 1 then t else -1
theorem mFst_s {b : Int → Int} {w k : Int} {t : Nat} : mFst b w k (t + 1) = if 0 ≤ mFst b w k t then mFst b w k t else if mSo (mMinN b t) w k = 1 then (t : Int) else -1 := rfl
theorem mFst_k {b : Int → Int} {w k : Int} {t : Nat} (h : 0 ≤ mFst b w k t) : ∀ i : Nat, mFst b w k (t + i) = mFst b w k t
  | 0 => rfl
  | i + 1 => by rw [show t + (i + 1) = (t + i) + 1 by omega, mFst_s, if_pos (by rw [mFst_k h i]; exact h), mFst_k h i]
theorem mFst_r {b : Int → Int} {w k : Int} : ∀ t : Nat, -1 ≤ mFst b w k t ∧ mFst b w k t < t
  | 0 => by unfold mFst; omega
  | t + 1 => by have := mFst_r (b := b) (w := w) (k := k) t; rw [mFst_s]; repeat' split
                all_goals omega
def mRei (b : Int → Int) (p : Int) : Nat → Int
  | 0 => 0
  | t + 1 => mRei b p t + if mG (mMinN b (t + 1)) = p then 1 else 0
theorem mRei_s {b : Int → Int} {p : Int} {t : Nat} : mRei b p (t + 1) = mRei b p t + if mG (mMinN b (t + 1)) = p then 1 else 0 := rfl
theorem mRei_r {b : Int → Int} {p : Int} : ∀ t : Nat, 0 ≤ mRei b p t ∧ mRei b p t ≤ t
  | 0 => by unfold mRei; omega
  | t + 1 => by have := mRei_r (b := b) (p := p) t; rw [mRei_s]; split <;> omega
def mWlk (b : Int → Int) (m : Int) : Nat → Int → Int
  | 0 => b
  | t + 1 => mWalk (mWlk b m t) m
theorem mWlk_s {b : Int → Int} {m : Int} {t : Nat} : mWlk b m (t + 1) = mWalk (mWlk b m t) m := rfl
theorem mWlk_z {b : Int → Int} {m : Int} : mWlk b m 0 = b := rfl
theorem mWlk_1 {b : Int → Int} {m j : Int} (h : j < 24 ∨ 64 ≤ j) (h1 : 0 ≤ m) (h2 : m < 10) : ∀ t : Nat, mWlk b m t j = b j
  | 0 => rfl
  | t + 1 => by rw [mWlk_s, mWalk_1 h h1 h2, mWlk_1 h h1 h2 t]
theorem mWlk_w {b : Int → Int} (h : WB b) {m : Int} (h1 : 0 ≤ m) (h2 : m < b 1) : ∀ t : Nat, WB (mWlk b m t)
  | 0 => h
  | t + 1 => mWalk_w (mWlk_w h h1 h2 t) h1 (by have := h.2.1; rw [mWlk_1 (by omega) h1 (by omega)]; exact h2)
def f_or8 (g : Int) : Int × Int := if g < 0 then (-1, 8) else (g, 0)
def f_governsIn (b : Int → Int) (n : Int) : Int × Int := if 0 ≤ n ∧ n ≤ 600 then f_or8 (mG (mMinN b n.toNat)) else (-1, 5)
def f_firstIn (b : Int → Int) (p : Int) : Int × Int := if 0 ≤ p ∧ p < b 0 then f_or8 (mFst b 0 p 601) else (-1, 2)
def f_carriedIn (b : Int → Int) (p : Int) : Int × Int := if 0 ≤ p ∧ p < b 2 then f_or8 (mFst b 1 p 601) else (-1, 2)
def f_emptyIn (b : Int → Int) : Int × Int := f_or8 (mFst b 2 0 601)
def f_reign (b : Int → Int) (p n : Int) : Int × Int := if 0 ≤ p ∧ p < b 0 then (if 1 ≤ n ∧ n ≤ 600 then (mRei b p n.toNat, 0) else (-1, 5)) else (-1, 2)
def f_yardsIn (b : Int → Int) (m n : Int) : Int × Int := if 0 ≤ m ∧ m < b 1 then (if 0 ≤ n ∧ n ≤ 600 then (mWlk b m n.toNat (24 + m), 0) else (-1, 5)) else (-1, 2)
theorem t_governsIn_l {d L : Nat} {σ : Sg} {n : Int} {a : Int → Int} (B : WB (σ 187)) (h8 : σ 187 8 ≤ 9999) (hK : σ 188 = cpr 126 (σ 187) a) (h0 : σ 182 0 = 0) (hn : 0 ≤ n) (hn2 : n ≤ 600) (hd : 7 ≤ d) : ∀ m : Nat, m ≤ n.toNat → Go d k_X12_governsIn 17 [vr 182, vi n, vi m] [] (SH L, sr σ 187 (mMinN (σ 187) m)) (fun v h' => ∃ r, v = some (vi r) ∧ h'.1 = SH L ∧ (r, h'.2 182 0) = f_or8 (mG (mMinN (σ 187) n.toNat)) ∧ frS σ h'.2) := by
  have s8 := B.2.2.2.2.2.2.2.2.1
  refine up_ind _ (fun m hm ih => ?_)
  exact Go.sym (cut := [17]) 16 ⟨fun c1 => ⟨⟨nb rfl, nb rfl, rfl⟩, ⟨d0 hd, nb rfl⟩, cI.det (t_governing (WB.wq (by rw [sr_e rfl]; exact mMinN_w B m)) (WB.wr (by rw [sr_e rfl]; exact mMinN_w B m)) (ds (by omega : 5 + 1 ≤ d))) ⟨⟨nb rfl, nb rfl, rfl⟩, ⟨d0 hd, nb rfl⟩, cV.det (t_gives_b hK (fun j hj => mMinN_1 B (by omega) m)) ⟨fun c2 => ⟨_, rfl, rfl, ⟨(by have e : m = n.toNat := (by first | omega | ((try simp (disch := omega) only [icond, q32_in, srM, jc_lt, jc_gt, jc_le, jc_ge, jc_eq, bi0, bi1, bin0, bin1, List.headD_cons, ne_eq, Decidable.not_not, fin01, sr_sr, sr_e, sr_n, bu_n, bu_e, sr_id, up_sr, shn] at *) <;> (try simp (disch := omega) only [q32_in, bu_n, bu_e] at *) <;> omega)); rw [← e]; unfold mG f_or8; (try simp (disch := omega) only [icond, q32_in, srM, jc_lt, jc_gt, jc_le, jc_ge, jc_eq, bi0, bi1, bin0, bin1, List.headD_cons, ne_eq, Decidable.not_not, fin01, sr_sr, sr_e, sr_n, bu_n, bu_e, sr_id, up_sr, shn] at *) <;> (try simp (disch := omega) only [q32_in, bu_n, bu_e] at *) <;> simp (disch := omega) only [if_pos, if_neg, h0]), (by repeat (first | exact frS.rfl | refine frS.st ?_))⟩⟩, fun c2 => ⟨⟨nb rfl, nb rfl, rfl⟩, ⟨d0 hd, nb rfl⟩, cI.det (t_refuse) ⟨_, rfl, rfl, ⟨(by have e : m = n.toNat := (by first | omega | ((try simp (disch := omega) only [icond, q32_in, srM, jc_lt, jc_gt, jc_le, jc_ge, jc_eq, bi0, bi1, bin0, bin1, List.headD_cons, ne_eq, Decidable.not_not, fin01, sr_sr, sr_e, sr_n, bu_n, bu_e, sr_id, up_sr, shn] at *) <;> (try simp (disch := omega) only [q32_in, bu_n, bu_e] at *) <;> omega)); rw [← e]; unfold mG f_or8; (try simp (disch := omega) only [icond, q32_in, srM, jc_lt, jc_gt, jc_le, jc_ge, jc_eq, bi0, bi1, bin0, bin1, List.headD_cons, ne_eq, Decidable.not_not, fin01, sr_sr, sr_e, sr_n, bu_n, bu_e, sr_id, up_sr, shn] at *) <;> (try simp (disch := omega) only [q32_in, bu_n, bu_e] at *) <;> simp (disch := omega) only [if_pos, if_neg, h0]), (by repeat (first | exact frS.rfl | refine frS.st ?_))⟩⟩⟩⟩⟩⟩, fun c1 => ⟨⟨nb rfl, nb rfl, rfl⟩, ⟨d0 hd, nb rfl⟩, cI.det (t_goesMinute (by rw [sr_e rfl]; exact mMinN_w B m) (by rw [sr_e rfl, mMinN_8 B]; omega) (ds (by omega : 6 + 1 ≤ d))) (Go.toh (lc rfl (lc rfl (lc (ve (by first | omega | ((try simp (disch := omega) only [icond, q32_in, srM, jc_lt, jc_gt, jc_le, jc_ge, jc_eq, bi0, bi1, bin0, bin1, List.headD_cons, ne_eq, Decidable.not_not, fin01, sr_sr, sr_e, sr_n, bu_n, bu_e, sr_id, up_sr, shn] at *) <;> (try simp (disch := omega) only [q32_in, bu_n, bu_e] at *) <;> omega))) rfl))) rfl (he (by simp (disch := omega) only [sr_sr, sr_e, mMinN_s])) (ih (m + 1) (by omega) (by first | omega | ((try simp (disch := omega) only [icond, q32_in, srM, jc_lt, jc_gt, jc_le, jc_ge, jc_eq, bi0, bi1, bin0, bin1, List.headD_cons, ne_eq, Decidable.not_not, fin01, sr_sr, sr_e, sr_n, bu_n, bu_e, sr_id, up_sr, shn] at *) <;> (try simp (disch := omega) only [q32_in, bu_n, bu_e] at *) <;> omega))))⟩⟩
theorem t_governsIn {d L : Nat} {σ : Sg} {n : Int} (B : WB (σ 187)) (h8 : σ 187 8 ≤ 9999) (hd : 7 ≤ d) : cI d m_X12_governsIn [vr 182, vi n] (SH L) σ (fun r σ' => (r, σ' 182 0) = f_governsIn (σ 187) n ∧ frK σ σ') :=
  cI.go rfl rfl (Go.sym (cut := [17]) 14 ⟨⟨rfl, (ib rfl)⟩, ⟨⟨rfl, (ib rfl)⟩, ⟨⟨nb rfl, nb rfl⟩, ⟨d0 hd, nb rfl⟩, cI.det (t_isAhead (ds (by omega : 1 + 1 ≤ d))) ⟨fun c1 => ⟨⟨nb rfl, nb rfl, rfl⟩, ⟨d0 hd, nb rfl⟩, cV.det (t_keeps) ((Go.toh rfl rfl (he (by rw [mMinN_z, sr_id] <;> rfl)) (t_governsIn_l (σ := sr (up (up σ 182 1 0) 182 0 0) 188 (cpr 126 (σ 187) (σ 188))) (n := n) (by exact B) h8 (by rfl) (by rfl) (by (try simp (disch := omega) only [icond, q32_in, srM, jc_lt, jc_gt, jc_le, jc_ge, jc_eq, bi0, bi1, bin0, bin1, List.headD_cons, ne_eq, Decidable.not_not, fin01, sr_sr, sr_e, sr_n, bu_n, bu_e, sr_id, up_sr, shn] at *) <;> (try simp (disch := omega) only [q32_in, bu_n, bu_e] at *) <;> omega) (by (try simp (disch := omega) only [icond, q32_in, srM, jc_lt, jc_gt, jc_le, jc_ge, jc_eq, bi0, bi1, bin0, bin1, List.headD_cons, ne_eq, Decidable.not_not, fin01, sr_sr, sr_e, sr_n, bu_n, bu_e, sr_id, up_sr, shn] at *) <;> (try simp (disch := omega) only [q32_in, bu_n, bu_e] at *) <;> omega) hd 0 (Nat.zero_le _))).mono (fun v h' ⟨r, q1, q2, q3, q4⟩ => ⟨r, q1, q2, by rw [q3]; (try simp (disch := omega) only [icond, q32_in, srM, jc_lt, jc_gt, jc_le, jc_ge, jc_eq, bi0, bi1, bin0, bin1, List.headD_cons, ne_eq, Decidable.not_not, fin01, sr_sr, sr_e, sr_n, bu_n, bu_e, sr_id, up_sr, shn] at *) <;> (try simp (disch := omega) only [q32_in, bu_n, bu_e] at *) <;> (unfold f_governsIn; simp (disch := omega) only [if_pos, if_neg] <;> rfl), frK.of q4⟩))⟩, fun c1 => ⟨⟨nb rfl, nb rfl, rfl⟩, ⟨d0 hd, nb rfl⟩, cI.det (t_refuse) ⟨_, rfl, rfl, ⟨(by (try simp (disch := omega) only [icond, q32_in, srM, jc_lt, jc_gt, jc_le, jc_ge, jc_eq, bi0, bi1, bin0, bin1, List.headD_cons, ne_eq, Decidable.not_not, fin01, sr_sr, sr_e, sr_n, bu_n, bu_e, sr_id, up_sr, shn] at *) <;> (try simp (disch := omega) only [q32_in, bu_n, bu_e] at *) <;> (unfold f_governsIn; simp (disch := omega) only [if_pos, if_neg])), frK.m (by repeat (first | exact frM.rfl | refine frM.st ?_ | refine frM.th ?_))⟩⟩⟩⟩⟩⟩⟩)
