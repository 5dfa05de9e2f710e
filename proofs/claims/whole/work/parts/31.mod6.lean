/-! ===== the model: a MINUTE goes by (text laid by genmod6.py) ===== -/
theorem Go.toh {d : Nat} {code : List MI} {i : Nat} {ls ls' st st' : List MV} {h h' : MH} {Q : Option MV → MH → Prop} (e1 : ls' = ls) (e2 : st' = st) (e3 : h' = h) (hg : Go d code i ls' st' h' Q) : Go d code i ls st h Q := by subst e1 e2 e3; exact hg
theorem he {S : MSh} {f g : Sg} (h : f = g) : (S, f) = (S, g) := by rw [h]
def mWalkN (b : Int → Int) : Nat → Int → Int
  | 0 => b
  | k + 1 => mWalk (mWalkN b k) k
theorem mWalkN_s {b : Int → Int} {k : Nat} : mWalkN b (k + 1) = mWalk (mWalkN b k) k := rfl
theorem mWalkN_z {b : Int → Int} : mWalkN b 0 = b := rfl
theorem mWalkN_1 {b : Int → Int} {j : Int} (h : j < 24 ∨ 64 ≤ j) : ∀ {k : Nat}, k ≤ 10 → mWalkN b k j = b j
  | 0, _ => rfl
  | k + 1, hk => by rw [mWalkN_s, mWalk_1 h (by omega) (by omega)]; exact mWalkN_1 h (by omega)
theorem mWalkN_w {b : Int → Int} (h : WB b) : ∀ {k : Nat}, (k : Int) ≤ b 1 → WB (mWalkN b k)
  | 0, _ => h
  | k + 1, hk => by
    have h1 := h.2.1
    have e : mWalkN b k 1 = b 1 := mWalkN_1 (by omega) (by omega)
    exact mWalk_w (mWalkN_w h (by omega)) (by omega) (by rw [e]; omega)
def mTick (b : Int → Int) : Int → Int := bu (mWalkN b (b 1).toNat) 8 (b 8 + 1)
def mRing (b : Int → Int) : Int := (b 8 + 1).tmod (b 7)
def mMin (b : Int → Int) : Int → Int := if mRing b = 0 then (if mG (mTick b) < 0 then bu (mTick b) 9 (b 9 + 1) else bu (mTick b) (10 + mG (mTick b)) (b (10 + mG (mTick b)) + 1)) else mTick b
theorem mGov_r {b : Int → Int} {n : Nat} : ∀ p : Nat, -1 ≤ (mGov b n p).1 ∧ (mGov b n p).1 < p
  | 0 => by unfold mGov; omega
  | p + 1 => by
    have := mGov_r (b := b) (n := n) p
    rw [mGov_s]
    split
    · omega
    · show -1 ≤ (if _ then _ else _) ∧ (if _ then _ else _) < _
      split <;> omega
theorem mG_r {b : Int → Int} (h : 0 ≤ b 0) : -1 ≤ mG b ∧ mG b < b 0 := by
  have := mGov_r (b := b) (n := (b 1).toNat) (b 0).toNat
  unfold mG; omega
theorem mTick_1 {b : Int → Int} {j : Int} (h : j < 24 ∨ 64 ≤ j) (h8 : j ≠ 8) (hb : b 1 ≤ 10) : mTick b j = b j := by
  unfold mTick; rw [bu_n h8]; exact mWalkN_1 h (by omega)
theorem mTick_8 {b : Int → Int} : mTick b 8 = b 8 + 1 := bu_e rfl
/-- the clock and the rows of bells -/
theorem WB.bell {b : Int → Int} (h : WB b) {j v w : Int} (h1 : 9 ≤ j) (h2 : j ≤ 13) (hv : b 8 ≤ v) (hw : 0 ≤ w ∧ w ≤ v) : WB (bu (bu b 8 v) j w) := by
  obtain ⟨s0, s1, s2, s3, s4, s5, s6, s7, s8, s9, sM, sK, sR⟩ := h
  refine ⟨?_, ?_, ?_, ?_, ?_, ?_, ?_, ?_, ?_, fun i j1 j2 => ?_, fun m' j1 j2 => ?_, fun k j1 j2 => ?_, fun r j1 j2 => ?_⟩
  · simp (disch := omega) only [bu_n]; exact s0
  · simp (disch := omega) only [bu_n]; exact s1
  · simp (disch := omega) only [bu_n]; exact s2
  · simp (disch := omega) only [bu_n]; exact s3
  · simp (disch := omega) only [bu_n]; exact s4
  · simp (disch := omega) only [bu_n]; exact s5
  · simp (disch := omega) only [bu_n]; exact s6
  · simp (disch := omega) only [bu_n]; exact s7
  · simp (disch := omega) only [bu_n, bu_e]; omega
  · have := s9 i j1 j2
    by_cases e : i = j
    · simp (disch := omega) only [bu_n, bu_e]; omega
    · simp (disch := omega) only [bu_n, bu_e]; omega
  · simp (disch := omega) only [bu_n] at j2
    have q := sM m' j1 j2
    unfold WM at q ⊢
    simp (disch := omega) only [bu_n]; exact q
  · simp (disch := omega) only [bu_n] at j2 ⊢; exact sK k j1 j2
  · simp (disch := omega) only [bu_n] at j2 ⊢; exact sR r j1 j2
theorem bu_id {b : Int → Int} {j : Int} : bu b j (b j) = b := by
  funext x; unfold bu; split <;> first | rfl | (rename_i h; rw [h])
theorem bu_cm {b : Int → Int} {j k v w : Int} (h : j ≠ k) : bu (bu b j v) k w = bu (bu b k w) j v := by
  funext x; unfold bu
  by_cases e : x = k
  · by_cases e2 : x = j
    · omega
    · rw [if_pos e, if_neg e2, if_pos e]
  · by_cases e2 : x = j
    · rw [if_neg e, if_pos e2, if_pos e2]
    · rw [if_neg e, if_neg e2, if_neg e2, if_neg e]
theorem mTick_w {b : Int → Int} (h : WB b) : WB (mTick b) := by
  have h1 := h.2.1
  have hw := mWalkN_w h (k := (b 1).toNat) (by omega)
  have h9 := hw.2.2.2.2.2.2.2.2.2.1 9 (by omega) (by omega)
  have e : mWalkN b (b 1).toNat 8 = b 8 := mWalkN_1 (by omega) (by omega)
  have := hw.bell (j := 9) (v := b 8 + 1) (w := mWalkN b (b 1).toNat 9) (by omega) (by omega) (by omega) (by omega)
  rw [bu_cm (by omega), bu_id] at this
  exact this
theorem mMin_w {b : Int → Int} (h : WB b) : WB (mMin b) := by
  have h1 := h.2.1
  have hw := mTick_w h
  have hg := mG_r (b := mTick b) hw.1.1
  have h0 := hw.1
  have h9 := h.2.2.2.2.2.2.2.2.2.1
  have e8 : mTick b 8 = b 8 + 1 := mTick_8
  unfold mMin
  split
  · split
    · have := hw.bell (j := 9) (v := b 8 + 1) (w := b 9 + 1) (by omega) (by omega) (by omega) (by have := h9 9; omega)
      rw [show bu (mTick b) 8 (b 8 + 1) = mTick b by rw [← e8, bu_id]] at this
      exact this
    · have := hw.bell (j := 10 + mG (mTick b)) (v := b 8 + 1) (w := b (10 + mG (mTick b)) + 1) (by omega) (by omega) (by omega) (by have := h9 (10 + mG (mTick b)) (by omega) (by omega); omega)
      rw [show bu (mTick b) 8 (b 8 + 1) = mTick b by rw [← e8, bu_id]] at this
      exact this
  · exact hw
def mRg (c : Int → Int) : Int → Int := if (c 8).tmod (c 7) = 0 then (if mG c < 0 then bu c 9 (c 9 + 1) else bu c (10 + mG c) (c (10 + mG c) + 1)) else c
theorem mMin_rg {b : Int → Int} (h : WB b) : mMin b = mRg (mTick b) := by
  have h1 := h.2.1
  have hw := mTick_w h
  have hg := mG_r (b := mTick b) hw.1.1
  have h0 := hw.1
  unfold mMin mRg mRing
  rw [mTick_8, mTick_1 (j := 7) (by omega) (by omega) (by omega), mTick_1 (j := 9) (by omega) (by omega) (by omega)]
  split
  · split
    · rfl
    · rw [mTick_1 (j := 10 + mG (mTick b)) (by omega) (by omega) (by omega)]
  · rfl
theorem t_goesMinute_t {d L : Nat} {σ : Sg} (W : WB (σ 187)) (hm : σ 187 8 ≤ 30000) (hd : 6 ≤ d) (v1 : MV) : Go d k_X12_goesMinute 21 [vr 182, v1] [] (SH L, σ) (fun v h' => ∃ r, v = some (vi r) ∧ h'.1 = SH L ∧ r = bi ((σ 187 8).tmod (σ 187 7) = 0) ∧ h'.2 = sr σ 187 (mRg (σ 187))) := by
  have hg := mG_r (b := σ 187) W.1.1
  have h0 := W.1
  have h7 := W.2.2.2.2.2.2.2.1
  unfold mG at hg
  have h9 := W.2.2.2.2.2.2.2.2.2.1 9 (by omega) (by omega)
  have hb : 0 ≤ (mGov (σ 187) (σ 187 1).toNat (σ 187 0).toNat).1 → 0 ≤ σ 187 (10 + (mGov (σ 187) (σ 187 1).toNat (σ 187 0).toNat).1) ∧ σ 187 (10 + (mGov (σ 187) (σ 187 1).toNat (σ 187 0).toNat).1) ≤ σ 187 8 := fun q => W.2.2.2.2.2.2.2.2.2.1 _ (by omega) (by omega)
  exact Go.sym (cut := []) 28 ⟨rfl, ⟨⟨rfl, (il rfl), (ib rfl)⟩, ⟨rfl, ⟨⟨rfl, (il rfl), (ib rfl)⟩, ⟨(by first | omega | ((try simp (disch := omega) only [icond, q32_in, srM, jc_lt, jc_gt, jc_le, jc_ge, jc_eq, bi0, bi1, bin0, bin1, List.headD_cons, ne_eq, Decidable.not_not, fin01, sr_sr, sr_e, sr_n, bu_n, bu_e, sr_id, up_sr, shn] at *) <;> (try simp (disch := omega) only [q32_in, bu_n, bu_e] at *) <;> omega)), ⟨fun c1 => ⟨⟨nb rfl, nb rfl, rfl⟩, ⟨d0 hd, nb rfl⟩, cI.det (t_governing W.wq W.wr (ds hd)) ⟨fun c2 => ⟨rfl, ⟨⟨rfl, (by first | omega | ((try simp (disch := omega) only [icond, q32_in, srM, jc_lt, jc_gt, jc_le, jc_ge, jc_eq, bi0, bi1, bin0, bin1, List.headD_cons, ne_eq, Decidable.not_not, fin01, sr_sr, sr_e, sr_n, bu_n, bu_e, sr_id, up_sr, shn] at *) <;> (try simp (disch := omega) only [q32_in, bu_n, bu_e] at *) <;> omega)), (by first | omega | ((try simp (disch := omega) only [icond, q32_in, srM, jc_lt, jc_gt, jc_le, jc_ge, jc_eq, bi0, bi1, bin0, bin1, List.headD_cons, ne_eq, Decidable.not_not, fin01, sr_sr, sr_e, sr_n, bu_n, bu_e, sr_id, up_sr, shn] at *) <;> (try simp (disch := omega) only [q32_in, bu_n, bu_e] at *) <;> omega))⟩, ⟨⟨rfl, (ib rfl), (by first | omega | ((try simp (disch := omega) only [icond, q32_in, srM, jc_lt, jc_gt, jc_le, jc_ge, jc_eq, bi0, bi1, bin0, bin1, List.headD_cons, ne_eq, Decidable.not_not, fin01, sr_sr, sr_e, sr_n, bu_n, bu_e, sr_id, up_sr, shn] at *) <;> (try simp (disch := omega) only [q32_in, bu_n, bu_e] at *) <;> omega)), (by first | omega | ((try simp (disch := omega) only [icond, q32_in, srM, jc_lt, jc_gt, jc_le, jc_ge, jc_eq, bi0, bi1, bin0, bin1, List.headD_cons, ne_eq, Decidable.not_not, fin01, sr_sr, sr_e, sr_n, bu_n, bu_e, sr_id, up_sr, shn] at *) <;> (try simp (disch := omega) only [q32_in, bu_n, bu_e] at *) <;> omega))⟩, ⟨(by decide), ⟨_, rfl, rfl, ⟨(by (try simp (disch := omega) only [icond, q32_in, srM, jc_lt, jc_gt, jc_le, jc_ge, jc_eq, bi0, bi1, bin0, bin1, List.headD_cons, ne_eq, Decidable.not_not, fin01, sr_sr, sr_e, sr_n, bu_n, bu_e, sr_id, up_sr, shn] at *) <;> (try simp (disch := omega) only [q32_in, bu_n, bu_e] at *) <;> first | exact (bi_t (by assumption)).symm | exact (bi_f (by assumption)).symm), (by (try simp (disch := omega) only [icond, q32_in, srM, jc_lt, jc_gt, jc_le, jc_ge, jc_eq, bi0, bi1, bin0, bin1, List.headD_cons, ne_eq, Decidable.not_not, fin01, sr_sr, sr_e, sr_n, bu_n, bu_e, sr_id, up_sr, shn] at *) <;> (try simp (disch := omega) only [q32_in, bu_n, bu_e] at *) <;> (unfold mRg mG; simp (disch := omega) only [if_pos, if_neg, ite_true, ite_false, sr_id]))⟩⟩⟩⟩⟩⟩, fun c2 => ⟨rfl, ⟨⟨rfl, (il rfl), (ib rfl)⟩, ⟨⟨rfl, (ib rfl), (il rfl), (ib rfl)⟩, ⟨(by decide), ⟨_, rfl, rfl, ⟨(by (try simp (disch := omega) only [icond, q32_in, srM, jc_lt, jc_gt, jc_le, jc_ge, jc_eq, bi0, bi1, bin0, bin1, List.headD_cons, ne_eq, Decidable.not_not, fin01, sr_sr, sr_e, sr_n, bu_n, bu_e, sr_id, up_sr, shn] at *) <;> (try simp (disch := omega) only [q32_in, bu_n, bu_e] at *) <;> first | exact (bi_t (by assumption)).symm | exact (bi_f (by assumption)).symm), (by (try simp (disch := omega) only [icond, q32_in, srM, jc_lt, jc_gt, jc_le, jc_ge, jc_eq, bi0, bi1, bin0, bin1, List.headD_cons, ne_eq, Decidable.not_not, fin01, sr_sr, sr_e, sr_n, bu_n, bu_e, sr_id, up_sr, shn] at *) <;> (try simp (disch := omega) only [q32_in, bu_n, bu_e] at *) <;> (unfold mRg mG; simp (disch := omega) only [if_pos, if_neg, ite_true, ite_false, sr_id]))⟩⟩⟩⟩⟩⟩⟩⟩, fun c1 => ⟨(by decide), ⟨_, rfl, rfl, ⟨(by (try simp (disch := omega) only [icond, q32_in, srM, jc_lt, jc_gt, jc_le, jc_ge, jc_eq, bi0, bi1, bin0, bin1, List.headD_cons, ne_eq, Decidable.not_not, fin01, sr_sr, sr_e, sr_n, bu_n, bu_e, sr_id, up_sr, shn] at *) <;> (try simp (disch := omega) only [q32_in, bu_n, bu_e] at *) <;> first | exact (bi_t (by assumption)).symm | exact (bi_f (by assumption)).symm), (by (try simp (disch := omega) only [icond, q32_in, srM, jc_lt, jc_gt, jc_le, jc_ge, jc_eq, bi0, bi1, bin0, bin1, List.headD_cons, ne_eq, Decidable.not_not, fin01, sr_sr, sr_e, sr_n, bu_n, bu_e, sr_id, up_sr, shn] at *) <;> (try simp (disch := omega) only [q32_in, bu_n, bu_e] at *) <;> (unfold mRg mG; simp (disch := omega) only [if_pos, if_neg, ite_true, ite_false, sr_id]))⟩⟩⟩⟩⟩⟩⟩⟩⟩
theorem t_goesMinute_l {d L : Nat} {σ : Sg} (W : WB (σ 187)) (h8 : σ 187 8 < 30000) (hd : 6 ≤ d) : ∀ m : Nat, m ≤ (σ 187 1).toNat → Go d k_X12_goesMinute 2 [vr 182, vi m] [] (SH L, sr σ 187 (mWalkN (σ 187) m)) (fun v h' => ∃ r, v = some (vi r) ∧ h'.1 = SH L ∧ r = bi ((sr σ 187 (mTick (σ 187)) 187 8).tmod (sr σ 187 (mTick (σ 187)) 187 7) = 0) ∧ h'.2 = sr (sr σ 187 (mTick (σ 187))) 187 (mRg (sr σ 187 (mTick (σ 187)) 187))) := by
  have s1 := W.2.1
  have s8 := W.2.2.2.2.2.2.2.2.1
  refine up_ind _ (fun m hm ih => ?_)
  exact Go.sym (cut := [2, 13]) 12 ⟨rfl, ⟨⟨rfl, (il rfl), (ib rfl)⟩, ⟨fun c1 => (Go.sym (cut := [21]) 20 ⟨rfl, ⟨⟨rfl, (il rfl), (ib rfl)⟩, ⟨⟨rfl, (ib rfl), (il rfl), (ib rfl)⟩, Go.toh rfl rfl (he (by have e : m = (σ 187 1).toNat := (by first | omega | (have e1 : mWalkN (σ 187) m 1 = σ 187 1 := mWalkN_1 (by omega) (by omega); (try simp (disch := omega) only [icond, q32_in, srM, jc_lt, jc_gt, jc_le, jc_ge, jc_eq, bi0, bi1, bin0, bin1, List.headD_cons, ne_eq, Decidable.not_not, fin01, sr_sr, sr_e, sr_n, bu_n, bu_e, sr_id, up_sr, shn] at *) <;> (try simp (disch := omega) only [q32_in, bu_n, bu_e] at *) <;> omega)); have e8 : mWalkN (σ 187) m 8 = σ 187 8 := mWalkN_1 (by omega) (by omega); (try simp (disch := omega) only [srM, sr_sr, sr_e, up_sr]); (try rw [e8]); (try simp (disch := omega) only [q32_in]) <;> (unfold mTick; rw [← e]))) (t_goesMinute_t (σ := sr σ 187 (mTick (σ 187))) (by rw [sr_e rfl]; exact mTick_w W) (by rw [sr_e rfl, mTick_8]; omega) hd _)⟩⟩⟩), fun c1 => ⟨⟨nb rfl, nb rfl, rfl⟩, ⟨d0 hd, nb rfl⟩, cV.det (t_walks (by omega) (by first | omega | (have e1 : mWalkN (σ 187) m 1 = σ 187 1 := mWalkN_1 (by omega) (by omega); (try simp (disch := omega) only [icond, q32_in, srM, jc_lt, jc_gt, jc_le, jc_ge, jc_eq, bi0, bi1, bin0, bin1, List.headD_cons, ne_eq, Decidable.not_not, fin01, sr_sr, sr_e, sr_n, bu_n, bu_e, sr_id, up_sr, shn] at *) <;> (try simp (disch := omega) only [q32_in, bu_n, bu_e] at *) <;> omega)) (by rw [sr_e rfl]; exact mWalkN_w W (by omega)) (ds (by omega : 2 + 1 ≤ d))) (Go.toh (lc rfl (lc (ve (by first | omega | (have e1 : mWalkN (σ 187) m 1 = σ 187 1 := mWalkN_1 (by omega) (by omega); (try simp (disch := omega) only [icond, q32_in, srM, jc_lt, jc_gt, jc_le, jc_ge, jc_eq, bi0, bi1, bin0, bin1, List.headD_cons, ne_eq, Decidable.not_not, fin01, sr_sr, sr_e, sr_n, bu_n, bu_e, sr_id, up_sr, shn] at *) <;> (try simp (disch := omega) only [q32_in, bu_n, bu_e] at *) <;> omega))) rfl)) rfl (he (by simp (disch := omega) only [sr_sr, sr_e, mWalkN_s])) (ih (m + 1) (by omega) (by first | omega | (have e1 : mWalkN (σ 187) m 1 = σ 187 1 := mWalkN_1 (by omega) (by omega); (try simp (disch := omega) only [icond, q32_in, srM, jc_lt, jc_gt, jc_le, jc_ge, jc_eq, bi0, bi1, bin0, bin1, List.headD_cons, ne_eq, Decidable.not_not, fin01, sr_sr, sr_e, sr_n, bu_n, bu_e, sr_id, up_sr, shn] at *) <;> (try simp (disch := omega) only [q32_in, bu_n, bu_e] at *) <;> omega))))⟩⟩⟩⟩
theorem t_goesMinute {d L : Nat} {σ : Sg} (W : WB (σ 187)) (h8 : σ 187 8 < 30000) (hd : 6 ≤ d) : cI d m_X12_goesMinute [vr 182] (SH L) σ (fun r σ' => r = bi (mRing (σ 187) = 0) ∧ σ' = sr σ 187 (mMin (σ 187))) :=
  cI.go rfl rfl (Go.sym (cut := [2]) 3 ((Go.toh rfl rfl (he (by rw [mWalkN_z, sr_id])) (t_goesMinute_l (σ := σ) W h8 hd 0 (Nat.zero_le _))).mono (fun v h' ⟨r, q1, q2, q3, q4⟩ => ⟨r, q1, q2, by rw [q3]; have s1 := W.2.1; unfold mRing; rw [sr_e rfl, mTick_8, mTick_1 (by omega) (by omega) (by omega)], by rw [q4, sr_sr, sr_e rfl, mMin_rg W]⟩)))
