/-! ===== the model: TALLIES (text laid by genmod33.py) ===== -/
def mTld (b y : Int → Int) (t : Int) : Nat → Int
  | 0 => 1
  | k + 1 => if mTld b y t k = 1 ∧ mPow b (z_shl 1 k) (b 1).toNat = y (60 * t + k) then 1 else 0
theorem mTld_s {b y : Int → Int} {t : Int} {k : Nat} : mTld b y t (k + 1) = if mTld b y t k = 1 ∧ mPow b (z_shl 1 k) (b 1).toNat = y (60 * t + k) then 1 else 0 := rfl
theorem mTld_r {b y : Int → Int} {t : Int} : ∀ k : Nat, mTld b y t k = 0 ∨ mTld b y t k = 1
  | 0 => Or.inr rfl
  | k + 1 => by rw [mTld_s]; split <;> simp
theorem mTld_k {b y : Int → Int} {t : Int} {k : Nat} (h : mTld b y t k = 0) : ∀ i : Nat, mTld b y t (k + i) = 0
  | 0 => h
  | i + 1 => by rw [show k + (i + 1) = (k + i) + 1 by omega, mTld_s, if_neg (by rw [mTld_k h i]; simp)]
theorem mTld_j {b y : Int → Int} {t : Int} {k n : Nat} (h : mTld b y t k = 0) (hn : k ≤ n) : mTld b y t n = 0 := by
  have := mTld_k h (n - k); rwa [show k + (n - k) = n by omega] at this
def mWy (b : Int → Int) (all s n : Int) : Int → Int := fun j => if (24 ≤ j ∧ j < 24 + n) ∧ hasb all (j - 24) = 1 then (if hasb s (j - 24) = 1 then 999 else 0) else b j
theorem mWy_1 {b : Int → Int} {all s n j : Int} (hn : n ≤ 10) (h : j < 24 ∨ 34 ≤ j) : mWy b all s n j = b j := if_neg (by omega)
theorem mWy_z {b : Int → Int} {all s : Int} : mWy b all s ((0 : Nat) : Int) = b := by funext j; unfold mWy; rw [if_neg (by omega)]
theorem mWy_y {b : Int → Int} {all s : Int} {m : Nat} (h : hasb all m = 1) : mWy b all s ((m + 1 : Nat) : Int) = bu (mWy b all s m) (24 + m) (if hasb s m = 1 then 999 else 0) := by
  funext j; unfold bu
  by_cases e : j = 24 + m
  · rw [if_pos e]; unfold mWy
    rw [show j - 24 = (m : Int) by omega, if_pos (by constructor; omega; exact h)]
  · rw [if_neg e]; unfold mWy
    by_cases c : (24 ≤ j ∧ j < 24 + (m : Int)) ∧ hasb all (j - 24) = 1
    · rw [if_pos c, if_pos (by constructor; omega; exact c.2)]
    · rw [if_neg c, if_neg (fun x => c ⟨by omega, x.2⟩)]
theorem mWy_n {b : Int → Int} {all s : Int} {m : Nat} (h : ¬ hasb all m = 1) : mWy b all s ((m + 1 : Nat) : Int) = mWy b all s m := by
  funext j; unfold mWy
  by_cases c : (24 ≤ j ∧ j < 24 + (m : Int)) ∧ hasb all (j - 24) = 1
  · rw [if_pos c, if_pos (by constructor; omega; exact c.2)]
  · rw [if_neg c, if_neg (fun x => by
      by_cases e : j = 24 + m
      · rw [show j - 24 = (m : Int) by omega] at x; exact h x.2
      · exact c ⟨by omega, x.2⟩)]
/-- the same but for the yards of those who can walk -/
def mAg (b c : Int → Int) (all : Int) : Prop := ∀ j, ¬ ((24 ≤ j ∧ j < 24 + b 1) ∧ hasb all (j - 24) = 1) → c j = b j
theorem mAg.wy {b c : Int → Int} {all s : Int} (h : mAg b c all) : mWy c all s (b 1) = mWy b all s (b 1) := by
  funext j; unfold mWy
  by_cases q : (24 ≤ j ∧ j < 24 + b 1) ∧ hasb all (j - 24) = 1
  · rw [if_pos q, if_pos q]
  · rw [if_neg q, if_neg q]; exact h j q
theorem mAg.of {b : Int → Int} {all s : Int} : mAg b (mWy b all s (b 1)) all := fun j q => if_neg q
theorem mWy_w {b : Int → Int} (B : WB b) {all s : Int} : ∀ {n : Nat}, (n : Int) ≤ b 1 → WB (mWy b all s n)
  | 0, _ => by rw [mWy_z]; exact B
  | n + 1, hn => by
    have hs1 := B.2.1
    have ih := mWy_w B (all := all) (s := s) (n := n) (by omega)
    have e1 : mWy b all s n 1 = b 1 := mWy_1 (by omega) (by omega)
    by_cases h : hasb all n = 1
    · rw [mWy_y h]; exact ih.mem (m := n) (f := 24) (by omega) (by omega) (Or.inl ⟨rfl, by split <;> omega⟩)
    · rw [mWy_n h]; exact ih
theorem mWy_wb {b : Int → Int} (B : WB b) {all s : Int} : WB (mWy b all s (b 1)) := by
  have := mWy_w B (all := all) (s := s) (n := (b 1).toNat) (by have := B.2.1; omega)
  rwa [show (((b 1).toNat : Nat) : Int) = b 1 by have := B.2.1; omega] at this
def mAwy (s : Int) (f : Int → Int) : Int → Int := fun m => f m + if hasb s m = 1 then 1 else 0
def mWays (b y : Int → Int) (t : Int) : Nat → Int × Int × (Int → Int)
  | 0 => (0, mAll b, fun _ => 0)
  | s + 1 => if ¬ z_and s (z_xor (mAll b) (-1)) = 0 then mWays b y t s
    else if mTld (mWy b (mAll b) s (b 1)) y t (b 0).toNat = 1 then ((mWays b y t s).1 + 1, z_and (mWays b y t s).2.1 s, mAwy s (mWays b y t s).2.2) else mWays b y t s
theorem mWays_s {b y : Int → Int} {t : Int} {s : Nat} : mWays b y t (s + 1) = if ¬ z_and s (z_xor (mAll b) (-1)) = 0 then mWays b y t s
    else if mTld (mWy b (mAll b) s (b 1)) y t (b 0).toNat = 1 then ((mWays b y t s).1 + 1, z_and (mWays b y t s).2.1 s, mAwy s (mWays b y t s).2.2) else mWays b y t s := rfl
theorem mWays_r {b y : Int → Int} {t : Int} : ∀ s : Nat, (0 ≤ (mWays b y t s).1 ∧ (mWays b y t s).1 ≤ s) ∧ ∀ m, 0 ≤ (mWays b y t s).2.2 m ∧ (mWays b y t s).2.2 m ≤ (mWays b y t s).1
  | 0 => by unfold mWays; simp
  | s + 1 => by
    have ih := mWays_r (b := b) (y := y) (t := t) s
    rw [mWays_s]
    split
    · exact ⟨by omega, ih.2⟩
    · split
      · refine ⟨by dsimp only; omega, fun m => ?_⟩
        have := ih.2 m
        dsimp only [mAwy]; split <;> omega
      · exact ⟨by omega, ih.2⟩
/-- row of the first ten -/
def r10 (n : Int) (f g : Int → Int) : Int → Int := fun j => if 0 ≤ j ∧ j < n then f j else g j
theorem r10_z {f g : Int → Int} : r10 ((0 : Nat) : Int) f g = g := by funext j; unfold r10; rw [if_neg (by omega)]
theorem r10_in {n j : Int} {f g : Int → Int} (h : 0 ≤ j ∧ j < n) : r10 n f g j = f j := if_pos h
theorem r10_out {n j : Int} {f g : Int → Int} (h : ¬ (0 ≤ j ∧ j < n)) : r10 n f g j = g j := if_neg h
theorem r10_s {f g : Int → Int} {m : Nat} {v : Int} (h : v = f m) : bu (r10 m f g) m v = r10 ((m + 1 : Nat) : Int) f g := by
  funext j; unfold bu r10
  by_cases e : j = m
  · rw [if_pos e, if_pos (by omega), h, e]
  · rw [if_neg e]
    by_cases c : 0 ≤ j ∧ j < (m : Int)
    · rw [if_pos c, if_pos (by omega)]
    · rw [if_neg c, if_neg (by omega)]
theorem r10_r {n : Int} {f f' g : Int → Int} : r10 n f (r10 n f' g) = r10 n f g := by
  funext j; unfold r10
  by_cases c : 0 ≤ j ∧ j < n
  · rw [if_pos c, if_pos c]
  · rw [if_neg c, if_neg c, if_neg c]
theorem t_isTold_l {d L : Nat} {σ : Sg} {t : Int} (B : WB (σ 187)) (ht : 0 ≤ t ∧ t < 4) (hd : 5 ≤ d) : ∀ m : Nat, m ≤ (σ 187 0).toNat → mTld (σ 187) (σ 185) t m = 1 → Go d k_X12_isTold 2 [vr 182, vi t, vi m] [] (SH L, σ) (fun v h' => ∃ r, v = some (vi r) ∧ h'.1 = SH L ∧ r = mTld (σ 187) (σ 185) t (σ 187 0).toNat ∧ h'.2 = σ) := by
  have hB0 := B.1
  refine up_ind _ (fun m hm ih hT => ?_)
  exact Go.sym (cut := [2]) 21 ⟨rfl, ⟨⟨rfl, (il rfl), (ib rfl)⟩, ⟨fun c1 => ⟨(by decide), ⟨_, rfl, rfl, ⟨(by (try clear ih) <;> (try clear hV) <;> (try clear K) <;> (try clear KS) <;> (try simp only [icond, nc, bi0, bi1, bin0, bin1, ne_eq, Decidable.not_not] at *) <;> (try simp (disch := omega) only [icond, q32_in, srM, srN, jc_lt, jc_gt, jc_le, jc_ge, jc_eq, bi0, bi1, bin0, bin1, List.headD_cons, ne_eq, Decidable.not_not, fin01, nc, not_true_eq_false, not_false_eq_true, false_and, and_false, true_and, and_true, false_or, or_false, sr_sr, sr_e, sr_n, bu_n, bu_e, sr_id, up_sr, shn] at *) <;> (try simp (disch := omega) only [q32_in, bu_n, bu_e] at *) <;> first | (rw [show (σ 187 0).toNat = m by omega]; exact hT.symm) | exact (mTld_j (k := m + 1) (by rw [mTld_s, if_neg (by omega)]) (by omega)).symm), rfl⟩⟩⟩, fun c1 => ⟨⟨nb rfl, nb rfl, rfl⟩, ⟨d0 hd, nb rfl⟩, cI.det (t_powerOfAll (by exact B.wq) (ds (by omega : 4 + 1 ≤ d))) ⟨⟨nb rfl, nb rfl, rfl⟩, ⟨d0 hd, nb rfl⟩, cL.det (t_numberOf ht (by first | omega | ((try clear ih) <;> (try clear hV) <;> (try clear K) <;> (try clear KS) <;> (try simp only [icond, nc, bi0, bi1, bin0, bin1, ne_eq, Decidable.not_not] at *) <;> (try simp (disch := omega) only [icond, q32_in, srM, srN, jc_lt, jc_gt, jc_le, jc_ge, jc_eq, bi0, bi1, bin0, bin1, List.headD_cons, ne_eq, Decidable.not_not, fin01, nc, not_true_eq_false, not_false_eq_true, false_and, and_false, true_and, and_true, false_or, or_false, sr_sr, sr_e, sr_n, bu_n, bu_e, sr_id, up_sr, shn] at *) <;> (try simp (disch := omega) only [q32_in, bu_n, bu_e] at *) <;> omega))) ⟨fun c2 => (Go.to (lc rfl (lc rfl (lc (ve (by first | omega | ((try clear ih) <;> (try clear hV) <;> (try clear K) <;> (try clear KS) <;> (try simp only [icond, nc, bi0, bi1, bin0, bin1, ne_eq, Decidable.not_not] at *) <;> (try simp (disch := omega) only [icond, q32_in, srM, srN, jc_lt, jc_gt, jc_le, jc_ge, jc_eq, bi0, bi1, bin0, bin1, List.headD_cons, ne_eq, Decidable.not_not, fin01, nc, not_true_eq_false, not_false_eq_true, false_and, and_false, true_and, and_true, false_or, or_false, sr_sr, sr_e, sr_n, bu_n, bu_e, sr_id, up_sr, shn] at *) <;> (try simp (disch := omega) only [q32_in, bu_n, bu_e] at *) <;> omega))) rfl))) rfl (ih (m + 1) (by omega) (by first | omega | ((try clear ih) <;> (try clear hV) <;> (try clear K) <;> (try clear KS) <;> (try simp only [icond, nc, bi0, bi1, bin0, bin1, ne_eq, Decidable.not_not] at *) <;> (try simp (disch := omega) only [icond, q32_in, srM, srN, jc_lt, jc_gt, jc_le, jc_ge, jc_eq, bi0, bi1, bin0, bin1, List.headD_cons, ne_eq, Decidable.not_not, fin01, nc, not_true_eq_false, not_false_eq_true, false_and, and_false, true_and, and_true, false_or, or_false, sr_sr, sr_e, sr_n, bu_n, bu_e, sr_id, up_sr, shn] at *) <;> (try simp (disch := omega) only [q32_in, bu_n, bu_e] at *) <;> omega)) (by (try clear ih) <;> (try clear hV) <;> (try clear K) <;> (try clear KS) <;> (try simp only [icond, nc, bi0, bi1, bin0, bin1, ne_eq, Decidable.not_not] at *) <;> (try simp (disch := omega) only [icond, q32_in, srM, srN, jc_lt, jc_gt, jc_le, jc_ge, jc_eq, bi0, bi1, bin0, bin1, List.headD_cons, ne_eq, Decidable.not_not, fin01, nc, not_true_eq_false, not_false_eq_true, false_and, and_false, true_and, and_true, false_or, or_false, sr_sr, sr_e, sr_n, bu_n, bu_e, sr_id, up_sr, shn] at *) <;> (try simp (disch := omega) only [q32_in, bu_n, bu_e] at *) <;> (rw [mTld_s, if_pos (by constructor <;> omega)])))), fun c2 => ⟨(by decide), ⟨_, rfl, rfl, ⟨(by (try clear ih) <;> (try clear hV) <;> (try clear K) <;> (try clear KS) <;> (try simp only [icond, nc, bi0, bi1, bin0, bin1, ne_eq, Decidable.not_not] at *) <;> (try simp (disch := omega) only [icond, q32_in, srM, srN, jc_lt, jc_gt, jc_le, jc_ge, jc_eq, bi0, bi1, bin0, bin1, List.headD_cons, ne_eq, Decidable.not_not, fin01, nc, not_true_eq_false, not_false_eq_true, false_and, and_false, true_and, and_true, false_or, or_false, sr_sr, sr_e, sr_n, bu_n, bu_e, sr_id, up_sr, shn] at *) <;> (try simp (disch := omega) only [q32_in, bu_n, bu_e] at *) <;> first | (rw [show (σ 187 0).toNat = m by omega]; exact hT.symm) | exact (mTld_j (k := m + 1) (by rw [mTld_s, if_neg (by omega)]) (by omega)).symm), rfl⟩⟩⟩⟩⟩⟩⟩⟩⟩
theorem t_isTold {d L : Nat} {σ : Sg} {t : Int} (B : WB (σ 187)) (ht : 0 ≤ t ∧ t < 4) (hd : 5 ≤ d) : cI d m_X12_isTold [vr 182, vi t] (SH L) σ (fun r σ' => r = mTld (σ 187) (σ 185) t (σ 187 0).toNat ∧ σ' = σ) :=
  cI.go rfl rfl (Go.sym (cut := [2]) 3 (t_isTold_l B ht hd 0 (Nat.zero_le _) rfl))
