/-! ===== the model: TOKENS (text laid by genmod45.py) ===== -/
theorem ub_k : ∀ k < 256, z_and (((k : Nat) : Int) - 128) 255 = if k < 128 then ((k : Nat) : Int) + 128 else ((k : Nat) : Int) - 128 := by decide +kernel
theorem ub_eq {v : Int} (h : -128 ≤ v ∧ v ≤ 127) : z_and v 255 = if v < 0 then v + 256 else v := by
  have := ub_k (v + 128).toNat (by omega)
  rw [show (((v + 128).toNat : Nat) : Int) - 128 = v by omega] at this
  rw [this]
  by_cases c : v < 0
  · rw [if_pos c, if_pos (by omega)]; omega
  · rw [if_neg c, if_neg (by omega)]; first | done | omega
def BY (y : Int → Int) : Prop := ∀ j, -128 ≤ y j ∧ y j ≤ 127
def lkv (y : Int → Int) (n p : Int) : Int := if p < n then (if y p < 0 then y p + 256 else y p) else 0
theorem lkv_r {y : Int → Int} {n p lo hi : Int} (h : BY y) (h1 : 0 < lo) (h2 : hi ≤ 127) : (lo ≤ lkv y n p ∧ lkv y n p ≤ hi) ↔ (p < n ∧ lo ≤ y p ∧ y p ≤ hi) := by
  have := h p; unfold lkv; split
  · split <;> omega
  · omega
theorem lkv_e {y : Int → Int} {n p v : Int} (h : BY y) (h1 : 0 < v) (h2 : v ≤ 127) : lkv y n p = v ↔ (p < n ∧ y p = v) := by
  have := h p; unfold lkv; split
  · split <;> omega
  · omega
theorem lkv_v {y : Int → Int} {n p : Int} (h : p < n) (h1 : 0 ≤ y p) : lkv y n p = y p := by unfold lkv; rw [if_pos h, if_neg (by omega)]
theorem lkv_b {y : Int → Int} {n p : Int} (h : BY y) : 0 ≤ lkv y n p ∧ lkv y n p ≤ 255 := by
  have := h p; unfold lkv; repeat' split
  all_goals omega
/-- behind what is skipped -/
def spN (y : Int → Int) (n : Int) : Nat → Int → Int
  | 0, p => p
  | k + 1, p => if p < n ∧ (y p = 10 ∨ y p = 32) then spN y n k (p + 1) else p
theorem spN_s {y : Int → Int} {n p : Int} {k : Nat} (h : p < n ∧ (y p = 10 ∨ y p = 32)) : spN y n (k + 1) p = spN y n k (p + 1) := if_pos h
theorem spN_o {y : Int → Int} {n p : Int} (h : ¬ (p < n ∧ (y p = 10 ∨ y p = 32))) : ∀ k, spN y n k p = p
  | 0 => rfl
  | k + 1 => if_neg h
theorem spN_r {y : Int → Int} {n : Int} : ∀ (k : Nat) (p : Int), p ≤ n → p ≤ spN y n k p ∧ spN y n k p ≤ n
  | 0, p, h => ⟨Int.le_refl _, h⟩
  | k + 1, p, h => by
    by_cases c : p < n ∧ (y p = 10 ∨ y p = 32)
    · rw [spN_s c]; have := spN_r (y := y) (n := n) k (p + 1) (by omega); omega
    · rw [spN_o c]; omega
/-- behind the signs from lo to hi -/
def rgE (y : Int → Int) (n lo hi : Int) : Nat → Int → Int
  | 0, p => p
  | k + 1, p => if p < n ∧ lo ≤ y p ∧ y p ≤ hi then rgE y n lo hi k (p + 1) else p
theorem rgE_s {y : Int → Int} {n p lo hi : Int} {k : Nat} (h : p < n ∧ lo ≤ y p ∧ y p ≤ hi) : rgE y n lo hi (k + 1) p = rgE y n lo hi k (p + 1) := if_pos h
theorem rgE_o {y : Int → Int} {n p lo hi : Int} (h : ¬ (p < n ∧ lo ≤ y p ∧ y p ≤ hi)) : ∀ k, rgE y n lo hi k p = p
  | 0 => rfl
  | k + 1 => if_neg h
theorem rgE_r {y : Int → Int} {n lo hi : Int} : ∀ (k : Nat) (p : Int), p ≤ n → p ≤ rgE y n lo hi k p ∧ rgE y n lo hi k p ≤ n
  | 0, p, h => ⟨Int.le_refl _, h⟩
  | k + 1, p, h => by
    by_cases c : p < n ∧ lo ≤ y p ∧ y p ≤ hi
    · rw [rgE_s c]; have := rgE_r (y := y) (n := n) (lo := lo) (hi := hi) k (p + 1) (by omega); omega
    · rw [rgE_o c]; omega
theorem rgE_in {y : Int → Int} {n lo hi : Int} : ∀ (k : Nat) (p j : Int), p ≤ j → j < rgE y n lo hi k p → lo ≤ y j ∧ y j ≤ hi
  | 0, p, j, h1, h2 => by unfold rgE at h2; omega
  | k + 1, p, j, h1, h2 => by
    by_cases c : p < n ∧ lo ≤ y p ∧ y p ≤ hi
    · rw [rgE_s c] at h2
      by_cases e : j = p
      · rw [e]; exact c.2
      · exact rgE_in k (p + 1) j (by omega) h2
    · rw [rgE_o c] at h2; omega
def wdV (y : Int → Int) (q : Int) : Nat → Int
  | 0 => 0
  | k + 1 => wdV y q k * 32 + (y (q + k) - 96)
theorem wdV_s {y : Int → Int} {q : Int} {k : Nat} : wdV y q (k + 1) = wdV y q k * 32 + (y (q + k) - 96) := rfl
def nmV (y : Int → Int) (q : Int) : Nat → Int
  | 0 => 0
  | k + 1 => nmV y q k * 10 + (y (q + k) - 48)
theorem nmV_s {y : Int → Int} {q : Int} {k : Nat} : nmV y q (k + 1) = nmV y q k * 10 + (y (q + k) - 48) := rfl
/-- place of the TOKEN, its kind, what is behind it, its worth -/
def tPl (y : Int → Int) (n p : Int) : Int := spN y n (n - p).toNat p
def tL (y : Int → Int) (a : Int) : Prop := 97 ≤ y a ∧ y a ≤ 122
def tD (y : Int → Int) (a : Int) : Prop := 48 ≤ y a ∧ y a ≤ 57
def tW (y : Int → Int) (n a : Int) : Int := rgE y n 97 122 (n - a).toNat a
def tN (y : Int → Int) (n a : Int) : Int := rgE y n 48 57 (n - a).toNat a
def tS (v : Int) : Prop := v = 59 ∨ v = 60 ∨ v = 62 ∨ v = 61
def kdA (y : Int → Int) (n a : Int) : Int := if n ≤ a then 0 else if 97 ≤ y a ∧ y a ≤ 122 then 1 else if 48 ≤ y a ∧ y a ≤ 57 then (if 4 < tN y n a - a then 4 else 2) else if y a = 59 ∨ y a = 60 ∨ y a = 62 ∨ y a = 61 then 3 else 4
def ntA (y : Int → Int) (n a : Int) : Int := if n ≤ a then a else if 97 ≤ y a ∧ y a ≤ 122 then tW y n a else if 48 ≤ y a ∧ y a ≤ 57 then tN y n a else a + 1
def vlA (y : Int → Int) (n a : Int) : Int := if n ≤ a then 0 else if 97 ≤ y a ∧ y a ≤ 122 then (if tW y n a - a ≤ 8 then wdV y a (tW y n a - a).toNat else 0) else if 48 ≤ y a ∧ y a ≤ 57 then nmV y a (tN y n a - a).toNat else y a
def tKd (y : Int → Int) (n p : Int) : Int := kdA y n (tPl y n p)
def tNt (y : Int → Int) (n p : Int) : Int := ntA y n (tPl y n p)
def tVl (y : Int → Int) (n p : Int) : Int := vlA y n (tPl y n p)
/-- the model's own words: a WORD of too many letters is -1, digits behind the fourth are let be -/
def mWd (y : Int → Int) (a : Int) : Nat → Int
  | 0 => 0
  | k + 1 => if (k : Int) < 8 then mWd y a k * 32 + y (a + k) - 96 else -1
theorem mWd_s {y : Int → Int} {q : Int} {k : Nat} : mWd y q (k + 1) = if (k : Int) < 8 then mWd y q k * 32 + y (q + k) - 96 else -1 := rfl
def mNm (y : Int → Int) (a : Int) : Nat → Int
  | 0 => 0
  | k + 1 => if (k : Int) < 4 then 10 * mNm y a k + y (a + k) - 48 else mNm y a k
theorem mNm_s {y : Int → Int} {q : Int} {k : Nat} : mNm y q (k + 1) = if (k : Int) < 4 then 10 * mNm y q k + y (q + k) - 48 else mNm y q k := rfl
theorem mWd_w {y : Int → Int} {a : Int} : ∀ k : Nat, k ≤ 8 → mWd y a k = wdV y a k
  | 0, _ => rfl
  | k + 1, h => by rw [mWd_s, wdV_s, if_pos (by omega), mWd_w k (by omega)]; omega
theorem mWd_l {y : Int → Int} {a : Int} : ∀ k : Nat, 8 < k → mWd y a k = -1
  | 0, h => by omega
  | k + 1, h => by rw [mWd_s, if_neg (by omega)]
theorem mNm_w {y : Int → Int} {a : Int} : ∀ k : Nat, k ≤ 4 → mNm y a k = nmV y a k
  | 0, _ => rfl
  | k + 1, h => by rw [mNm_s, nmV_s, if_pos (by omega), mNm_w k (by omega)]; omega
theorem mWd_p {y : Int → Int} {a : Int} : ∀ k : Nat, k ≤ 8 → (∀ j, a ≤ j → j < a + k → 97 ≤ y j ∧ y j ≤ 122) → 0 ≤ mWd y a k ∧ mWd y a k < 32 ^ k
  | 0, _, _ => by unfold mWd; decide
  | k + 1, hk, h => by
    have ih := mWd_p (y := y) (a := a) k (by omega) (fun j h1 h2 => h j h1 (by omega))
    have hy := h (a + k) (by omega) (by omega)
    have e : (32 : Int) ^ (k + 1) = 32 ^ k * 32 := Int.pow_succ ..
    rw [mWd_s, e, if_pos (by omega)]
    omega
theorem mWd_b {y : Int → Int} {a : Int} (k : Nat) (h : ∀ j, a ≤ j → j < a + k → 97 ≤ y j ∧ y j ≤ 122) : -1 ≤ mWd y a k ∧ mWd y a k < 1099511627776 := by
  by_cases c : k ≤ 8
  · have := mWd_p k c h
    have hp : (32 : Nat) ^ k ≤ 32 ^ 8 := Nat.pow_le_pow_right (by decide) c
    have hq : ((32 ^ k : Nat) : Int) ≤ 1099511627776 := by omega
    push_cast at hq
    omega
  · rw [mWd_l k (by omega)]; decide
theorem mNm_b {y : Int → Int} {a : Int} : ∀ k : Nat, (∀ j, a ≤ j → j < a + k → 48 ≤ y j ∧ y j ≤ 57) → 0 ≤ mNm y a k ∧ mNm y a k ≤ 9999
  | 0, _ => by unfold mNm; decide
  | 1, h => by have := h (a + (0 : Nat)) (by omega) (by omega); rw [mNm_s, if_pos (by decide)]; unfold mNm; omega
  | 2, h => by
    have h0 := h (a + (0 : Nat)) (by omega) (by omega); have h1 := h (a + (1 : Nat)) (by omega) (by omega)
    rw [mNm_s, mNm_s, if_pos (by decide), if_pos (by decide)]; unfold mNm; omega
  | 3, h => by
    have h0 := h (a + (0 : Nat)) (by omega) (by omega); have h1 := h (a + (1 : Nat)) (by omega) (by omega); have h2 := h (a + (2 : Nat)) (by omega) (by omega)
    rw [mNm_s, mNm_s, mNm_s, if_pos (by decide), if_pos (by decide), if_pos (by decide)]; unfold mNm; omega
  | 4, h => by
    have h0 := h (a + (0 : Nat)) (by omega) (by omega); have h1 := h (a + (1 : Nat)) (by omega) (by omega); have h2 := h (a + (2 : Nat)) (by omega) (by omega); have h3 := h (a + (3 : Nat)) (by omega) (by omega)
    rw [mNm_s, mNm_s, mNm_s, mNm_s, if_pos (by decide), if_pos (by decide), if_pos (by decide), if_pos (by decide)]; unfold mNm; omega
  | k + 5, h => by
    have ih := mNm_b (y := y) (a := a) (k + 4) (fun j h1 h2 => h j h1 (by omega))
    rw [mNm_s, if_neg (by omega)]; exact ih
theorem t_look2 {d L : Nat} {σ : Sg} {p : Int} (hn : σ 182 9 ≤ 900) (hp : 0 ≤ p) (hy : BY (σ 186)) : cI d m_X12_look2 [vr 182, vi p] (SH L) σ (fun r σ' => r = lkv (σ 186) (σ 182 9) p ∧ σ' = σ) :=
  cI.go rfl rfl (Go.sym (cut := []) 13 ⟨rfl, ⟨fun c1 => ⟨_, rfl, rfl, ⟨(by have hb := hy p; have hu := ub_eq hb; unfold lkv; (try clear ih) <;> (try clear hV) <;> (try clear K) <;> (try clear KS) <;> (try simp only [icond, nc, bi0, bi1, bin0, bin1, ne_eq, Decidable.not_not] at *) <;> (try simp (disch := omega) only [icond, q32_in, srM, srN, jc_lt, jc_gt, jc_le, jc_ge, jc_eq, bi0, bi1, bin0, bin1, List.headD_cons, ne_eq, Decidable.not_not, fin01, nc, not_true_eq_false, not_false_eq_true, false_and, and_false, true_and, and_true, false_or, or_false, sr_sr, sr_e, sr_n, bu_n, bu_e, sr_id, up_sr, shn] at *) <;> (try simp (disch := omega) only [q32_in, bu_n, bu_e] at *) <;> first | (exfalso; omega) | (rw [if_pos (by omega)]; exact hu) | (rw [if_neg (by omega)])), rfl⟩⟩, fun c1 => ⟨rfl, ⟨⟨rfl, (by first | omega | ((try clear ih) <;> (try clear hV) <;> (try clear K) <;> (try clear KS) <;> (try simp only [icond, nc, bi0, bi1, bin0, bin1, ne_eq, Decidable.not_not] at *) <;> (try simp (disch := omega) only [icond, q32_in, srM, srN, jc_lt, jc_gt, jc_le, jc_ge, jc_eq, bi0, bi1, bin0, bin1, List.headD_cons, ne_eq, Decidable.not_not, fin01, nc, not_true_eq_false, not_false_eq_true, false_and, and_false, true_and, and_true, false_or, or_false, sr_sr, sr_e, sr_n, bu_n, bu_e, sr_id, up_sr, shn] at *) <;> (try simp (disch := omega) only [q32_in, bu_n, bu_e] at *) <;> omega)), (by first | omega | ((try clear ih) <;> (try clear hV) <;> (try clear K) <;> (try clear KS) <;> (try simp only [icond, nc, bi0, bi1, bin0, bin1, ne_eq, Decidable.not_not] at *) <;> (try simp (disch := omega) only [icond, q32_in, srM, srN, jc_lt, jc_gt, jc_le, jc_ge, jc_eq, bi0, bi1, bin0, bin1, List.headD_cons, ne_eq, Decidable.not_not, fin01, nc, not_true_eq_false, not_false_eq_true, false_and, and_false, true_and, and_true, false_or, or_false, sr_sr, sr_e, sr_n, bu_n, bu_e, sr_id, up_sr, shn] at *) <;> (try simp (disch := omega) only [q32_in, bu_n, bu_e] at *) <;> omega))⟩, ⟨_, rfl, rfl, ⟨(by have hb := hy p; have hu := ub_eq hb; unfold lkv; (try clear ih) <;> (try clear hV) <;> (try clear K) <;> (try clear KS) <;> (try simp only [icond, nc, bi0, bi1, bin0, bin1, ne_eq, Decidable.not_not] at *) <;> (try simp (disch := omega) only [icond, q32_in, srM, srN, jc_lt, jc_gt, jc_le, jc_ge, jc_eq, bi0, bi1, bin0, bin1, List.headD_cons, ne_eq, Decidable.not_not, fin01, nc, not_true_eq_false, not_false_eq_true, false_and, and_false, true_and, and_true, false_or, or_false, sr_sr, sr_e, sr_n, bu_n, bu_e, sr_id, up_sr, shn] at *) <;> (try simp (disch := omega) only [q32_in, bu_n, bu_e] at *) <;> first | (exfalso; omega) | (rw [if_pos (by omega)]; exact hu) | (rw [if_neg (by omega)])), rfl⟩⟩⟩⟩⟩⟩)
theorem t_isLetter {d L : Nat} {σ : Sg} {x : Int} : cI d m_X12_isLetter [vi x] (SH L) σ (fun r σ' => r = bi (97 ≤ x ∧ x ≤ 122) ∧ σ' = σ) :=
  cI.go rfl rfl (Go.sym (cut := []) 10 ⟨fun c1 => ⟨(by decide), ⟨_, rfl, rfl, ⟨(by (try clear ih) <;> (try clear hV) <;> (try clear K) <;> (try clear KS) <;> (try simp only [icond, nc, bi0, bi1, bin0, bin1, ne_eq, Decidable.not_not] at *) <;> (try simp (disch := omega) only [icond, q32_in, srM, srN, jc_lt, jc_gt, jc_le, jc_ge, jc_eq, bi0, bi1, bin0, bin1, List.headD_cons, ne_eq, Decidable.not_not, fin01, nc, not_true_eq_false, not_false_eq_true, false_and, and_false, true_and, and_true, false_or, or_false, sr_sr, sr_e, sr_n, bu_n, bu_e, sr_id, up_sr, shn] at *) <;> (try simp (disch := omega) only [q32_in, bu_n, bu_e] at *) <;> (unfold bi; simp (disch := omega) only [if_pos, if_neg])), rfl⟩⟩⟩, fun c1 => ⟨fun c2 => ⟨(by decide), ⟨_, rfl, rfl, ⟨(by (try clear ih) <;> (try clear hV) <;> (try clear K) <;> (try clear KS) <;> (try simp only [icond, nc, bi0, bi1, bin0, bin1, ne_eq, Decidable.not_not] at *) <;> (try simp (disch := omega) only [icond, q32_in, srM, srN, jc_lt, jc_gt, jc_le, jc_ge, jc_eq, bi0, bi1, bin0, bin1, List.headD_cons, ne_eq, Decidable.not_not, fin01, nc, not_true_eq_false, not_false_eq_true, false_and, and_false, true_and, and_true, false_or, or_false, sr_sr, sr_e, sr_n, bu_n, bu_e, sr_id, up_sr, shn] at *) <;> (try simp (disch := omega) only [q32_in, bu_n, bu_e] at *) <;> (unfold bi; simp (disch := omega) only [if_pos, if_neg])), rfl⟩⟩⟩, fun c2 => ⟨(by decide), ⟨_, rfl, rfl, ⟨(by (try clear ih) <;> (try clear hV) <;> (try clear K) <;> (try clear KS) <;> (try simp only [icond, nc, bi0, bi1, bin0, bin1, ne_eq, Decidable.not_not] at *) <;> (try simp (disch := omega) only [icond, q32_in, srM, srN, jc_lt, jc_gt, jc_le, jc_ge, jc_eq, bi0, bi1, bin0, bin1, List.headD_cons, ne_eq, Decidable.not_not, fin01, nc, not_true_eq_false, not_false_eq_true, false_and, and_false, true_and, and_true, false_or, or_false, sr_sr, sr_e, sr_n, bu_n, bu_e, sr_id, up_sr, shn] at *) <;> (try simp (disch := omega) only [q32_in, bu_n, bu_e] at *) <;> (unfold bi; simp (disch := omega) only [if_pos, if_neg])), rfl⟩⟩⟩⟩⟩)
theorem t_isDigit {d L : Nat} {σ : Sg} {x : Int} : cI d m_X12_isDigit [vi x] (SH L) σ (fun r σ' => r = bi (48 ≤ x ∧ x ≤ 57) ∧ σ' = σ) :=
  cI.go rfl rfl (Go.sym (cut := []) 10 ⟨fun c1 => ⟨(by decide), ⟨_, rfl, rfl, ⟨(by (try clear ih) <;> (try clear hV) <;> (try clear K) <;> (try clear KS) <;> (try simp only [icond, nc, bi0, bi1, bin0, bin1, ne_eq, Decidable.not_not] at *) <;> (try simp (disch := omega) only [icond, q32_in, srM, srN, jc_lt, jc_gt, jc_le, jc_ge, jc_eq, bi0, bi1, bin0, bin1, List.headD_cons, ne_eq, Decidable.not_not, fin01, nc, not_true_eq_false, not_false_eq_true, false_and, and_false, true_and, and_true, false_or, or_false, sr_sr, sr_e, sr_n, bu_n, bu_e, sr_id, up_sr, shn] at *) <;> (try simp (disch := omega) only [q32_in, bu_n, bu_e] at *) <;> (unfold bi; simp (disch := omega) only [if_pos, if_neg])), rfl⟩⟩⟩, fun c1 => ⟨fun c2 => ⟨(by decide), ⟨_, rfl, rfl, ⟨(by (try clear ih) <;> (try clear hV) <;> (try clear K) <;> (try clear KS) <;> (try simp only [icond, nc, bi0, bi1, bin0, bin1, ne_eq, Decidable.not_not] at *) <;> (try simp (disch := omega) only [icond, q32_in, srM, srN, jc_lt, jc_gt, jc_le, jc_ge, jc_eq, bi0, bi1, bin0, bin1, List.headD_cons, ne_eq, Decidable.not_not, fin01, nc, not_true_eq_false, not_false_eq_true, false_and, and_false, true_and, and_true, false_or, or_false, sr_sr, sr_e, sr_n, bu_n, bu_e, sr_id, up_sr, shn] at *) <;> (try simp (disch := omega) only [q32_in, bu_n, bu_e] at *) <;> (unfold bi; simp (disch := omega) only [if_pos, if_neg])), rfl⟩⟩⟩, fun c2 => ⟨(by decide), ⟨_, rfl, rfl, ⟨(by (try clear ih) <;> (try clear hV) <;> (try clear K) <;> (try clear KS) <;> (try simp only [icond, nc, bi0, bi1, bin0, bin1, ne_eq, Decidable.not_not] at *) <;> (try simp (disch := omega) only [icond, q32_in, srM, srN, jc_lt, jc_gt, jc_le, jc_ge, jc_eq, bi0, bi1, bin0, bin1, List.headD_cons, ne_eq, Decidable.not_not, fin01, nc, not_true_eq_false, not_false_eq_true, false_and, and_false, true_and, and_true, false_or, or_false, sr_sr, sr_e, sr_n, bu_n, bu_e, sr_id, up_sr, shn] at *) <;> (try simp (disch := omega) only [q32_in, bu_n, bu_e] at *) <;> (unfold bi; simp (disch := omega) only [if_pos, if_neg])), rfl⟩⟩⟩⟩⟩)
theorem t_isSignByte {d L : Nat} {σ : Sg} {x : Int} : cI d m_X12_isSignByte [vr 182, vi x] (SH L) σ (fun r σ' => r = bi (x = 59 ∨ x = 60 ∨ x = 62 ∨ x = 61) ∧ σ' = σ) :=
  cI.go rfl rfl (Go.sym (cut := []) 16 ⟨fun c1 => ⟨(by decide), ⟨_, rfl, rfl, ⟨(by (try clear ih) <;> (try clear hV) <;> (try clear K) <;> (try clear KS) <;> (try simp only [icond, nc, bi0, bi1, bin0, bin1, ne_eq, Decidable.not_not] at *) <;> (try simp (disch := omega) only [icond, q32_in, srM, srN, jc_lt, jc_gt, jc_le, jc_ge, jc_eq, bi0, bi1, bin0, bin1, List.headD_cons, ne_eq, Decidable.not_not, fin01, nc, not_true_eq_false, not_false_eq_true, false_and, and_false, true_and, and_true, false_or, or_false, sr_sr, sr_e, sr_n, bu_n, bu_e, sr_id, up_sr, shn] at *) <;> (try simp (disch := omega) only [q32_in, bu_n, bu_e] at *) <;> (unfold bi; simp (disch := omega) only [if_pos, if_neg])), rfl⟩⟩⟩, fun c1 => ⟨fun c2 => ⟨(by decide), ⟨_, rfl, rfl, ⟨(by (try clear ih) <;> (try clear hV) <;> (try clear K) <;> (try clear KS) <;> (try simp only [icond, nc, bi0, bi1, bin0, bin1, ne_eq, Decidable.not_not] at *) <;> (try simp (disch := omega) only [icond, q32_in, srM, srN, jc_lt, jc_gt, jc_le, jc_ge, jc_eq, bi0, bi1, bin0, bin1, List.headD_cons, ne_eq, Decidable.not_not, fin01, nc, not_true_eq_false, not_false_eq_true, false_and, and_false, true_and, and_true, false_or, or_false, sr_sr, sr_e, sr_n, bu_n, bu_e, sr_id, up_sr, shn] at *) <;> (try simp (disch := omega) only [q32_in, bu_n, bu_e] at *) <;> (unfold bi; simp (disch := omega) only [if_pos, if_neg])), rfl⟩⟩⟩, fun c2 => ⟨fun c3 => ⟨(by decide), ⟨_, rfl, rfl, ⟨(by (try clear ih) <;> (try clear hV) <;> (try clear K) <;> (try clear KS) <;> (try simp only [icond, nc, bi0, bi1, bin0, bin1, ne_eq, Decidable.not_not] at *) <;> (try simp (disch := omega) only [icond, q32_in, srM, srN, jc_lt, jc_gt, jc_le, jc_ge, jc_eq, bi0, bi1, bin0, bin1, List.headD_cons, ne_eq, Decidable.not_not, fin01, nc, not_true_eq_false, not_false_eq_true, false_and, and_false, true_and, and_true, false_or, or_false, sr_sr, sr_e, sr_n, bu_n, bu_e, sr_id, up_sr, shn] at *) <;> (try simp (disch := omega) only [q32_in, bu_n, bu_e] at *) <;> (unfold bi; simp (disch := omega) only [if_pos, if_neg])), rfl⟩⟩⟩, fun c3 => ⟨fun c4 => ⟨(by decide), ⟨_, rfl, rfl, ⟨(by (try clear ih) <;> (try clear hV) <;> (try clear K) <;> (try clear KS) <;> (try simp only [icond, nc, bi0, bi1, bin0, bin1, ne_eq, Decidable.not_not] at *) <;> (try simp (disch := omega) only [icond, q32_in, srM, srN, jc_lt, jc_gt, jc_le, jc_ge, jc_eq, bi0, bi1, bin0, bin1, List.headD_cons, ne_eq, Decidable.not_not, fin01, nc, not_true_eq_false, not_false_eq_true, false_and, and_false, true_and, and_true, false_or, or_false, sr_sr, sr_e, sr_n, bu_n, bu_e, sr_id, up_sr, shn] at *) <;> (try simp (disch := omega) only [q32_in, bu_n, bu_e] at *) <;> (unfold bi; simp (disch := omega) only [if_pos, if_neg])), rfl⟩⟩⟩, fun c4 => ⟨(by decide), ⟨_, rfl, rfl, ⟨(by (try clear ih) <;> (try clear hV) <;> (try clear K) <;> (try clear KS) <;> (try simp only [icond, nc, bi0, bi1, bin0, bin1, ne_eq, Decidable.not_not] at *) <;> (try simp (disch := omega) only [icond, q32_in, srM, srN, jc_lt, jc_gt, jc_le, jc_ge, jc_eq, bi0, bi1, bin0, bin1, List.headD_cons, ne_eq, Decidable.not_not, fin01, nc, not_true_eq_false, not_false_eq_true, false_and, and_false, true_and, and_true, false_or, or_false, sr_sr, sr_e, sr_n, bu_n, bu_e, sr_id, up_sr, shn] at *) <;> (try simp (disch := omega) only [q32_in, bu_n, bu_e] at *) <;> (unfold bi; simp (disch := omega) only [if_pos, if_neg])), rfl⟩⟩⟩⟩⟩⟩⟩)
