/-! ===== the order of SEEK, in numbers (text laid by gencls43.py) ===== -/
def Sgt (b : Int → Int) (q r : Int) : Prop := b (120 + r) * b (114 + q) < b (120 + q) * b (114 + r)
def Ahd (b : Int → Int) (q r : Int) : Prop := Sgt b q r ∨ (¬ Sgt b r q ∧ q < r)
theorem Sgt.m {b : Int → Int} {q r : Int} : mSoo b q r = 1 ↔ Sgt b q r := by
  unfold mSoo Sgt; split <;> simp [*]
theorem Sgt.as {b : Int → Int} {q r : Int} (h : Sgt b q r) : ¬ Sgt b r q := by unfold Sgt at *; omega
theorem Ahd.ge {b : Int → Int} {q r : Int} (h : Ahd b q r) : ¬ Sgt b r q := by
  rcases h with h | h
  · exact h.as
  · exact h.1
theorem Ahd.as {b : Int → Int} {q r : Int} (h : Ahd b q r) (h2 : Ahd b r q) : False := by
  rcases h with h | h
  · exact h2.ge h
  · rcases h2 with h2 | h2
    · exact h.1 h2
    · omega
theorem ge_tr {oq tq os ts or tr : Int} (hq : 1 ≤ tq) (hs : 1 ≤ ts) (hr : 1 ≤ tr) (h1 : os * tq ≤ oq * ts) (h2 : or * ts ≤ os * tr) : or * tq ≤ oq * tr := by
  have a1 : (or * ts) * tq ≤ (os * tr) * tq := Int.mul_le_mul_of_nonneg_right h2 (by omega)
  have a2 : (os * tq) * tr ≤ (oq * ts) * tr := Int.mul_le_mul_of_nonneg_right h1 (by omega)
  have e1 : (or * tq) * ts = (or * ts) * tq := by rw [Int.mul_assoc, Int.mul_comm tq ts, ← Int.mul_assoc]
  have e2 : (os * tr) * tq = (os * tq) * tr := by rw [Int.mul_assoc, Int.mul_comm tr tq, ← Int.mul_assoc]
  have e3 : (oq * tr) * ts = (oq * ts) * tr := by rw [Int.mul_assoc, Int.mul_comm tr ts, ← Int.mul_assoc]
  exact Int.le_of_mul_le_mul_right (by omega : (or * tq) * ts ≤ (oq * tr) * ts) (by omega)
theorem gt_tr {oq tq os ts or tr : Int} (hq : 1 ≤ tq) (hs : 1 ≤ ts) (hr : 1 ≤ tr) (h1 : os * tq < oq * ts) (h2 : or * ts ≤ os * tr) : or * tq < oq * tr := by
  have a1 : (or * ts) * tq ≤ (os * tr) * tq := Int.mul_le_mul_of_nonneg_right h2 (by omega)
  have a2 : (os * tq) * tr < (oq * ts) * tr := Int.mul_lt_mul_of_pos_right h1 (by omega)
  have e1 : (or * tq) * ts = (or * ts) * tq := by rw [Int.mul_assoc, Int.mul_comm tq ts, ← Int.mul_assoc]
  have e2 : (os * tr) * tq = (os * tq) * tr := by rw [Int.mul_assoc, Int.mul_comm tr tq, ← Int.mul_assoc]
  have e3 : (oq * tr) * ts = (oq * ts) * tr := by rw [Int.mul_assoc, Int.mul_comm tr ts, ← Int.mul_assoc]
  exact Int.lt_of_mul_lt_mul_right (by omega : (or * tq) * ts < (oq * tr) * ts) (by omega)
def Rm (b : Int → Int) (q : Int) : Prop := 0 ≤ q ∧ q < b 3
theorem Rm.t {b : Int → Int} (B : WB b) {q : Int} (h : Rm b q) : 1 ≤ b (114 + q) := (B.2.2.2.2.2.2.2.2.2.2.2.2 q h.1 h.2).1.1
theorem nS_tr {b : Int → Int} (B : WB b) {q s r : Int} (hq : Rm b q) (hs : Rm b s) (hr : Rm b r) (h1 : ¬ Sgt b s q) (h2 : ¬ Sgt b r s) : ¬ Sgt b r q := by
  unfold Sgt at *
  have := ge_tr (hq.t B) (hs.t B) (hr.t B) (show b (120 + s) * b (114 + q) ≤ b (120 + q) * b (114 + s) by omega) (show b (120 + r) * b (114 + s) ≤ b (120 + s) * b (114 + r) by omega)
  omega
theorem gS_tr {b : Int → Int} (B : WB b) {q s r : Int} (hq : Rm b q) (hs : Rm b s) (hr : Rm b r) (h1 : Sgt b q s) (h2 : ¬ Sgt b r s) : Sgt b q r := by
  unfold Sgt at *
  exact gt_tr (hq.t B) (hs.t B) (hr.t B) h1 (by omega)
/-- a row that holds the first r ROOMS in order -/
def Odr (b o : Int → Int) (r : Int) : Prop := (∀ i, 0 ≤ i → i < r → 0 ≤ o i ∧ o i < r) ∧ (∀ i j, 0 ≤ i → i < j → j < r → Ahd b (o i) (o j)) ∧ (∀ q, 0 ≤ q → q < r → ∃ i, (0 ≤ i ∧ i < r) ∧ o i = q)
/-- the room r is being laid in; the gap is at p -/
def Ins (b o o' : Int → Int) (r p : Int) : Prop := (∀ i, 0 ≤ i → i < p → o' i = o i) ∧ (∀ i, p ≤ i → i < r → o' (i + 1) = o i) ∧ (∀ i, p ≤ i → i < r → Sgt b r (o i))
theorem Ins.st {b o o' : Int → Int} {r p : Int} (h : Ins b o o' r p) (hp : 0 < p) (hs : Sgt b r (o' (p - 1))) : Ins b o (bu o' p (o' (p - 1))) r (p - 1) := by
  obtain ⟨h1, h2, h3⟩ := h
  refine ⟨fun i x y => by rw [bu_n (by omega)]; exact h1 i x (by omega), fun i x y => ?_, fun i x y => ?_⟩
  · by_cases e : i + 1 = p
    · rw [bu_e e, h1 (p - 1) (by omega) (by omega)]; congr 1; omega
    · rw [bu_n e]; exact h2 i (by omega) y
  · by_cases e : i = p - 1
    · rw [e, ← h1 (p - 1) (by omega) (by omega)]; exact hs
    · exact h3 i (by omega) y
theorem Ins.fin {b o o' : Int → Int} {r p : Int} (h : Ins b o o' r p) (O : Odr b o r) (B : WB b) (hr : 0 ≤ r ∧ r < b 3) (hp : 0 ≤ p ∧ p ≤ r) (hx : p = 0 ∨ ¬ Sgt b r (o' (p - 1))) : Odr b (bu o' p r) (r + 1) := by
  obtain ⟨h1, h2, h3⟩ := h
  obtain ⟨o1, o2, o3⟩ := O
  have v1 : ∀ i, 0 ≤ i → i < p → bu o' p r i = o i := fun i x y => by rw [bu_n (by omega)]; exact h1 i x y
  have v2 : ∀ i, p < i → i < r + 1 → bu o' p r i = o (i - 1) := fun i x y => by
    rw [bu_n (by omega)]; have := h2 (i - 1) (by omega) (by omega); rwa [show i - 1 + 1 = i by omega] at this
  have v3 : bu o' p r p = r := bu_e rfl
  have lo : ∀ i, 0 ≤ i → i < p → Ahd b (o i) r := fun i x y => by
    have q := o1 i x (by omega)
    refine Or.inr ⟨?_, q.2⟩
    rcases hx with hx | hx
    · omega
    · rw [h1 (p - 1) (by omega) (by omega)] at hx
      by_cases e : i = p - 1
      · rw [e]; exact hx
      · have q2 := o1 (p - 1) (by omega) (by omega)
        exact nS_tr B (s := o (p - 1)) ⟨q.1, by omega⟩ ⟨q2.1, by omega⟩ hr (o2 i (p - 1) x (by omega) (by omega)).ge hx
  refine ⟨fun i x y => ?_, fun i j x y z => ?_, fun q x y => ?_⟩
  · by_cases c1 : i < p
    · rw [v1 i x c1]; have := o1 i x (by omega); omega
    · by_cases c2 : i = p
      · rw [c2, v3]; omega
      · rw [v2 i (by omega) y]; have := o1 (i - 1) (by omega) (by omega); omega
  · by_cases c1 : i < p
    · rw [v1 i x c1]
      by_cases c2 : j < p
      · rw [v1 j (by omega) c2]; exact o2 i j x y (by omega)
      · by_cases c3 : j = p
        · rw [c3, v3]; exact lo i x c1
        · rw [v2 j (by omega) z]; exact o2 i (j - 1) x (by omega) (by omega)
    · by_cases c2 : i = p
      · rw [c2, v3, v2 j (by omega) z]; exact Or.inl (h3 (j - 1) (by omega) (by omega))
      · rw [v2 i (by omega) (by omega), v2 j (by omega) z]; exact o2 (i - 1) (j - 1) (by omega) (by omega) (by omega)
  · by_cases e : q = r
    · exact ⟨p, by omega, by rw [v3, e]⟩
    · obtain ⟨i, ⟨i1, i2⟩, i3⟩ := o3 q x (by omega)
      by_cases c : i < p
      · exact ⟨i, by omega, by rw [v1 i i1 c]; exact i3⟩
      · exact ⟨i + 1, by omega, by rw [v2 (i + 1) (by omega) (by omega), show i + 1 - 1 = i by omega]; exact i3⟩
theorem sel_m {b : Int → Int} (B : WB b) {l : Int} : ∀ n : Nat, (n : Int) ≤ b 3 → 0 ≤ mSel b l n → ∀ y : Nat, y < n → hasb l y = 1 → ¬ (y : Int) = mSel b l n → Ahd b (mSel b l n) y
  | 0, _, _, y, hy, _, _ => by omega
  | r + 1, hn, h0, y, hy, hl, ne => by
    have ih := sel_m B (l := l) r (by omega)
    have sr := mSel_r (b := b) (l := l) r
    rw [mSel_s] at h0 ne ⊢
    by_cases c : hasb l r = 1 ∧ (mSel b l r < 0 ∨ mSoo b r (mSel b l r) = 1)
    · rw [if_pos c] at ne ⊢
      have yr : y < r := by omega
      have s0 := mSel_p (b := b) hl r yr
      have sg : Sgt b r (mSel b l r) := by
        rcases c.2 with c2 | c2
        · omega
        · exact Sgt.m.mp c2
      by_cases e : (y : Int) = mSel b l r
      · rw [e]; exact Or.inl sg
      · have a := ih s0 y yr hl e
        exact Or.inl (gS_tr B (s := mSel b l r) ⟨by omega, by omega⟩ ⟨s0, by omega⟩ ⟨by omega, by omega⟩ sg a.ge)
    · rw [if_neg c] at h0 ne ⊢
      by_cases e : y = r
      · subst e
        exact Or.inr ⟨fun x => c ⟨hl, Or.inr (Sgt.m.mpr x)⟩, by omega⟩
      · exact ih h0 y (by omega) hl ne
theorem Odr.sel {b o : Int → Int} (O : Odr b o (b 3)) (B : WB b) : ∀ k : Nat, (k : Int) ≤ b 3 → (∀ q : Nat, (q : Int) < b 3 → (hasb (mLf b k) q = 1 ↔ ∀ i, 0 ≤ i → i < (k : Int) → ¬ o i = q)) ∧ ∀ i : Nat, i < k → mOrd b i = o i
  | 0, _ => by
    have h3 := B.2.2.2.1
    refine ⟨fun q hq => ⟨fun _ i x y => by omega, fun _ => ?_⟩, fun i h => by omega⟩
    have := (full6 (b 3).toNat (by omega)).2 q (by omega)
    rw [show (((b 3).toNat : Nat) : Int) = b 3 by omega] at this
    exact this
  | k + 1, hk => by
    have h3 := B.2.2.2.1
    obtain ⟨i1, i2⟩ := O.sel B k (by omega)
    have lr := (mLf_r (b := b) h3 k (by omega)).1
    obtain ⟨o1, o2, o3⟩ := O
    have ok := o1 k (by omega) (by omega)
    have kin : hasb (mLf b k) (o k).toNat = 1 := (i1 (o k).toNat (by omega)).mpr (fun i x y e => by
      rw [show (((o k).toNat : Nat) : Int) = o k by omega] at e
      have := o2 i k x y (by omega)
      rw [e] at this; exact this.as this)
    have s0 := mSel_p (b := b) kin (b 3).toNat (by omega)
    have sr := mSel_r (b := b) (l := mLf b k) (b 3).toNat
    have sh := mSel_h (b := b) (l := mLf b k) (b 3).toNat s0
    have e : mSel b (mLf b k) (b 3).toNat = o k := by
      by_cases q : o k = mSel b (mLf b k) (b 3).toNat
      · exact q.symm
      · exfalso
        have a := sel_m B (l := mLf b k) (b 3).toNat (by omega) s0 (o k).toNat (by omega) kin (by rw [show (((o k).toNat : Nat) : Int) = o k by omega]; exact q)
        rw [show (((o k).toNat : Nat) : Int) = o k by omega] at a
        obtain ⟨j, ⟨j1, j2⟩, j3⟩ := o3 (mSel b (mLf b k) (b 3).toNat) s0 (by omega)
        have jk : ¬ j < (k : Int) := fun x => by
          have := (i1 (mSel b (mLf b k) (b 3).toNat).toNat (by omega)).mp (by rw [show (((mSel b (mLf b k) (b 3).toNat).toNat : Nat) : Int) = mSel b (mLf b k) (b 3).toNat by omega]; exact sh) j j1 x
          exact this (by rw [j3]; omega)
        by_cases jj : j = k
        · rw [jj] at j3; exact q j3
        · have := o2 k j (by omega) (by omega) j2
          rw [j3] at this
          exact this.as a
    refine ⟨fun q hq => ?_, fun i hi => ?_⟩
    · rw [mLf_s, e]
      have ou := (out6 (mLf b k).toNat (by omega) (o k).toNat (by omega)).2 q (by omega)
      rw [show (((mLf b k).toNat : Nat) : Int) = mLf b k by omega, show (((o k).toNat : Nat) : Int) = o k by omega] at ou
      rw [ou]
      by_cases c : q = (o k).toNat
      · rw [if_pos c]
        constructor
        · intro x; omega
        · intro x; exact absurd (by omega) (x k (by omega) (by omega))
      · rw [if_neg c, i1 q hq]
        constructor
        · intro x i a d
          by_cases z : i = k
          · rw [z]; omega
          · exact x i a (by omega)
        · intro x i a d; exact x i a (by omega)
    · by_cases z : i = k
      · subst z; unfold mOrd; rw [show ((i : Nat) : Int).toNat = i by omega]; exact e
      · exact i2 i (by omega)
theorem Odr.o {b o : Int → Int} (O : Odr b o (b 3)) (B : WB b) {k : Int} (h1 : 0 ≤ k) (h2 : k < b 3) : mOrd b k = o k := by
  have h3 := B.2.2.2.1
  have := (O.sel B (b 3).toNat (by omega)).2 k.toNat (by omega)
  rwa [show ((k.toNat : Nat) : Int) = k by omega] at this
theorem Odr.z {b o : Int → Int} : Odr b o ((0 : Nat) : Int) := ⟨fun i x y => by omega, fun i j x y z => by omega, fun q x y => by omega⟩
theorem mul_60 {x y : Int} (hx : 0 ≤ x ∧ x ≤ 16) (hy : 1 ≤ y ∧ y ≤ 60) : 0 ≤ x * y ∧ x * y ≤ 960 := by
  constructor
  · exact Int.mul_nonneg (by omega) (by omega)
  · calc x * y ≤ 16 * y := Int.mul_le_mul_of_nonneg_right hx.2 (by omega)
      _ ≤ 16 * 60 := Int.mul_le_mul_of_nonneg_left hy.2 (by decide)
theorem u_isSought {d L : Nat} {σ : Sg} {b : Int → Int} {r q : Int} (hA : Asm σ 20 b) (B : WB b) (hr : Rm b r) (hq : Rm b q) : cI d m_X0_isSoughtAhead [vr 20, vi r, vi q] (SH L) σ (fun R9 σ' => R9 = mSoo b r q ∧ σ' = σ) :=
  have hA6 := hA.2.2.2.2.2; have x1 : σ 29 r = b (114 + r) := (hA6 r hr.1 hr.2).1; have x2 : σ 30 r = b (120 + r) := (hA6 r hr.1 hr.2).2; have y1 : σ 29 q = b (114 + q) := (hA6 q hq.1 hq.2).1; have y2 : σ 30 q = b (120 + q) := (hA6 q hq.1 hq.2).2; have h3 := B.2.2.2.1; have br := B.2.2.2.2.2.2.2.2.2.2.2.2 r hr.1 hr.2; have bq := B.2.2.2.2.2.2.2.2.2.2.2.2 q hq.1 hq.2; have m1 : 0 ≤ σ 30 r * σ 29 q ∧ σ 30 r * σ 29 q ≤ 960 := (by rw [x2, y1]; exact mul_60 br.2 bq.1); have m2 : 0 ≤ σ 30 q * σ 29 r ∧ σ 30 q * σ 29 r ≤ 960 := (by rw [y2, x1]; exact mul_60 bq.2 br.1); have hr1 := hr.1; have hr2 := hr.2; have hq1 := hq.1; have hq2 := hq.2; cI.go rfl rfl (Go.sym (cut := []) 23 ⟨rfl, ⟨⟨rfl, (by first | omega | ((try clear ih) <;> (try clear hV) <;> (try clear K) <;> (try clear KS) <;> (try simp only [icond, nc, bi0, bi1, bin0, bin1, ne_eq, Decidable.not_not] at *) <;> (try simp (disch := omega) only [icond, q32_in, srM, srN, jc_lt, jc_gt, jc_le, jc_ge, jc_eq, bi0, bi1, bin0, bin1, List.headD_cons, ne_eq, Decidable.not_not, fin01, nc, not_true_eq_false, not_false_eq_true, false_and, and_false, true_and, and_true, false_or, or_false, sr_sr, sr_e, sr_n, bu_n, bu_e, sr_id, up_sr, sca0, sca1, sca2, scb0, scb1, scb2, shc0, shc1, mem24, mem52, shn] at *) <;> (try simp (disch := omega) only [q32_in, bu_n, bu_e] at *) <;> omega)), (by first | omega | ((try clear ih) <;> (try clear hV) <;> (try clear K) <;> (try clear KS) <;> (try simp only [icond, nc, bi0, bi1, bin0, bin1, ne_eq, Decidable.not_not] at *) <;> (try simp (disch := omega) only [icond, q32_in, srM, srN, jc_lt, jc_gt, jc_le, jc_ge, jc_eq, bi0, bi1, bin0, bin1, List.headD_cons, ne_eq, Decidable.not_not, fin01, nc, not_true_eq_false, not_false_eq_true, false_and, and_false, true_and, and_true, false_or, or_false, sr_sr, sr_e, sr_n, bu_n, bu_e, sr_id, up_sr, sca0, sca1, sca2, scb0, scb1, scb2, shc0, shc1, mem24, mem52, shn] at *) <;> (try simp (disch := omega) only [q32_in, bu_n, bu_e] at *) <;> omega))⟩, ⟨rfl, ⟨⟨rfl, (by first | omega | ((try clear ih) <;> (try clear hV) <;> (try clear K) <;> (try clear KS) <;> (try simp only [icond, nc, bi0, bi1, bin0, bin1, ne_eq, Decidable.not_not] at *) <;> (try simp (disch := omega) only [icond, q32_in, srM, srN, jc_lt, jc_gt, jc_le, jc_ge, jc_eq, bi0, bi1, bin0, bin1, List.headD_cons, ne_eq, Decidable.not_not, fin01, nc, not_true_eq_false, not_false_eq_true, false_and, and_false, true_and, and_true, false_or, or_false, sr_sr, sr_e, sr_n, bu_n, bu_e, sr_id, up_sr, sca0, sca1, sca2, scb0, scb1, scb2, shc0, shc1, mem24, mem52, shn] at *) <;> (try simp (disch := omega) only [q32_in, bu_n, bu_e] at *) <;> omega)), (by first | omega | ((try clear ih) <;> (try clear hV) <;> (try clear K) <;> (try clear KS) <;> (try simp only [icond, nc, bi0, bi1, bin0, bin1, ne_eq, Decidable.not_not] at *) <;> (try simp (disch := omega) only [icond, q32_in, srM, srN, jc_lt, jc_gt, jc_le, jc_ge, jc_eq, bi0, bi1, bin0, bin1, List.headD_cons, ne_eq, Decidable.not_not, fin01, nc, not_true_eq_false, not_false_eq_true, false_and, and_false, true_and, and_true, false_or, or_false, sr_sr, sr_e, sr_n, bu_n, bu_e, sr_id, up_sr, sca0, sca1, sca2, scb0, scb1, scb2, shc0, shc1, mem24, mem52, shn] at *) <;> (try simp (disch := omega) only [q32_in, bu_n, bu_e] at *) <;> omega))⟩, ⟨rfl, ⟨⟨rfl, (by first | omega | ((try clear ih) <;> (try clear hV) <;> (try clear K) <;> (try clear KS) <;> (try simp only [icond, nc, bi0, bi1, bin0, bin1, ne_eq, Decidable.not_not] at *) <;> (try simp (disch := omega) only [icond, q32_in, srM, srN, jc_lt, jc_gt, jc_le, jc_ge, jc_eq, bi0, bi1, bin0, bin1, List.headD_cons, ne_eq, Decidable.not_not, fin01, nc, not_true_eq_false, not_false_eq_true, false_and, and_false, true_and, and_true, false_or, or_false, sr_sr, sr_e, sr_n, bu_n, bu_e, sr_id, up_sr, sca0, sca1, sca2, scb0, scb1, scb2, shc0, shc1, mem24, mem52, shn] at *) <;> (try simp (disch := omega) only [q32_in, bu_n, bu_e] at *) <;> omega)), (by first | omega | ((try clear ih) <;> (try clear hV) <;> (try clear K) <;> (try clear KS) <;> (try simp only [icond, nc, bi0, bi1, bin0, bin1, ne_eq, Decidable.not_not] at *) <;> (try simp (disch := omega) only [icond, q32_in, srM, srN, jc_lt, jc_gt, jc_le, jc_ge, jc_eq, bi0, bi1, bin0, bin1, List.headD_cons, ne_eq, Decidable.not_not, fin01, nc, not_true_eq_false, not_false_eq_true, false_and, and_false, true_and, and_true, false_or, or_false, sr_sr, sr_e, sr_n, bu_n, bu_e, sr_id, up_sr, sca0, sca1, sca2, scb0, scb1, scb2, shc0, shc1, mem24, mem52, shn] at *) <;> (try simp (disch := omega) only [q32_in, bu_n, bu_e] at *) <;> omega))⟩, ⟨rfl, ⟨⟨rfl, (by first | omega | ((try clear ih) <;> (try clear hV) <;> (try clear K) <;> (try clear KS) <;> (try simp only [icond, nc, bi0, bi1, bin0, bin1, ne_eq, Decidable.not_not] at *) <;> (try simp (disch := omega) only [icond, q32_in, srM, srN, jc_lt, jc_gt, jc_le, jc_ge, jc_eq, bi0, bi1, bin0, bin1, List.headD_cons, ne_eq, Decidable.not_not, fin01, nc, not_true_eq_false, not_false_eq_true, false_and, and_false, true_and, and_true, false_or, or_false, sr_sr, sr_e, sr_n, bu_n, bu_e, sr_id, up_sr, sca0, sca1, sca2, scb0, scb1, scb2, shc0, shc1, mem24, mem52, shn] at *) <;> (try simp (disch := omega) only [q32_in, bu_n, bu_e] at *) <;> omega)), (by first | omega | ((try clear ih) <;> (try clear hV) <;> (try clear K) <;> (try clear KS) <;> (try simp only [icond, nc, bi0, bi1, bin0, bin1, ne_eq, Decidable.not_not] at *) <;> (try simp (disch := omega) only [icond, q32_in, srM, srN, jc_lt, jc_gt, jc_le, jc_ge, jc_eq, bi0, bi1, bin0, bin1, List.headD_cons, ne_eq, Decidable.not_not, fin01, nc, not_true_eq_false, not_false_eq_true, false_and, and_false, true_and, and_true, false_or, or_false, sr_sr, sr_e, sr_n, bu_n, bu_e, sr_id, up_sr, sca0, sca1, sca2, scb0, scb1, scb2, shc0, shc1, mem24, mem52, shn] at *) <;> (try simp (disch := omega) only [q32_in, bu_n, bu_e] at *) <;> omega))⟩, ⟨fun c1 => ⟨(by decide), ⟨_, rfl, rfl, ⟨(by rw [show mSoo b r q = bi (σ 30 q * σ 29 r < σ 30 r * σ 29 q) by (unfold mSoo bi; rw [x1, x2, y1, y2])]; (try clear ih) <;> (try clear hV) <;> (try clear K) <;> (try clear KS) <;> (try simp only [icond, nc, bi0, bi1, bin0, bin1, ne_eq, Decidable.not_not] at *) <;> (try simp (disch := omega) only [icond, q32_in, srM, srN, jc_lt, jc_gt, jc_le, jc_ge, jc_eq, bi0, bi1, bin0, bin1, List.headD_cons, ne_eq, Decidable.not_not, fin01, nc, not_true_eq_false, not_false_eq_true, false_and, and_false, true_and, and_true, false_or, or_false, sr_sr, sr_e, sr_n, bu_n, bu_e, sr_id, up_sr, sca0, sca1, sca2, scb0, scb1, scb2, shc0, shc1, mem24, mem52, shn] at *) <;> (try simp (disch := omega) only [q32_in, bu_n, bu_e] at *) <;> (unfold bi; simp (disch := omega) only [if_pos, if_neg])), rfl⟩⟩⟩, fun c1 => ⟨(by decide), ⟨_, rfl, rfl, ⟨(by rw [show mSoo b r q = bi (σ 30 q * σ 29 r < σ 30 r * σ 29 q) by (unfold mSoo bi; rw [x1, x2, y1, y2])]; (try clear ih) <;> (try clear hV) <;> (try clear K) <;> (try clear KS) <;> (try simp only [icond, nc, bi0, bi1, bin0, bin1, ne_eq, Decidable.not_not] at *) <;> (try simp (disch := omega) only [icond, q32_in, srM, srN, jc_lt, jc_gt, jc_le, jc_ge, jc_eq, bi0, bi1, bin0, bin1, List.headD_cons, ne_eq, Decidable.not_not, fin01, nc, not_true_eq_false, not_false_eq_true, false_and, and_false, true_and, and_true, false_or, or_false, sr_sr, sr_e, sr_n, bu_n, bu_e, sr_id, up_sr, sca0, sca1, sca2, scb0, scb1, scb2, shc0, shc1, mem24, mem52, shn] at *) <;> (try simp (disch := omega) only [q32_in, bu_n, bu_e] at *) <;> (unfold bi; simp (disch := omega) only [if_pos, if_neg])), rfl⟩⟩⟩⟩⟩⟩⟩⟩⟩⟩⟩⟩)
