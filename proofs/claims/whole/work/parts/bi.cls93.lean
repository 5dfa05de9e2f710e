/-! ===== the second of two calls: the model answers as the class did (text laid by gencls93.py) ===== -/
def frQ2 (σ σ' : Sg) : Prop := ∀ a j : Int, a ≠ 192 → ¬ (a = 182 ∧ (j = 0 ∨ j = 1)) → σ' a j = σ a j
theorem frQ2.rfl {σ : Sg} : frQ2 σ σ := fun _ _ _ _ => Eq.refl _
theorem frQ2.u {σ σ' : Sg} {k v : Int} (hk : k = 0 ∨ k = 1) (h : frQ2 σ σ') : frQ2 σ (up σ' 182 k v) := fun a j p q => by unfold up; rw [if_neg (fun e => q ⟨e.1, by rw [e.2]; exact hk⟩)]; exact h a j p q
theorem frQ2.s {σ σ' : Sg} {r : Int → Int} (h : frQ2 σ σ') : frQ2 σ (sr σ' 192 r) := fun a j p q => by rw [sr_n p]; exact h a j p q
theorem frQ2.x {σ σ' : Sg} (h : frQ2 σ σ') : frX σ σ' := fun a j _ _ _ q p => h a j q (by omega)
theorem t_seekAt2 {d L : Nat} {σ : Sg} {k : Int} (B : WB (σ 187)) (hd : 2 ≤ d) : cI d m_X12_seekAt [vr 182, vi k] (SH L) σ (fun r σ' => (r, σ' 182 0) = f_seekAt (σ 187) k ∧ frQ2 σ σ') :=
  cI.go rfl rfl (Go.sym (cut := []) 29 ⟨⟨rfl, (ib rfl)⟩, ⟨⟨rfl, (ib rfl)⟩, ⟨⟨nb rfl, nb rfl, rfl⟩, ⟨d0 hd, nb rfl⟩, cI.det (t_allOdds (by exact B)) ⟨fun cqz1 => ⟨⟨nb rfl, nb rfl, rfl⟩, ⟨d0 hd, nb rfl⟩, cI.det (t_refuse) ⟨_, rfl, rfl, ⟨(by have h3 := B.2.2.2.1; (try clear ih) <;> (try clear hV) <;> (try clear K) <;> (try clear KS) <;> (try simp only [icond, nc, bi0, bi1, bin0, bin1, ne_eq, Decidable.not_not] at *) <;> (try simp (disch := omega) only [icond, q32_in, srM, srN, jc_lt, jc_gt, jc_le, jc_ge, jc_eq, bi0, bi1, bin0, bin1, List.headD_cons, ne_eq, Decidable.not_not, fin01, nc, not_true_eq_false, not_false_eq_true, false_and, and_false, true_and, and_true, false_or, or_false, sr_sr, sr_e, sr_n, bu_n, bu_e, sr_id, up_sr, shn] at *) <;> (try simp (disch := omega) only [q32_in, bu_n, bu_e] at *) <;> (unfold f_seekAt; (try simp (disch := omega) only [if_pos, if_neg, r10_in]) <;> first | done | rfl | (rw [r10_in (by omega)]))), (by repeat (first | exact frQ2.rfl | refine frQ2.u (by decide) ?_ | refine frQ2.s ?_))⟩⟩⟩, fun cqz1 => ⟨rfl, ⟨⟨rfl, (il rfl), (ib rfl)⟩, ⟨⟨nb rfl, nb rfl⟩, ⟨d0 hd, nb rfl⟩, cI.det (t_isIn) ⟨fun cqz2 => ⟨⟨nb rfl, nb rfl, rfl⟩, ⟨d0 hd, nb rfl⟩, cV.det (t_laysOrder (by exact B) (ds (by omega : 1 + 1 ≤ d))) ⟨rfl, ⟨⟨rfl, (by have h3 := B.2.2.2.1; first | omega | ((try clear ih) <;> (try clear hV) <;> (try clear K) <;> (try clear KS) <;> (try simp only [icond, nc, bi0, bi1, bin0, bin1, ne_eq, Decidable.not_not] at *) <;> (try simp (disch := omega) only [icond, q32_in, srM, srN, jc_lt, jc_gt, jc_le, jc_ge, jc_eq, bi0, bi1, bin0, bin1, List.headD_cons, ne_eq, Decidable.not_not, fin01, nc, not_true_eq_false, not_false_eq_true, false_and, and_false, true_and, and_true, false_or, or_false, sr_sr, sr_e, sr_n, bu_n, bu_e, sr_id, up_sr, shn] at *) <;> (try simp (disch := omega) only [q32_in, bu_n, bu_e] at *) <;> omega)), (by have h3 := B.2.2.2.1; first | omega | ((try clear ih) <;> (try clear hV) <;> (try clear K) <;> (try clear KS) <;> (try simp only [icond, nc, bi0, bi1, bin0, bin1, ne_eq, Decidable.not_not] at *) <;> (try simp (disch := omega) only [icond, q32_in, srM, srN, jc_lt, jc_gt, jc_le, jc_ge, jc_eq, bi0, bi1, bin0, bin1, List.headD_cons, ne_eq, Decidable.not_not, fin01, nc, not_true_eq_false, not_false_eq_true, false_and, and_false, true_and, and_true, false_or, or_false, sr_sr, sr_e, sr_n, bu_n, bu_e, sr_id, up_sr, shn] at *) <;> (try simp (disch := omega) only [q32_in, bu_n, bu_e] at *) <;> omega))⟩, ⟨_, rfl, rfl, ⟨(by have h3 := B.2.2.2.1; (try clear ih) <;> (try clear hV) <;> (try clear K) <;> (try clear KS) <;> (try simp only [icond, nc, bi0, bi1, bin0, bin1, ne_eq, Decidable.not_not] at *) <;> (try simp (disch := omega) only [icond, q32_in, srM, srN, jc_lt, jc_gt, jc_le, jc_ge, jc_eq, bi0, bi1, bin0, bin1, List.headD_cons, ne_eq, Decidable.not_not, fin01, nc, not_true_eq_false, not_false_eq_true, false_and, and_false, true_and, and_true, false_or, or_false, sr_sr, sr_e, sr_n, bu_n, bu_e, sr_id, up_sr, shn] at *) <;> (try simp (disch := omega) only [q32_in, bu_n, bu_e] at *) <;> (unfold f_seekAt; (try simp (disch := omega) only [if_pos, if_neg, r10_in]) <;> first | done | rfl | (rw [r10_in (by omega)]))), (by repeat (first | exact frQ2.rfl | refine frQ2.u (by decide) ?_ | refine frQ2.s ?_))⟩⟩⟩⟩⟩, fun cqz2 => ⟨⟨nb rfl, nb rfl, rfl⟩, ⟨d0 hd, nb rfl⟩, cI.det (t_refuse) ⟨_, rfl, rfl, ⟨(by have h3 := B.2.2.2.1; (try clear ih) <;> (try clear hV) <;> (try clear K) <;> (try clear KS) <;> (try simp only [icond, nc, bi0, bi1, bin0, bin1, ne_eq, Decidable.not_not] at *) <;> (try simp (disch := omega) only [icond, q32_in, srM, srN, jc_lt, jc_gt, jc_le, jc_ge, jc_eq, bi0, bi1, bin0, bin1, List.headD_cons, ne_eq, Decidable.not_not, fin01, nc, not_true_eq_false, not_false_eq_true, false_and, and_false, true_and, and_true, false_or, or_false, sr_sr, sr_e, sr_n, bu_n, bu_e, sr_id, up_sr, shn] at *) <;> (try simp (disch := omega) only [q32_in, bu_n, bu_e] at *) <;> (unfold f_seekAt; (try simp (disch := omega) only [if_pos, if_neg, r10_in]) <;> first | done | rfl | (rw [r10_in (by omega)]))), (by repeat (first | exact frQ2.rfl | refine frQ2.u (by decide) ?_ | refine frQ2.s ?_))⟩⟩⟩⟩⟩⟩⟩⟩⟩⟩⟩)
theorem w_many {d L : Nat} {σ σ1 : Sg} {r1 a1 b1 : Int} (e1 : b1 = a1) (h : IV σ) (o : (r1, σ1 7 0) = f_many (σ 187) a1 ∧ frC σ σ1) (hd : 25 ≤ d) : cI d m_X12_many [vr 182, vi b1] (SH L) σ1 (fun r2 σ2 => r1 = r2 ∧ IV σ2) := by
  subst e1
  have e := o.2.row (a := 187) (by omega)
  exact (t_many (by rw [e]; exact h.W.wq) (by rw [e]; exact h.W.wr) (by omega)).mono (fun r2 σ2 q => IV.f h o.1 o.2 (by have z := q.1; rw [e] at z; exact z) q.2.x)
theorem w_counts {d L : Nat} {σ σ1 : Sg} {r1 a1 b1 : Int} (e1 : b1 = a1) (h : IV σ) (o : (r1, σ1 7 0) = f_counts (σ 187) a1 ∧ frC σ σ1) (hd : 25 ≤ d) : cI d m_X12_counts [vr 182, vi b1] (SH L) σ1 (fun r2 σ2 => r1 = r2 ∧ IV σ2) := by
  subst e1
  have e := o.2.row (a := 187) (by omega)
  exact (t_counts (by rw [e]; exact h.W.wq) (by rw [e]; exact h.W.wr) (by omega)).mono (fun r2 σ2 q => IV.f h o.1 o.2 (by have z := q.1; rw [e] at z; exact z) q.2.x)
theorem w_power {d L : Nat} {σ σ1 : Sg} {r1 a1 b1 : Int} (e1 : b1 = a1) (h : IV σ) (o : (r1, σ1 7 0) = f_power (σ 187) a1 ∧ frC σ σ1) (hd : 25 ≤ d) : cI d m_X12_power [vr 182, vi b1] (SH L) σ1 (fun r2 σ2 => r1 = r2 ∧ IV σ2) := by
  subst e1
  have e := o.2.row (a := 187) (by omega)
  exact (t_power (by rw [e]; exact h.W.wq) (by rw [e]; exact h.W.wr) (by omega)).mono (fun r2 σ2 q => IV.f h o.1 o.2 (by have z := q.1; rw [e] at z; exact z) q.2.x)
theorem w_powerOf {d L : Nat} {σ σ1 : Sg} {r1 a1 b1 : Int} (e1 : b1 = a1) (h : IV σ) (o : (r1, σ1 7 0) = f_powerOf (σ 187) a1 ∧ frC σ σ1) (hd : 25 ≤ d) : cI d m_X12_powerOf [vr 182, vi b1] (SH L) σ1 (fun r2 σ2 => r1 = r2 ∧ IV σ2) := by
  subst e1
  have e := o.2.row (a := 187) (by omega)
  exact (t_powerOf (by rw [e]; exact h.W.wq) (by rw [e]; exact h.W.wr) (by omega)).mono (fun r2 σ2 q => IV.f h o.1 o.2 (by have z := q.1; rw [e] at z; exact z) q.2.x)
theorem w_bells {d L : Nat} {σ σ1 : Sg} {r1 a1 b1 : Int} (e1 : b1 = a1) (h : IV σ) (o : (r1, σ1 7 0) = f_bells (σ 187) a1 ∧ frC σ σ1) (hd : 25 ≤ d) : cI d m_X12_bells [vr 182, vi b1] (SH L) σ1 (fun r2 σ2 => r1 = r2 ∧ IV σ2) := by
  subst e1
  have e := o.2.row (a := 187) (by omega)
  exact (t_bells (by rw [e]; exact h.W.wq) (by rw [e]; exact h.W.wr) (by omega)).mono (fun r2 σ2 q => IV.f h o.1 o.2 (by have z := q.1; rw [e] at z; exact z) q.2.x)
theorem w_margin {d L : Nat} {σ σ1 : Sg} {r1 a1 b1 : Int} (e1 : b1 = a1) (h : IV σ) (o : (r1, σ1 7 0) = f_margin (σ 187) a1 ∧ frC σ σ1) (hd : 25 ≤ d) : cI d m_X12_margin [vr 182, vi b1] (SH L) σ1 (fun r2 σ2 => r1 = r2 ∧ IV σ2) := by
  subst e1
  have e := o.2.row (a := 187) (by omega)
  exact (t_margin (by rw [e]; exact h.W.wq) (by rw [e]; exact h.W.wr) (by omega)).mono (fun r2 σ2 q => IV.f h o.1 o.2 (by have z := q.1; rw [e] at z; exact z) q.2.x)
theorem w_wins {d L : Nat} {σ σ1 : Sg} {r1 a1 b1 : Int} (e1 : b1 = a1) (h : IV σ) (o : (r1, σ1 7 0) = f_wins (σ 187) a1 ∧ frC σ σ1) (hd : 25 ≤ d) : cI d m_X12_wins [vr 182, vi b1] (SH L) σ1 (fun r2 σ2 => r1 = r2 ∧ IV σ2) := by
  subst e1
  have e := o.2.row (a := 187) (by omega)
  exact (t_wins (by rw [e]; exact h.W.wq) (by rw [e]; exact h.W.wr) (by omega)).mono (fun r2 σ2 q => IV.f h o.1 o.2 (by have z := q.1; rw [e] at z; exact z) q.2.x)
theorem w_swings {d L : Nat} {σ σ1 : Sg} {r1 a1 b1 : Int} (e1 : b1 = a1) (h : IV σ) (o : (r1, σ1 7 0) = f_swings (σ 187) a1 ∧ frC σ σ1) (hd : 25 ≤ d) : cI d m_X12_swings [vr 182, vi b1] (SH L) σ1 (fun r2 σ2 => r1 = r2 ∧ IV σ2) := by
  subst e1
  have e := o.2.row (a := 187) (by omega)
  exact (t_swings (by rw [e]; exact h.W.wq) (by rw [e]; exact h.W.wr) (by omega)).mono (fun r2 σ2 q => IV.f h o.1 o.2 (by have z := q.1; rw [e] at z; exact z) q.2.x)
theorem w_member {d L : Nat} {σ σ1 : Sg} {r1 a1 a2 b1 b2 : Int} (e1 : b1 = a1) (e2 : b2 = a2) (h : IV σ) (o : (r1, σ1 7 0) = f_member (σ 187) a1 a2 ∧ frC σ σ1) (hd : 25 ≤ d) : cI d m_X12_member [vr 182, vi b1, vi b2] (SH L) σ1 (fun r2 σ2 => r1 = r2 ∧ IV σ2) := by
  subst e1 e2
  have e := o.2.row (a := 187) (by omega)
  exact (t_member (by rw [e]; exact h.W.wq) (by rw [e]; exact h.W.wr) (by omega)).mono (fun r2 σ2 q => IV.f h o.1 o.2 (by have z := q.1; rw [e] at z; exact z) q.2.x)
theorem w_motion {d L : Nat} {σ σ1 : Sg} {r1 a1 a2 b1 b2 : Int} (e1 : b1 = a1) (e2 : b2 = a2) (h : IV σ) (o : (r1, σ1 7 0) = f_motion (σ 187) a1 a2 ∧ frC σ σ1) (hd : 25 ≤ d) : cI d m_X12_motion [vr 182, vi b1, vi b2] (SH L) σ1 (fun r2 σ2 => r1 = r2 ∧ IV σ2) := by
  subst e1 e2
  have e := o.2.row (a := 187) (by omega)
  exact (t_motion (by rw [e]; exact h.W.wq) (by rw [e]; exact h.W.wr) (by omega)).mono (fun r2 σ2 q => IV.f h o.1 o.2 (by have z := q.1; rw [e] at z; exact z) q.2.x)
theorem w_room {d L : Nat} {σ σ1 : Sg} {r1 a1 a2 b1 b2 : Int} (e1 : b1 = a1) (e2 : b2 = a2) (h : IV σ) (o : (r1, σ1 7 0) = f_room (σ 187) a1 a2 ∧ frC σ σ1) (hd : 25 ≤ d) : cI d m_X12_room [vr 182, vi b1, vi b2] (SH L) σ1 (fun r2 σ2 => r1 = r2 ∧ IV σ2) := by
  subst e1 e2
  have e := o.2.row (a := 187) (by omega)
  exact (t_room (by rw [e]; exact h.W.wq) (by rw [e]; exact h.W.wr) (by omega)).mono (fun r2 σ2 q => IV.f h o.1 o.2 (by have z := q.1; rw [e] at z; exact z) q.2.x)
theorem w_governs {d L : Nat} {σ σ1 : Sg} {r1 : Int} (h : IV σ) (o : (r1, σ1 7 0) = f_governs (σ 187)  ∧ frC σ σ1) (hd : 25 ≤ d) : cI d m_X12_governs [vr 182] (SH L) σ1 (fun r2 σ2 => r1 = r2 ∧ IV σ2) := by
  have e := o.2.row (a := 187) (by omega)
  exact (t_governs (by rw [e]; exact h.W.wq) (by rw [e]; exact h.W.wr) (by omega)).mono (fun r2 σ2 q => IV.f h o.1 o.2 (by have z := q.1; rw [e] at z; exact z) q.2.x)
theorem w_winning {d L : Nat} {σ σ1 : Sg} {r1 : Int} (h : IV σ) (o : (r1, σ1 7 0) = f_winning (σ 187)  ∧ frC σ σ1) (hd : 25 ≤ d) : cI d m_X12_winning [vr 182] (SH L) σ1 (fun r2 σ2 => r1 = r2 ∧ IV σ2) := by
  have e := o.2.row (a := 187) (by omega)
  exact (t_winning (by rw [e]; exact h.W.wq) (by rw [e]; exact h.W.wr) (by omega)).mono (fun r2 σ2 q => IV.f h o.1 o.2 (by have z := q.1; rw [e] at z; exact z) q.2.x)
theorem w_lean {d L : Nat} {σ σ1 : Sg} {r1 : Int} (h : IV σ) (o : (r1, σ1 7 0) = f_lean (σ 187)  ∧ frC σ σ1) (hd : 25 ≤ d) : cI d m_X12_lean [vr 182] (SH L) σ1 (fun r2 σ2 => r1 = r2 ∧ IV σ2) := by
  have e := o.2.row (a := 187) (by omega)
  exact (t_lean (by rw [e]; exact h.W.wq) (by rw [e]; exact h.W.wr) (by omega)).mono (fun r2 σ2 q => IV.f h o.1 o.2 (by have z := q.1; rw [e] at z; exact z) q.2.x)
theorem w_governsIn {d L : Nat} {σ σ1 : Sg} {r1 a1 b1 : Int} (e1 : b1 = a1) (h : IV σ) (o : (r1, σ1 7 0) = f_governsIn (σ 187) a1 ∧ frC σ σ1) (hd : 25 ≤ d) : cI d m_X12_governsIn [vr 182, vi b1] (SH L) σ1 (fun r2 σ2 => r1 = r2 ∧ IV σ2) := by
  subst e1
  have e := o.2.row (a := 187) (by omega)
  exact (t_governsIn (by rw [e]; exact h.W) (by rw [e]; exact h.h8) (by omega)).mono (fun r2 σ2 q => IV.f h o.1 o.2 (by have z := q.1; rw [e] at z; exact z) q.2.x)
theorem w_firstIn {d L : Nat} {σ σ1 : Sg} {r1 a1 b1 : Int} (e1 : b1 = a1) (h : IV σ) (o : (r1, σ1 7 0) = f_firstIn (σ 187) a1 ∧ frC σ σ1) (hd : 25 ≤ d) : cI d m_X12_firstIn [vr 182, vi b1] (SH L) σ1 (fun r2 σ2 => r1 = r2 ∧ IV σ2) := by
  subst e1
  have e := o.2.row (a := 187) (by omega)
  exact (t_firstIn (by rw [e]; exact h.W) (by rw [e]; exact h.h8) (by omega)).mono (fun r2 σ2 q => IV.f h o.1 o.2 (by have z := q.1; rw [e] at z; exact z) q.2.x)
theorem w_carriedIn {d L : Nat} {σ σ1 : Sg} {r1 a1 b1 : Int} (e1 : b1 = a1) (h : IV σ) (o : (r1, σ1 7 0) = f_carriedIn (σ 187) a1 ∧ frC σ σ1) (hd : 25 ≤ d) : cI d m_X12_carriedIn [vr 182, vi b1] (SH L) σ1 (fun r2 σ2 => r1 = r2 ∧ IV σ2) := by
  subst e1
  have e := o.2.row (a := 187) (by omega)
  exact (t_carriedIn (by rw [e]; exact h.W) (by rw [e]; exact h.h8) (by omega)).mono (fun r2 σ2 q => IV.f h o.1 o.2 (by have z := q.1; rw [e] at z; exact z) q.2.x)
theorem w_yardsIn {d L : Nat} {σ σ1 : Sg} {r1 a1 a2 b1 b2 : Int} (e1 : b1 = a1) (e2 : b2 = a2) (h : IV σ) (o : (r1, σ1 7 0) = f_yardsIn (σ 187) a1 a2 ∧ frC σ σ1) (hd : 25 ≤ d) : cI d m_X12_yardsIn [vr 182, vi b1, vi b2] (SH L) σ1 (fun r2 σ2 => r1 = r2 ∧ IV σ2) := by
  subst e1 e2
  have e := o.2.row (a := 187) (by omega)
  exact (t_yardsIn (by rw [e]; exact h.W) (by rw [e]; exact h.h8) (by omega)).mono (fun r2 σ2 q => IV.f h o.1 o.2 (by have z := q.1; rw [e] at z; exact z) q.2.x)
theorem w_reign {d L : Nat} {σ σ1 : Sg} {r1 a1 a2 b1 b2 : Int} (e1 : b1 = a1) (e2 : b2 = a2) (h : IV σ) (o : (r1, σ1 7 0) = f_reign (σ 187) a1 a2 ∧ frC σ σ1) (hd : 25 ≤ d) : cI d m_X12_reign [vr 182, vi b1, vi b2] (SH L) σ1 (fun r2 σ2 => r1 = r2 ∧ IV σ2) := by
  subst e1 e2
  have e := o.2.row (a := 187) (by omega)
  exact (t_reign (by rw [e]; exact h.W) (by rw [e]; exact h.h8) (by omega)).mono (fun r2 σ2 q => IV.f h o.1 o.2 (by have z := q.1; rw [e] at z; exact z) q.2.x)
theorem w_emptyIn {d L : Nat} {σ σ1 : Sg} {r1 : Int} (h : IV σ) (o : (r1, σ1 7 0) = f_emptyIn (σ 187)  ∧ frC σ σ1) (hd : 25 ≤ d) : cI d m_X12_emptyIn [vr 182] (SH L) σ1 (fun r2 σ2 => r1 = r2 ∧ IV σ2) := by
  have e := o.2.row (a := 187) (by omega)
  exact (t_emptyIn (by rw [e]; exact h.W) (by rw [e]; exact h.h8) (by omega)).mono (fun r2 σ2 q => IV.f h o.1 o.2 (by have z := q.1; rw [e] at z; exact z) q.2.x)
theorem w_fewest {d L : Nat} {σ σ1 : Sg} {r1 a1 b1 : Int} (e1 : b1 = a1) (h : IV σ) (o : (r1, σ1 7 0) = f_fewest (σ 187) a1 ∧ frC σ σ1) (hd : 25 ≤ d) : cI d m_X12_fewest [vr 182, vi b1] (SH L) σ1 (fun r2 σ2 => r1 = r2 ∧ IV σ2) := by
  subst e1
  have e := o.2.row (a := 187) (by omega)
  exact (t_fewest (by rw [e]; exact h.W) (by omega)).mono (fun r2 σ2 q => IV.f h o.1 o.2 (by have z := q.1; rw [e] at z; exact z) q.2.x)
theorem w_fewestSet {d L : Nat} {σ σ1 : Sg} {r1 a1 b1 : Int} (e1 : b1 = a1) (h : IV σ) (o : (r1, σ1 7 0) = f_fewestSet (σ 187) a1 ∧ frC σ σ1) (hd : 25 ≤ d) : cI d m_X12_fewestSet [vr 182, vi b1] (SH L) σ1 (fun r2 σ2 => r1 = r2 ∧ IV σ2) := by
  subst e1
  have e := o.2.row (a := 187) (by omega)
  exact (t_fewestSet (by rw [e]; exact h.W) (by omega)).mono (fun r2 σ2 q => IV.f h o.1 o.2 (by have z := q.1; rw [e] at z; exact z) q.2.x)
theorem w_cheapest {d L : Nat} {σ σ1 : Sg} {r1 a1 b1 : Int} (e1 : b1 = a1) (h : IV σ) (o : (r1, σ1 7 0) = f_cheapest (σ 187) a1 ∧ frC σ σ1) (hd : 25 ≤ d) : cI d m_X12_cheapest [vr 182, vi b1] (SH L) σ1 (fun r2 σ2 => r1 = r2 ∧ IV σ2) := by
  subst e1
  have e := o.2.row (a := 187) (by omega)
  exact (t_cheapest (by rw [e]; exact h.W) (by omega)).mono (fun r2 σ2 q => IV.f h o.1 o.2 (by have z := q.1; rw [e] at z; exact z) q.2.x)
theorem w_cheapestSet {d L : Nat} {σ σ1 : Sg} {r1 a1 b1 : Int} (e1 : b1 = a1) (h : IV σ) (o : (r1, σ1 7 0) = f_cheapestSet (σ 187) a1 ∧ frC σ σ1) (hd : 25 ≤ d) : cI d m_X12_cheapestSet [vr 182, vi b1] (SH L) σ1 (fun r2 σ2 => r1 = r2 ∧ IV σ2) := by
  subst e1
  have e := o.2.row (a := 187) (by omega)
  exact (t_cheapestSet (by rw [e]; exact h.W) (by omega)).mono (fun r2 σ2 q => IV.f h o.1 o.2 (by have z := q.1; rw [e] at z; exact z) q.2.x)
theorem w_farFor {d L : Nat} {σ σ1 : Sg} {r1 a1 b1 : Int} (e1 : b1 = a1) (h : IV σ) (o : (r1, σ1 7 0) = f_farFor (σ 187) a1 ∧ frC σ σ1) (hd : 25 ≤ d) : cI d m_X12_farFor [vr 182, vi b1] (SH L) σ1 (fun r2 σ2 => r1 = r2 ∧ IV σ2) := by
  subst e1
  have e := o.2.row (a := 187) (by omega)
  exact (t_farFor (by rw [e]; exact h.W) (by omega)).mono (fun r2 σ2 q => IV.f h o.1 o.2 (by have z := q.1; rw [e] at z; exact z) q.2.x)
theorem w_powerBy {d L : Nat} {σ σ1 : Sg} {r1 a1 a2 b1 b2 : Int} (e1 : b1 = a1) (e2 : b2 = a2) (h : IV σ) (o : (r1, σ1 7 0) = f_powerBy (σ 187) a1 a2 ∧ frC σ σ1) (hd : 25 ≤ d) : cI d m_X12_powerBy [vr 182, vi b1, vi b2] (SH L) σ1 (fun r2 σ2 => r1 = r2 ∧ IV σ2) := by
  subst e1 e2
  have e := o.2.row (a := 187) (by omega)
  exact (t_powerBy (by rw [e]; exact h.W) (by omega)).mono (fun r2 σ2 q => IV.f h o.1 o.2 (by have z := q.1; rw [e] at z; exact z) q.2.x)
theorem w_carriedBy {d L : Nat} {σ σ1 : Sg} {r1 a1 a2 a3 b1 b2 b3 : Int} (e1 : b1 = a1) (e2 : b2 = a2) (e3 : b3 = a3) (h : IV σ) (o : (r1, σ1 7 0) = f_carriedBy (σ 187) a1 a2 a3 ∧ frC σ σ1) (hd : 25 ≤ d) : cI d m_X12_carriedBy [vr 182, vi b1, vi b2, vi b3] (SH L) σ1 (fun r2 σ2 => r1 = r2 ∧ IV σ2) := by
  subst e1 e2 e3
  have e := o.2.row (a := 187) (by omega)
  exact (t_carriedBy (by rw [e]; exact h.W) (by omega)).mono (fun r2 σ2 q => IV.f h o.1 o.2 (by have z := q.1; rw [e] at z; exact z) q.2.x)
theorem w_game {d L : Nat} {σ σ1 : Sg} {r1 a1 a2 a3 b1 b2 b3 : Int} (e1 : b1 = a1) (e2 : b2 = a2) (e3 : b3 = a3) (h : IV σ) (o : (r1, σ1 7 0) = f_game (σ 187) a1 a2 a3 ∧ frC σ σ1) (hd : 25 ≤ d) : cI d m_X12_game [vr 182, vi b1, vi b2, vi b3] (SH L) σ1 (fun r2 σ2 => r1 = r2 ∧ IV σ2) := by
  subst e1 e2 e3
  have e := o.2.row (a := 187) (by omega)
  exact (t_game (by rw [e]; exact h.W) (by omega)).mono (fun r2 σ2 q => IV.f h o.1 o.2 (by have z := q.1; rw [e] at z; exact z) q.2.x)
theorem w_moveOf {d L : Nat} {σ σ1 : Sg} {r1 a1 a2 a3 b1 b2 b3 : Int} (e1 : b1 = a1) (e2 : b2 = a2) (e3 : b3 = a3) (h : IV σ) (o : (r1, σ1 7 0) = f_moveOf (σ 187) a1 a2 a3 ∧ frC σ σ1) (hd : 25 ≤ d) : cI d m_X12_moveOf [vr 182, vi b1, vi b2, vi b3] (SH L) σ1 (fun r2 σ2 => r1 = r2 ∧ IV σ2) := by
  subst e1 e2 e3
  have e := o.2.row (a := 187) (by omega)
  exact (t_moveOf (by rw [e]; exact h.W) (by omega)).mono (fun r2 σ2 q => IV.f h o.1 o.2 (by have z := q.1; rw [e] at z; exact z) q.2.x)
theorem w_seekAt {d L : Nat} {σ σ1 : Sg} {r1 a1 b1 : Int} (e1 : b1 = a1) (h : IV σ) (o : (r1, σ1 7 0) = f_seekAt (σ 187) a1 ∧ frC σ σ1) (hd : 25 ≤ d) : cI d m_X12_seekAt [vr 182, vi b1] (SH L) σ1 (fun r2 σ2 => r1 = r2 ∧ IV σ2) := by
  subst e1
  have e := o.2.row (a := 187) (by omega)
  exact (t_seekAt2 (by rw [e]; exact h.W) (by omega)).mono (fun r2 σ2 q => IV.f h o.1 o.2 (by have z := q.1; rw [e] at z; exact z) q.2.x)
theorem w_tally {d L : Nat} {σ σ1 : Sg} {r1 a1 b1 : Int} (e1 : b1 = a1) (h : IV σ) (o : (r1, σ1 7 0) = f_tally (σ 187) (σ 184) (σ 185) a1 ∧ frC σ σ1) (hd : 25 ≤ d) : cI d m_X12_tally [vr 182, vi b1] (SH L) σ1 (fun r2 σ2 => r1 = r2 ∧ IV σ2) := by
  subst e1
  have e := o.2.row (a := 187) (by omega)
  have e4 := o.2.row (a := 184) (by omega)
  have e5 := o.2.row (a := 185) (by omega)
  exact (t_tally (by rw [e]; exact h.W) (by omega)).mono (fun r2 σ2 q => IV.f h o.1 o.2 (by have z := q.1; rw [e, e4, e5] at z; exact z) q.2.x)
theorem w_sure {d L : Nat} {σ σ1 : Sg} {r1 a1 b1 : Int} (e1 : b1 = a1) (h : IV σ) (o : (r1, σ1 7 0) = f_sure (σ 187) (σ 184) (σ 185) a1 ∧ frC σ σ1) (hd : 25 ≤ d) : cI d m_X12_sure [vr 182, vi b1] (SH L) σ1 (fun r2 σ2 => r1 = r2 ∧ IV σ2) := by
  subst e1
  have e := o.2.row (a := 187) (by omega)
  have e4 := o.2.row (a := 184) (by omega)
  have e5 := o.2.row (a := 185) (by omega)
  exact (t_sure (by rw [e]; exact h.W) (by omega)).mono (fun r2 σ2 q => IV.f h o.1 o.2 (by have z := q.1; rw [e, e4, e5] at z; exact z) q.2.x)
theorem w_ask {d L : Nat} {σ σ1 : Sg} {r1 a1 b1 : Int} (e1 : b1 = a1) (h : IV σ) (o : (r1, σ1 7 0) = f_ask (σ 187) (σ 184) (σ 185) a1 ∧ frC σ σ1) (hd : 25 ≤ d) : cI d m_X12_ask [vr 182, vi b1] (SH L) σ1 (fun r2 σ2 => r1 = r2 ∧ IV σ2) := by
  subst e1
  have e := o.2.row (a := 187) (by omega)
  have e4 := o.2.row (a := 184) (by omega)
  have e5 := o.2.row (a := 185) (by omega)
  exact (t_ask (by rw [e]; exact h.W) (by omega)).mono (fun r2 σ2 q => IV.f h o.1 o.2 (by have z := q.1; rw [e, e4, e5] at z; exact z) q.2.x)
theorem w_read {d L : Nat} {σ σ1 : Sg} {r1 a1 a2 b1 b2 : Int} (e1 : b1 = a1) (e2 : b2 = a2) (h : IV σ) (o : (r1, σ1 7 0) = f_read (σ 184) (σ 185) a1 a2 ∧ frC σ σ1) (hd : 25 ≤ d) : cL d m_X12_read [vr 182, vi b1, vi b2] (SH L) σ1 (fun r2 σ2 => r1 = r2 ∧ IV σ2) := by
  subst e1 e2
  have e4 := o.2.row (a := 184) (by omega)
  have e5 := o.2.row (a := 185) (by omega)
  exact (t_read (by rw [e4]; exact h.wt) (by omega)).mono (fun r2 σ2 q => IV.f h o.1 o.2 (by have z := q.1; rw [e4, e5] at z; exact z) q.2.x)
theorem w_lived {d L : Nat} {σ σ1 : Sg} {r1 a1 b1 : Int} (e1 : b1 = a1) (h : IV σ) (o : (r1, σ1 7 0) = f_lived (σ 7 15) (σ 180) a1 ∧ frC σ σ1) (hd : 25 ≤ d) : cI d m_X12_lived [vr 182, vi b1] (SH L) σ1 (fun r2 σ2 => r1 = r2 ∧ IV σ2) := by
  subst e1
  have e2 := o.2.row (a := 182) (by omega)
  have e3 := o.2.row (a := 193) (by omega)
  exact (t_lived (by omega)).mono (fun r2 σ2 q => IV.f h o.1 o.2 (by have z := q.1; rw [e2, e3, h.H.f] at z; exact z) q.2.x)
theorem w_walk {d L : Nat} {σ σ1 : Sg} {r1 a1 a2 b1 b2 : Int} (e1 : b1 = a1) (e2 : b2 = a2) (h : IV σ) (o : (r1, σ1 7 0) = (g_walk (σ 187) a1 a2).1 ∧ Asm σ1 20 (g_walk (σ 187) a1 a2).2 ∧ frHa σ σ1) (hd : 25 ≤ d) : cI d m_X12_walk [vr 182, vi b1, vi b2] (SH L) σ1 (fun r2 σ2 => r1 = r2 ∧ IV σ2) := by
  subst e1 e2
  have e := o.2.2.row (a := 187) (by omega)
  exact (t_walk (by rw [e]; exact h.W) (by omega)).mono (fun r2 σ2 q => IV.h h (hk_walk h.W h.h8) o.1 o.2.1 o.2.2 (by have z := q.1; rw [e] at z; exact z) q.2)
theorem w_die {d L : Nat} {σ σ1 : Sg} {r1 a1 b1 : Int} (e1 : b1 = a1) (h : IV σ) (o : (r1, σ1 7 0) = (g_die (σ 187) a1).1 ∧ Asm σ1 20 (g_die (σ 187) a1).2 ∧ frHa σ σ1) (hd : 25 ≤ d) : cI d m_X12_die [vr 182, vi b1] (SH L) σ1 (fun r2 σ2 => r1 = r2 ∧ IV σ2) := by
  subst e1
  have e := o.2.2.row (a := 187) (by omega)
  exact (t_die (by rw [e]; exact h.W) (by omega)).mono (fun r2 σ2 q => IV.h h (hk_die h.W h.h8) o.1 o.2.1 o.2.2 (by have z := q.1; rw [e] at z; exact z) q.2)
theorem w_carry {d L : Nat} {σ σ1 : Sg} {r1 a1 a2 b1 b2 : Int} (e1 : b1 = a1) (e2 : b2 = a2) (h : IV σ) (o : (r1, σ1 7 0) = (g_carry (σ 187) a1 a2).1 ∧ Asm σ1 20 (g_carry (σ 187) a1 a2).2 ∧ frHa σ σ1) (hd : 25 ≤ d) : cI d m_X12_carry [vr 182, vi b1, vi b2] (SH L) σ1 (fun r2 σ2 => r1 = r2 ∧ IV σ2) := by
  subst e1 e2
  have e := o.2.2.row (a := 187) (by omega)
  exact (t_carry (by rw [e]; exact h.W) (by omega)).mono (fun r2 σ2 q => IV.h h (hk_carry h.W h.h8) o.1 o.2.1 o.2.2 (by have z := q.1; rw [e] at z; exact z) q.2)
theorem w_year {d L : Nat} {σ σ1 : Sg} {r1 : Int} (h : IV σ) (o : (r1, σ1 7 0) = (g_year (σ 187) ).1 ∧ Asm σ1 20 (g_year (σ 187) ).2 ∧ frHa σ σ1) (hd : 25 ≤ d) : cI d m_X12_year [vr 182] (SH L) σ1 (fun r2 σ2 => r1 = r2 ∧ IV σ2) := by
  have e := o.2.2.row (a := 187) (by omega)
  exact (t_year (by rw [e]; exact h.W) (by omega)).mono (fun r2 σ2 q => IV.h h (hk_year h.W h.h8) o.1 o.2.1 o.2.2 (by have z := q.1; rw [e] at z; exact z) q.2)
theorem w_rule {d L : Nat} {σ σ1 : Sg} {r1 a1 a2 b1 b2 : Int} (e1 : b1 = a1) (e2 : b2 = a2) (h : IV σ) (o : (r1, σ1 7 0) = (g_rule (σ 187) a1 a2).1 ∧ Asm σ1 20 (g_rule (σ 187) a1 a2).2 ∧ frHa σ σ1) (hd : 25 ≤ d) : cI d m_X12_rule [vr 182, vi b1, vi b2] (SH L) σ1 (fun r2 σ2 => r1 = r2 ∧ IV σ2) := by
  subst e1 e2
  have e := o.2.2.row (a := 187) (by omega)
  exact (t_rule (by rw [e]; exact h.W) (by omega)).mono (fun r2 σ2 q => IV.h h (hk_rule h.W h.h8) o.1 o.2.1 o.2.2 (by have z := q.1; rw [e] at z; exact z) q.2)
theorem w_join {d L : Nat} {σ σ1 : Sg} {r1 a1 a2 b1 b2 : Int} (e1 : b1 = a1) (e2 : b2 = a2) (h : IV σ) (o : (r1, σ1 7 0) = (g_join (σ 187) a1 a2).1 ∧ Asm σ1 20 (g_join (σ 187) a1 a2).2 ∧ frHa σ σ1) (hd : 25 ≤ d) : cI d m_X12_join [vr 182, vi b1, vi b2] (SH L) σ1 (fun r2 σ2 => r1 = r2 ∧ IV σ2) := by
  subst e1 e2
  have e := o.2.2.row (a := 187) (by omega)
  exact (t_join (by rw [e]; exact h.W) (by omega)).mono (fun r2 σ2 q => IV.h h (hk_join h.W h.h8) o.1 o.2.1 o.2.2 (by have z := q.1; rw [e] at z; exact z) q.2)
theorem w_side {d L : Nat} {σ σ1 : Sg} {r1 a1 a2 a3 b1 b2 b3 : Int} (e1 : b1 = a1) (e2 : b2 = a2) (e3 : b3 = a3) (h : IV σ) (o : (r1, σ1 7 0) = (g_side (σ 187) a1 a2 a3).1 ∧ Asm σ1 20 (g_side (σ 187) a1 a2 a3).2 ∧ frHa σ σ1) (hd : 25 ≤ d) : cI d m_X12_side [vr 182, vi b1, vi b2, vi b3] (SH L) σ1 (fun r2 σ2 => r1 = r2 ∧ IV σ2) := by
  subst e1 e2 e3
  have e := o.2.2.row (a := 187) (by omega)
  exact (t_side (by rw [e]; exact h.W) (by omega)).mono (fun r2 σ2 q => IV.h h (hk_side h.W h.h8) o.1 o.2.1 o.2.2 (by have z := q.1; rw [e] at z; exact z) q.2)
theorem w_minute {d L : Nat} {σ σ1 : Sg} {r1 a1 b1 : Int} (e1 : b1 = a1) (h : IV σ) (o : (r1, σ1 7 0) = (g_minute (σ 187) a1).1 ∧ Asm σ1 20 (g_minute (σ 187) a1).2 ∧ frHa σ σ1) (hd : 25 ≤ d) : cI d m_X12_minute [vr 182, vi b1] (SH L) σ1 (fun r2 σ2 => r1 = r2 ∧ IV σ2) := by
  subst e1
  have e := o.2.2.row (a := 187) (by omega)
  exact (t_minute (by rw [e]; exact h.W) (by rw [e]; exact h.h8) (by omega)).mono (fun r2 σ2 q => IV.h h (hk_minute h.W h.h8) o.1 o.2.1 o.2.2 (by have z := q.1; rw [e] at z; exact z) q.2)
theorem w_fall {d L : Nat} {σ σ1 : Sg} {r1 a1 a2 b1 b2 : Int} (e1 : b1 = a1) (e2 : b2 = a2) (hs : b2 = 0 ∨ b2 = 1) (h : IV σ) (o : (r1, σ1 7 0) = (g_fall (σ 187) a1 a2).1 ∧ Asm σ1 20 (g_fall (σ 187) a1 a2).2 ∧ frHa σ σ1) (hd : 25 ≤ d) : cI d m_X12_fall [vr 182, vi b1, vi b2] (SH L) σ1 (fun r2 σ2 => r1 = r2 ∧ IV σ2) := by
  subst e1 e2
  have e := o.2.2.row (a := 187) (by omega)
  exact (t_fall hs (by rw [e]; exact h.W) (by omega)).mono (fun r2 σ2 q => IV.h h (hk_fall hs h.W h.h8) o.1 o.2.1 o.2.2 (by have z := q.1; rw [e] at z; exact z) q.2)
theorem w_hide {d L : Nat} {σ σ1 : Sg} {r1 a1 a2 b1 b2 : Int} (e1 : b1 = a1) (e2 : b2 = a2) (hs : b2 = 0 ∨ b2 = 1) (h : IV σ) (o : (r1, σ1 7 0) = (g_hide (σ 187) a1 a2).1 ∧ Asm σ1 20 (g_hide (σ 187) a1 a2).2 ∧ frHa σ σ1) (hd : 25 ≤ d) : cI d m_X12_hide [vr 182, vi b1, vi b2] (SH L) σ1 (fun r2 σ2 => r1 = r2 ∧ IV σ2) := by
  subst e1 e2
  have e := o.2.2.row (a := 187) (by omega)
  exact (t_hide hs (by rw [e]; exact h.W) (by omega)).mono (fun r2 σ2 q => IV.h h (hk_hide hs h.W h.h8) o.1 o.2.1 o.2.2 (by have z := q.1; rw [e] at z; exact z) q.2)
theorem w_share {d L : Nat} {σ σ1 : Sg} {r1 a1 b1 : Int} (e1 : b1 = a1) (h : IV σ) (o : ((r1, σ1 7 0), σ1 7 1, σ1 7 2) = g_share (σ 187) (σ 7 1) (σ 7 2) a1 ∧ frFr σ σ1) (hd : 25 ≤ d) : cI d m_X12_share [vr 182, vi b1] (SH L) σ1 (fun r2 σ2 => r1 = r2 ∧ IV σ2) := by
  subst e1
  have e := o.2.row (a := 187) (by omega)
  have e2 := o.2.row (a := 182) (by omega)
  exact (t_share (by rw [e]; exact h.W.wq) (by rw [e]; exact h.W.wr) (by omega)).mono (fun r2 σ2 q => IV.q h o.1 o.2 (by have z := q.1; rw [e, e2, ← h.2.1.1, ← h.2.1.2] at z; exact z) q.2.z)
theorem w_seek {d L : Nat} {σ σ1 : Sg} {r1 : Int} (h : IV σ) (o : ((r1, σ1 7 0), σ1 7 1, σ1 7 2) = g_seek (σ 187) (σ 7 1) (σ 7 2) ∧ frFr σ σ1) (hd : 25 ≤ d) : cI d m_X12_seek [vr 182] (SH L) σ1 (fun r2 σ2 => r1 = r2 ∧ IV σ2) := by
  have e := o.2.row (a := 187) (by omega)
  have e2 := o.2.row (a := 182) (by omega)
  exact (t_seek (by rw [e]; exact h.W) (by omega)).mono (fun r2 σ2 q => IV.q h o.1 o.2 (by have z := q.1; rw [e, e2, ← h.2.1.1, ← h.2.1.2] at z; exact z) q.2.z)
theorem w_mean {d L : Nat} {σ σ1 : Sg} {r1 a1 a2 b1 b2 : Int} (e1 : b1 = a1) (e2 : b2 = a2) (h : IV σ) (o : ((r1, σ1 7 0), σ1 7 1, σ1 7 2) = g_mean (bu (bu (σ 182) 1 0) 0 0) (σ 187) (σ 7 1) (σ 7 2) a1 a2 ∧ frFr σ σ1) (hd : 25 ≤ d) : cI d m_X12_mean [vr 182, vi b1, vi b2] (SH L) σ1 (fun r2 σ2 => r1 = r2 ∧ IV σ2) := by
  subst e1 e2
  have e := o.2.row (a := 187) (by omega)
  have e2 := o.2.row (a := 182) (by omega)
  exact (t_mean (by rw [e]; exact h.W) (by rw [e]; exact h.h8) (by rw [e]; exact h.wf) (by omega)).mono (fun r2 σ2 q => IV.q h o.1 o.2 (by have z := q.1; rw [e, e2, ← h.2.1.1, ← h.2.1.2] at z; exact z) q.2.z)
theorem wt_tray {s y n : Int → Int} {t k m : Int} (h : WT y) : WT (g_tray s y n t k m).2.2.1 := by
  unfold g_tray
  split
  · split
    · exact h
    · split
      · exact h
      · intro u p q
        show -1 ≤ bu y t m u ∧ bu y t m u ≤ 60
        by_cases e : u = t
        · rw [bu_e e]; omega
        · rw [bu_n e]; exact h u p q
  · exact h
theorem IV.t2 {σ σ1 σ2 : Sg} {r1 r2 : Int} {p : Int × Int} {n' : Int → Int} (h : IV σ) (u : (r1, σ1 7 0) = p) (hT : Trs σ1 (σ 183) (σ 184) n') (fu : frTr σ σ1) (t : ((r2, σ2 182 0), σ2 185) = (p, n')) (ft : frT σ1 σ2) : r1 = r2 ∧ IV σ2 := by
  have e3 : σ2 183 = σ 183 := rw_e (fun j => by rw [ft 183 j (by decide) (by omega), fu 183 j (by omega) (by omega) (by omega)])
  have e4 : σ2 184 = σ 184 := rw_e (fun j => by rw [ft 184 j (by decide) (by omega), fu 184 j (by omega) (by omega) (by omega)])
  have e5 : σ2 185 = n' := congrArg Prod.snd t
  exact IV.t h u fu (congrArg Prod.fst t) ft.y (by rw [e3, e4, e5]; exact hT) (by rw [e4]; exact h.wt)
theorem w_tray {d L : Nat} {σ σ1 : Sg} {r1 a1 a2 a3 b1 b2 b3 : Int} (e1 : b1 = a1) (e2 : b2 = a2) (e3 : b3 = a3) (h : IV σ) (o : (r1, σ1 7 0) = (g_tray (σ 183) (σ 184) (σ 185) a1 a2 a3).1 ∧ Trs σ1 (g_tray (σ 183) (σ 184) (σ 185) a1 a2 a3).2.1 (g_tray (σ 183) (σ 184) (σ 185) a1 a2 a3).2.2.1 (g_tray (σ 183) (σ 184) (σ 185) a1 a2 a3).2.2.2 ∧ frTr σ σ1) (hd : 25 ≤ d) : cI d m_X12_tray [vr 182, vi b1, vi b2, vi b3] (SH L) σ1 (fun r2 σ2 => r1 = r2 ∧ IV σ2) := by
  subst e1 e2 e3
  have e3 := o.2.2.row (a := 183) (by omega)
  have e4 := o.2.2.row (a := 184) (by omega)
  have e5 := o.2.2.row (a := 185) (by omega)
  refine (t_tray (by omega)).mono (fun r2 σ2 q => ?_)
  have z := q.1
  rw [e3, e4, e5] at z
  have z3 := congrArg (fun q => q.2.1) z
  have z4 := congrArg (fun q => q.2.2.1) z
  have z5 := congrArg (fun q => q.2.2.2) z
  dsimp only at z3 z4 z5
  exact IV.t h o.1 o.2.2 (congrArg Prod.fst z) q.2 (by rw [z3, z4, z5]; exact o.2.1) (by rw [z4]; exact wt_tray h.wt)
theorem w_write {d L : Nat} {σ σ1 : Sg} {r1 a1 a2 a3 b1 b2 b3 : Int} (e1 : b1 = a1) (e2 : b2 = a2) (e3 : b3 = a3) (h : IV σ) (o : (r1, σ1 7 0) = (g_write (σ 184) (σ 183) (σ 185) a1 a2 a3).1 ∧ Trs σ1 (σ 183) (σ 184) (g_write (σ 184) (σ 183) (σ 185) a1 a2 a3).2 ∧ frTr σ σ1) (hd : 25 ≤ d) : cI d m_X12_write [vr 182, vi b1, vi b2, vl b3] (SH L) σ1 (fun r2 σ2 => r1 = r2 ∧ IV σ2) := by
  subst e1 e2 e3
  have e3 := o.2.2.row (a := 183) (by omega)
  have e4 := o.2.2.row (a := 184) (by omega)
  have e5 := o.2.2.row (a := 185) (by omega)
  have e7 := o.2.2.row (a := 187) (by omega)
  exact (t_write (by rw [e4]; exact h.wt) (by omega)).mono (fun r2 σ2 q => IV.t2 h o.1 o.2.1 o.2.2 (by have z := q.1; rw [e4, e3, e5] at z; exact z) q.2)
theorem w_pour {d L : Nat} {σ σ1 : Sg} {r1 a1 a2 a3 a4 a5 b1 b2 b3 b4 b5 : Int} (e1 : b1 = a1) (e2 : b2 = a2) (e3 : b3 = a3) (e4 : b4 = a4) (e5 : b5 = a5) (p2 : r32 b2) (p4 : r32 b4) (p5 : r32 b5) (h : IV σ) (o : (r1, σ1 7 0) = (g_pour (σ 184) (σ 183) (σ 185) a1 a2 a3 a4 a5).1 ∧ Trs σ1 (σ 183) (σ 184) (g_pour (σ 184) (σ 183) (σ 185) a1 a2 a3 a4 a5).2 ∧ frTr σ σ1) (hd : 25 ≤ d) : cI d m_X12_pour [vr 182, vi b1, vi b2, vi b3, vi b4, vi b5] (SH L) σ1 (fun r2 σ2 => r1 = r2 ∧ IV σ2) := by
  subst e1 e2 e3 e4 e5
  have e3 := o.2.2.row (a := 183) (by omega)
  have e4 := o.2.2.row (a := 184) (by omega)
  have e5 := o.2.2.row (a := 185) (by omega)
  have e7 := o.2.2.row (a := 187) (by omega)
  exact (t_pour (by rw [e4]; exact h.wt) p2 p4 p5 (by omega)).mono (fun r2 σ2 q => IV.t2 h o.1 o.2.1 o.2.2 (by have z := q.1; rw [e4, e3, e5] at z; exact z) q.2)
theorem w_copyCounts {d L : Nat} {σ σ1 : Sg} {r1 a1 b1 : Int} (e1 : b1 = a1) (h : IV σ) (o : (r1, σ1 7 0) = (g_copyCounts (σ 187) (σ 184) (σ 185) a1).1 ∧ Trs σ1 (σ 183) (σ 184) (g_copyCounts (σ 187) (σ 184) (σ 185) a1).2 ∧ frTr σ σ1) (hd : 25 ≤ d) : cI d m_X12_copyCounts [vr 182, vi b1] (SH L) σ1 (fun r2 σ2 => r1 = r2 ∧ IV σ2) := by
  subst e1
  have e3 := o.2.2.row (a := 183) (by omega)
  have e4 := o.2.2.row (a := 184) (by omega)
  have e5 := o.2.2.row (a := 185) (by omega)
  have e7 := o.2.2.row (a := 187) (by omega)
  exact (t_copyCounts (by rw [e7]; exact h.W) (by omega)).mono (fun r2 σ2 q => IV.t2 h o.1 o.2.1 o.2.2 (by have z := q.1; rw [e7, e4, e5] at z; exact z) q.2)
theorem w_feed {d L : Nat} {σ σ1 : Sg} {r1 a1 a2 a3 a4 a5 b1 b2 b3 b4 b5 : Int} (e1 : b1 = a1) (e2 : b2 = a2) (e3 : b3 = a3) (e4 : b4 = a4) (e5 : b5 = a5) (h : IV σ) (o : ((r1, σ1 17 0), σ1 18) = g_feed (σ 18) (σ 17 0) a1 a2 a3 a4 a5 ∧ frFd σ σ1) (hd : 25 ≤ d) : cI d m_X12_feed [vr 182, vi b1, vi b2, vi b3, vi b4, vi b5] (SH L) σ1 (fun r2 σ2 => r1 = r2 ∧ IV σ2) := by
  subst e1 e2 e3 e4 e5
  have e2 := o.2.row (a := 182) (by omega)
  have e6 := o.2.row (a := 186) (by omega)
  have hC := h.C
  exact (t_feed (by rw [e2, ← hC.1.1]; exact hC.1.2) (by omega)).mono (fun r2 σ2 q => IV.fd h o.1 o.2 (by have z := q.1; rw [e2, e6, ← hC.2.1, ← hC.1.1] at z; exact z) q.2)
theorem IV.id {σ σ2 : Sg} (h : IV σ) (f : frM σ σ2) (e : σ2 182 0 = σ 182 0) : IV σ2 := by
  refine ⟨?_, IVr.cg h.2 (fun a j c => ?_)⟩
  · unfold IVS; rw [f 7 0 (by omega), e]; exact h.1
  · unfold Cel at c; exact f a j (by omega)
theorem w_status {d L : Nat} {σ σ1 : Sg} {r1 : Int} (h : IV σ) (o : r1 = σ 7 0 ∧ σ1 = σ) (hd : 25 ≤ d) : cI d m_X12_status [vr 182] (SH L) σ1 (fun r2 σ2 => r1 = r2 ∧ IV σ2) := by
  obtain ⟨o1, o2⟩ := o
  subst o2
  exact (t_status).mono (fun r2 σ2 q => ⟨o1.trans (h.1.trans q.1.symm), h.id q.2.1 q.2.2⟩)
theorem w_top {d L : Nat} {σ σ1 : Sg} {r1 : Int} (h : IV σ) (o : r1 = σ 7 1 ∧ σ1 = σ) (hd : 25 ≤ d) : cL d m_X12_top [vr 182] (SH L) σ1 (fun r2 σ2 => r1 = r2 ∧ IV σ2) := by
  obtain ⟨o1, o2⟩ := o
  subst o2
  exact (t_top).mono (fun r2 σ2 q => ⟨o1.trans (h.2.1.1.trans q.1.symm), h.id q.2.1 q.2.2⟩)
theorem w_bottom {d L : Nat} {σ σ1 : Sg} {r1 : Int} (h : IV σ) (o : r1 = σ 7 2 ∧ σ1 = σ) (hd : 25 ≤ d) : cL d m_X12_bottom [vr 182] (SH L) σ1 (fun r2 σ2 => r1 = r2 ∧ IV σ2) := by
  obtain ⟨o1, o2⟩ := o
  subst o2
  exact (t_bottom).mono (fun r2 σ2 q => ⟨o1.trans (h.2.1.2.trans q.1.symm), h.id q.2.1 q.2.2⟩)
theorem w_fault {d L : Nat} {σ σ1 : Sg} {r1 a1 b1 : Int} (e1 : b1 = a1) (h : IV σ) (o : r1 = (if a1 = 0 then σ 17 1 else if a1 = 1 then σ 17 2 else -1) ∧ σ1 = σ) (hd : 25 ≤ d) : cI d m_X12_fault [vr 182, vi b1] (SH L) σ1 (fun r2 σ2 => r1 = r2 ∧ IV σ2) := by
  subst e1
  obtain ⟨o1, o2⟩ := o
  subst o2
  have hD := h.2.2.2.2.1
  exact (t_fault).mono (fun r2 σ2 q => ⟨by rw [o1, q.1, hD.1, hD.2], h.id q.2.1 q.2.2⟩)
theorem w_live {d L : Nat} {σ σ1 : Sg} {r1 a1 b1 : Int} (e1 : b1 = a1) (h : IV σ) (o : (r1, σ1 7 0, σ1 7 15) = (g_live (bu (bu (σ 182) 1 0) 0 0) (σ 187) (σ 193) a1).1 ∧ Asm σ1 20 (g_live (bu (bu (σ 182) 1 0) 0 0) (σ 187) (σ 193) a1).2.1 ∧ (∀ j, 0 ≤ j → j ≤ 4 → σ1 180 j = (g_live (bu (bu (σ 182) 1 0) 0 0) (σ 187) (σ 193) a1).2.2 j) ∧ frLv σ σ1) (hd : 25 ≤ d) : cI d m_X12_live [vr 182, vi b1] (SH L) σ1 (fun r2 σ2 => r1 = r2 ∧ IV σ2) := by
  subst e1
  have e := o.2.2.2.row (a := 187) (by omega)
  have e2 := o.2.2.2.row (a := 182) (by omega)
  have e3 := o.2.2.2.row (a := 193) (by omega)
  exact (t_live (by rw [e]; exact h.W) (by rw [e]; exact h.h8) (by rw [e]; exact h.wf) (by omega)).mono (fun r2 σ2 q => IV.lv h (hk_live h.W h.h8 h.wf) o.1 o.2.1 o.2.2.1 o.2.2.2 (by have z := q.1; rw [e, e2, e3] at z; exact z) q.2)
theorem mk_r {σ σ1 : Sg} {r1 : Int} (hm : 0 ≤ σ 7 8) (u : (σ 7 8 = 3 ∧ r1 = -1 ∧ σ1 = up σ 7 0 7) ∨ (σ 7 8 < 3 ∧ r1 = σ 7 8 + 1 ∧ ∃ σ', CpA σ σ' (77 + 28 * σ 7 8) 20 ∧ σ1 = up (up σ' 7 8 (σ 7 8 + 1)) 7 0 0)) {a : Int} (ha : a < 7 ∨ 161 ≤ a) : σ1 a = σ a := by
  rcases u with ⟨_, _, e⟩ | ⟨n3, _, σ', cp, e⟩
  · rw [e, up_row (by omega)]
  · rw [e, up_row (by omega), up_row (by omega), cp.2.2.2.2.2.2.2.2 a (by omega)]
theorem bk_r {σ σ1 : Sg} {r1 : Int} (u : (σ 7 8 = 0 ∧ r1 = -1 ∧ σ1 = up σ 7 0 8) ∨ (0 < σ 7 8 ∧ r1 = σ 7 8 - 1 ∧ ∃ σ', CpA (up σ 7 8 (σ 7 8 - 1)) σ' 20 (77 + 28 * (σ 7 8 - 1)) ∧ σ1 = up σ' 7 0 0)) {a : Int} (ha : a < 7 ∨ 161 ≤ a) : σ1 a = σ a := by
  rcases u with ⟨_, _, e⟩ | ⟨n3, _, σ', cp, e⟩
  · rw [e, up_row (by omega)]
  · rw [e, up_row (by omega), cp.2.2.2.2.2.2.2.2 a (by omega), up_row (by omega)]
theorem w_mark {d L : Nat} {σ σ1 : Sg} {r1 : Int} (h : IV σ) (o : (σ 7 8 = 3 ∧ r1 = -1 ∧ σ1 = up σ 7 0 7) ∨ (σ 7 8 < 3 ∧ r1 = σ 7 8 + 1 ∧ ∃ σ', CpA σ σ' (77 + 28 * σ 7 8) 20 ∧ σ1 = up (up σ' 7 8 (σ 7 8 + 1)) 7 0 0)) (hd : 25 ≤ d) : cI d m_X12_mark [vr 182] (SH L) σ1 (fun r2 σ2 => r1 = r2 ∧ IV σ2) := by
  have e := mk_r h.G.1.2.1 o (a := 187) (by omega)
  have e2 := mk_r h.G.1.2.1 o (a := 182) (by omega)
  have e9 := mk_r h.G.1.2.1 o (a := 190) (by omega)
  have hG := h.G.1
  exact (t_mark (by rw [e2, ← hG.1]; exact hG.2) (by omega)).mono (fun r2 σ2 q => IV.mk h o (by have z := q.1; rw [e, e2, e9] at z; exact z) q.2)
theorem w_back {d L : Nat} {σ σ1 : Sg} {r1 : Int} (h : IV σ) (o : (σ 7 8 = 0 ∧ r1 = -1 ∧ σ1 = up σ 7 0 8) ∨ (0 < σ 7 8 ∧ r1 = σ 7 8 - 1 ∧ ∃ σ', CpA (up σ 7 8 (σ 7 8 - 1)) σ' 20 (77 + 28 * (σ 7 8 - 1)) ∧ σ1 = up σ' 7 0 0)) (hd : 25 ≤ d) : cI d m_X12_back [vr 182] (SH L) σ1 (fun r2 σ2 => r1 = r2 ∧ IV σ2) := by
  have e := bk_r o (a := 187) (by omega)
  have e2 := bk_r o (a := 182) (by omega)
  have e9 := bk_r o (a := 190) (by omega)
  have hG := h.G.1
  exact (t_back (by rw [e2, ← hG.1]; exact hG.2) (by omega)).mono (fun r2 σ2 q => IV.bk h o (by have z := q.1; rw [e, e2, e9] at z; exact z) q.2)
theorem as_r {σ σ1 : Sg} {r1 n : Int} {X : Ps} (o : ASx σ σ1 r1 n X) {a : Int} (ha : a < 7 ∨ 180 ≤ a) : σ1 a = σ a := by
  rcases o with ⟨_, _, e⟩ | ⟨_, _, _, _, _, _, f, _⟩ | ⟨_, _, _, _, _, _, _, _, f, _⟩
  · rw [e, up_row (by omega)]
  · exact f a (by omega) (by omega) (by omega) (by omega)
  · exact f a (by omega) (by omega) (by omega) (by omega)
theorem se_r {σ σ1 : Sg} {r1 n : Int} {X : Ps} (o : SEx σ σ1 r1 n X) {a : Int} (ha : a < 7 ∨ 180 ≤ a) : σ1 a = σ a := by
  rcases o with ⟨_, _, e⟩ | ⟨_, _, _, _, _, _, f, _⟩ | ⟨_, _, _, _, _, _, _, f, _⟩
  · rw [e, up_row (by omega)]
  · exact f a (by omega) (by omega) (by omega) (by omega)
  · exact f a (by omega) (by omega) (by omega) (by omega)
theorem w_assembly {d L : Nat} {σ σ1 : Sg} {r1 a1 b1 : Int} (e1 : b1 = a1) (h : IV σ) (o : ASx σ σ1 r1 a1 (pAs (σ 18) 1000 (pAs0 (σ 18) (σ 182) (σ 187) (σ 190) a1))) (hd : 25 ≤ d) : cI d m_X12_assembly [vr 182, vi b1] (SH L) σ1 (fun r2 σ2 => r1 = r2 ∧ IV σ2) := by
  subst e1
  have hC := h.C
  refine (t_assembly (by rw [as_r o (a := 186) (by omega), ← hC.2.1]; exact hC.2.2) (by omega)).mono (fun r2 σ2 q => ?_)
  have z := h.as o
  exact ⟨z.1.trans q.1.symm, by rw [q.2]; exact z.2⟩
theorem w_sessions {d L : Nat} {σ σ1 : Sg} {r1 a1 b1 : Int} (e1 : b1 = a1) (h : IV σ) (o : SEx σ σ1 r1 a1 (pSe (σ 18) 40 (pSe0 (σ 18) (σ 182) (σ 187) (σ 190) a1))) (hd : 25 ≤ d) : cI d m_X12_sessions [vr 182, vi b1] (SH L) σ1 (fun r2 σ2 => r1 = r2 ∧ IV σ2) := by
  subst e1
  have hC := h.C
  refine (t_sessions (by rw [se_r o (a := 187) (by omega)]; exact h.hc) (by rw [se_r o (a := 186) (by omega), ← hC.2.1]; exact hC.2.2) (by omega)).mono (fun r2 σ2 q => ?_)
  have z := h.se o
  exact ⟨z.1.trans q.1.symm, by rw [q.2]; exact z.2⟩
