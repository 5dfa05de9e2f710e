/-! ===== the class: the assembly read, whole (text laid by gencls71.py) ===== -/
theorem u_sreset59 {d L : Nat} {σ : Sg}  : cV d m_X5_reset [vr 59] (SH L) σ (fun σ' => σ' = up (up σ 59 0 0) 59 1 0) :=
  cV.go rfl rfl (Go.sym (cut := []) 8 ⟨⟨rfl, (ib rfl), (by decide)⟩, ⟨⟨rfl, (ib rfl)⟩, ⟨rfl, rfl, rfl⟩⟩⟩)
def RS0 (σ σ' : Sg) : Prop := (σ' 48 1 = 0 ∧ σ' 48 3 = 0 ∧ σ' 48 4 = 0 ∧ σ' 48 5 = 0 ∧ σ' 48 6 = 0) ∧ (σ' 49 0 = σ 1 0 ∧ σ' 49 1 = σ 1 1 ∧ σ' 49 2 = σ 1 2 ∧ σ' 49 3 = σ 1 3) ∧ (∀ j, 0 ≤ j → j < 5 → σ' 50 j = 0) ∧ (σ' 59 0 = 0 ∧ σ' 59 1 = 0) ∧ ∀ q, q ≠ 48 → q ≠ 49 → q ≠ 50 → q ≠ 59 → σ' q = σ q
theorem RS0.h {σ : Sg} : RS0 σ (up (up (up (up (up (up (up (sr (cpy σ 1 0 49 0 4) 50 (r10 5 (fun _ => 0) (cpy σ 1 0 49 0 4 50))) 48 1 0) 48 3 0) 48 4 0) 48 5 0) 48 6 0) 59 0 0) 59 1 0) := by
  refine ⟨⟨?_, ?_, ?_, ?_, ?_⟩, ⟨?_, ?_, ?_, ?_⟩, fun j x1 x2 => ?_, ⟨?_, ?_⟩, fun q x1 x2 x3 x4 => ?_⟩
  · simp (disch := decide) only [up_eq, up_nj, up_row]
  · simp (disch := decide) only [up_eq, up_nj, up_row]
  · simp (disch := decide) only [up_eq, up_nj, up_row]
  · simp (disch := decide) only [up_eq, up_nj, up_row]
  · simp (disch := decide) only [up_eq, up_nj, up_row]
  · simp (disch := decide) only [up_row, sr_n]; exact cpy_i (by decide)
  · simp (disch := decide) only [up_row, sr_n]; exact cpy_i (by decide)
  · simp (disch := decide) only [up_row, sr_n]; exact cpy_i (by decide)
  · simp (disch := decide) only [up_row, sr_n]; exact cpy_i (by decide)
  · simp (disch := decide) only [up_row, sr_e]; unfold r10; rw [if_pos ⟨x1, x2⟩]
  · simp (disch := decide) only [up_eq, up_nj]
  · exact up_eq
  · rw [up_row x4, up_row x4, up_row x1, up_row x1, up_row x1, up_row x1, up_row x1, sr_n x3, cpy_n x2]
theorem u_reset48 {d L : Nat} {σ : Sg}  (hd : 1 ≤ d) : cV d m_X0_reset [vr 48] (SH L) σ (fun σ' => RS0 σ σ') :=
  cV.go rfl rfl (Go.sym (cut := []) 31 ⟨rfl, ⟨⟨(nb rfl), rfl, (ib rfl), (il rfl), (il rfl), (il rfl), (il rfl), (il rfl), (nb rfl)⟩, ⟨rfl, ⟨⟨nb rfl, nb rfl⟩, ⟨d0 hd, nb rfl⟩, cV.det (u_fill50) ⟨⟨rfl, (ib rfl)⟩, ⟨⟨rfl, (ib rfl)⟩, ⟨⟨rfl, (ib rfl)⟩, ⟨⟨rfl, (ib rfl)⟩, ⟨⟨rfl, (ib rfl)⟩, ⟨rfl, ⟨⟨nb rfl, nb rfl, rfl⟩, ⟨d0 hd, nb rfl⟩, cV.det (u_sreset59) ⟨rfl, rfl, RS0.h⟩⟩⟩⟩⟩⟩⟩⟩⟩⟩⟩⟩)
theorem eb_j {c : Int → Int} {j : Int} (h : 0 ≤ j ∧ j < 398) : bk (eBm 1592 10 c) j = E0m 10 j := by
  unfold bk eBm; rw [if_pos (by omega)]; congr 1; omega
theorem RS0.pd {σ σ1 σ2 : Sg} {g c v : Int → Int} (h : RS0 σ σ1) (hL : LWs σ) (e : ∀ q, 48 ≤ q → q ≤ 75 → σ2 q = σ1 q) (e2 : σ2 168 2 = g 25) : PD σ2 (g, eBm 1592 10 c, v) := by
  obtain ⟨a1, a2, a3, a4, _⟩ := h
  have l1 := hL.1
  have b0 : bk (eBm 1592 10 c) 0 = 0 := (eb_j (by decide)).trans (by decide)
  have b1 : bk (eBm 1592 10 c) 1 = 0 := (eb_j (by decide)).trans (by decide)
  have b2 : bk (eBm 1592 10 c) 2 = 0 := (eb_j (by decide)).trans (by decide)
  have b3 : bk (eBm 1592 10 c) 3 = 0 := (eb_j (by decide)).trans (by decide)
  have b4 : bk (eBm 1592 10 c) 4 = 50 := (eb_j (by decide)).trans (by decide)
  have b5 : bk (eBm 1592 10 c) 5 = 9 := (eb_j (by decide)).trans (by decide)
  have b6 : bk (eBm 1592 10 c) 6 = 1 := (eb_j (by decide)).trans (by decide)
  have b7 : bk (eBm 1592 10 c) 7 = 10 := (eb_j (by decide)).trans (by decide)
  have b8 : bk (eBm 1592 10 c) 8 = 0 := (eb_j (by decide)).trans (by decide)
  have bz : ∀ j, 8 ≤ j → j ≤ 13 → bk (eBm 1592 10 c) j = 0 := fun j x y => (eb_j (by omega)).trans (by unfold E0m; (repeat' split) <;> omega)
  refine ⟨⟨?_, ?_, ?_⟩, e2, ?_, ?_⟩ <;> dsimp only
  · refine ⟨?_, ?_, ⟨fun j x y => ?_, ?_⟩, fun m x y => ?_, fun k x y => ?_, fun r x y => ?_⟩
    · rw [e 48 (by decide) (by decide), b0, b1, b2, b3, b8]; exact ⟨a1.2.1, a1.2.2.1, a1.2.2.2.1, a1.2.2.2.2, a1.1⟩
    · rw [e (48 + 1) (by decide) (by decide), b4, b5, b6, b7]; exact ⟨a2.1.trans l1.1, a2.2.1.trans l1.2.1, a2.2.2.1.trans l1.2.2.1, a2.2.2.2.trans l1.2.2.2⟩
    · rw [e (48 + 2) (by decide) (by decide), bz _ (by omega) (by omega)]; exact a3 j x (by omega)
    · rw [e (48 + 2) (by decide) (by decide), bz _ (by omega) (by omega)]; exact a3 4 (by decide) (by decide)
    · rw [b1] at y; omega
    · rw [b2] at y; omega
    · rw [b3] at y; omega
  · refine ⟨fun k x y => ?_, fun k x y => ?_, fun k x y => ?_, fun k x y => ?_⟩
    · rw [b0] at y; omega
    · rw [b1] at y; omega
    · rw [b2] at y; omega
    · rw [b3] at y; omega
  · refine ⟨?_, ?_, ?_, ?_, ?_, ?_, ?_, ?_, ?_, fun j x y => ?_, fun m x y => ?_, fun k x y => ?_, fun r x y => ?_⟩
    · rw [b0]; decide
    · rw [b1]; decide
    · rw [b2]; decide
    · rw [b3]; decide
    · rw [b4]; decide
    · rw [b5]; decide
    · rw [b6]; decide
    · rw [b7]; decide
    · rw [b8]; decide
    · rw [bz j (by omega) y, b8]; decide
    · rw [b1] at y; omega
    · rw [b2] at y; omega
    · rw [b3] at y; omega
  · intro m x y
    rw [b1] at x
    rw [eb_j (by omega), eb_j (by omega), eb_j (by omega), eb_j (by omega), eb_j (by omega), eb_j (by omega), eb_j (by omega)]
    refine ⟨?_, ?_, ?_, ?_, ?_, ?_, ?_⟩ <;> (unfold E0m; (repeat' split) <;> omega)
  · rw [e 59 (by decide) (by decide)]
    exact ⟨a4.1, a4.2, (eb_j (by decide)).trans (by decide), (eb_j (by decide)).trans (by decide)⟩
theorem LWs.fp {σ σ' : Sg} (h : LWs σ) (f : frPr σ σ') : LWs σ' := by
  unfold LWs at *; rw [f 1 (by decide) (by decide) (by decide), f 2 (by decide) (by decide) (by decide), f 3 (by decide) (by decide) (by decide)]; exact h
theorem PO.ok {y : Int → Int} {σ : Sg} {x : Ps} {r : Int} (h : PO y σ r x) (z : ¬ r = 0) : PC y σ x := h.elim (fun q => q.2) (fun q => absurd q.1 z)
theorem PO.no {y : Int → Int} {σ : Sg} {x : Ps} {r : Int} (h : PO y σ r x) (z : r = 0) : TF σ x.1 := h.elim (fun q => by have := q.1; omega) (fun q => q.2)
theorem u_parse_l {d L : Nat} {y : Int → Int} {n : Int} (hd : 6 ≤ d) : ∀ (k : Nat) (m : Int) (σ : Sg) (x : Ps), PC y σ x → PI y x → LWs σ → 0 ≤ m → (¬ x.1 14 = 0 → m < x.1 16) → (¬ x.1 14 = 0 → x.1 9 - x.1 16 < k) → Go d k_X1_parse 12 [vr 168, vi n, vi m] [] (SH L, σ) (fun v h' => ∃ r, v = some (vi r) ∧ h'.1 = SH L ∧ PO y h'.2 r (pAs y k x) ∧ frPr σ h'.2) := by
  intro k
  induction k using Nat.strongRecOn with
  | ind k ih =>
    intro m σ x hP hI hL h0 hm hk
    exact Go.sym (cut := [12]) 13 ⟨fun cqz1 => ⟨(by decide), ⟨_, rfl, rfl, ⟨Or.inl ⟨rfl, (by have z : (900 : Int) ≤ m := cqz1; have e : x.1 14 = 0 := Decidable.byContradiction (fun q => (by have := hm q; have := hI.1; unfold GI at this; omega)); rw [pAs_o (fun q => q.2 e)]; exact hP)⟩, frPr.rfl⟩⟩⟩, fun cqz1 => ⟨rfl, ⟨⟨nb rfl, nb rfl, rfl⟩, ⟨d0 hd, nb rfl⟩, cI.det (u_isAtEnd hP.1) ⟨fun cqz2 => ⟨(by decide), ⟨_, rfl, rfl, ⟨Or.inl ⟨rfl, (by have z : ¬ bi (x.1 14 = 0) = 0 := cqz2; have e : x.1 14 = 0 := Decidable.byContradiction (fun q => z (bi_f q)); rw [pAs_o (fun q => q.2 e)]; exact hP)⟩, frPr.rfl⟩⟩⟩, fun cqz2 => ⟨⟨nb rfl, nb rfl, rfl⟩, ⟨d0 hd, nb rfl⟩, cI.bind (u_takePart hP hL (ds (by omega : 5 + 1 ≤ d))) (fun r1 σ1 ⟨o9, f9⟩ => ⟨fun cqz3 => ((by have z0 : ¬ (900 : Int) ≤ m := cqz1; have z : ¬ ¬ bi (x.1 14 = 0) = 0 := cqz2; have e : ¬ x.1 14 = 0 := (fun q => z (by rw [bi_t q]; decide)); have pc := o9.ok cqz3; have k0 := hk e; have m0 := hm e; have gi := hI.1; unfold GI at gi; have pg := PG.asb hI; have n9 := pg.2.1.1 9 (by omega); have gr : ¬ (pAsB y x).1 14 = 0 → x.1 16 < (pAsB y x).1 16 := (fun q => asb_16 hI ⟨pc.1.2.2.1, q⟩); obtain ⟨k2, rfl⟩ : ∃ k2, k = k2 + 1 := ⟨k - 1, (by omega)⟩; rw [pAs_s ⟨hP.1.2.2.1, e⟩]; exact (ih k2 (by omega) (q32 (m + 1)) σ1 (pAsB y x) pc pg.1 (hL.fp f9) (by rw [q32_in (by omega) (by omega)]; omega) (fun q => by have := gr q; rw [q32_in (by omega) (by omega)]; omega) (fun q => by have := gr q; omega)).mono (fun v h' ⟨r, a1, a2, a3, a4⟩ => ⟨r, a1, a2, a3, f9.tr a4⟩))), fun cqz3 => ⟨(by decide), ⟨_, rfl, rfl, ⟨Or.inr ⟨rfl, (by have z : ¬ ¬ bi (x.1 14 = 0) = 0 := cqz2; have e : ¬ x.1 14 = 0 := (fun q => z (by rw [bi_t q]; decide)); have tf := o9.no (Decidable.of_not_not cqz3); have k0 := hk e; have gi := hI.1; unfold GI at gi; obtain ⟨k2, rfl⟩ : ∃ k2, k = k2 + 1 := ⟨k - 1, (by omega)⟩; rw [pAs_s ⟨hP.1.2.2.1, e⟩, pAs_o (fun q => by have := tf.1; have := q.1; omega)]; exact tf)⟩, f9⟩⟩⟩⟩)⟩⟩⟩⟩⟩
theorem pas_0 {y g : Int → Int} {n : Int} (h : 0 ≤ n ∧ n ≤ 900) : (¬ (bu (gSt y (gZ g) n) 25 0) 14 = 0 → 0 < (bu (gSt y (gZ g) n) 25 0) 16) ∧ (bu (gSt y (gZ g) n) 25 0) 9 = n := by
  have gi : GI (bu (bu (bu (bu (gZ g) 9 n) 8 0) 16 0) 12 0) := by
    unfold GI; simp (disch := decide) only [bu_e, bu_n]; omega
  refine ⟨fun q => ?_, ?_⟩
  · rw [bu_n (by decide)] at *
    have z := (mAdv_16 (y := y) gi).2 q
    rw [show (bu (bu (bu (bu (gZ g) 9 n) 8 0) 16 0) 12 0) 16 = 0 by simp (disch := decide) only [bu_e, bu_n]] at z
    exact z
  · rw [bu_n (by decide)]; unfold gSt; rw [mAdv_f (by omega)]; simp (disch := decide) only [bu_e, bu_n]
theorem KR.fr2 {σ σ' : Sg} (h : KR σ) (e : σ' 19 = σ 19) : KR σ' := by unfold KR at *; rw [e]; exact h
theorem u_parse {d L : Nat} {σ : Sg} {g c v : Int → Int} {n : Int} (hy : BY (σ 18)) (hK : KR σ) (hL : LWs σ) (hn : 0 ≤ n ∧ n ≤ 900) (hd : 6 ≤ d) : cI d m_X1_parse [vr 168, vi n] (SH L) σ (fun r σ' => PO (σ 18) σ' r (pAs (σ 18) 1000 (pAs0 (σ 18) g c v n)) ∧ frPr σ σ') :=
  cI.go rfl rfl (Go.sym (cut := [12]) 13 ⟨rfl, ⟨⟨nb rfl, nb rfl, rfl⟩, ⟨d0 hd, nb rfl⟩, cV.bind (u_reset48 (ds (by omega : 1 + 1 ≤ d))) (fun σ1 r1 => ⟨⟨rfl, (ib rfl)⟩, ⟨rfl, ⟨⟨nb rfl, nb rfl, rfl⟩, ⟨d0 hd, nb rfl⟩, cV.bind (u_begin (σ := up σ1 168 2 0) (g := (bu (bu (bu (bu (gZ g) 9 n) 8 0) 16 0) 12 0)) (n := n) (by rw [up_row (by decide), r1.2.2.2.2 18 (by decide) (by decide) (by decide) (by decide)]; exact hy) (KR.fr2 hK (by rw [up_row (by decide), r1.2.2.2.2 19 (by decide) (by decide) (by decide) (by decide)])) hn (by simp (disch := decide) only [bu_e, bu_n]) (by simp (disch := decide) only [bu_e, bu_n]) (by simp (disch := decide) only [bu_e, bu_n]) (ds (by omega : 2 + 1 ≤ d))) (fun σ2 ⟨b1, b2⟩ => ((by have tc : TC (σ 18) σ2 (bu (gSt (σ 18) (gZ g) n) 25 0) := (by have z := b1; rw [up_row (by decide), r1.2.2.2.2 18 (by decide) (by decide) (by decide) (by decide)] at z; exact TC.b25 z (Or.inl rfl)); have f2 : frPr σ σ2 := (fun q x1 x2 x3 => by rw [b2 q x1, up_row x3]; exact r1.2.2.2.2 q (by omega) (by omega) (by omega) (by omega)); have pd : PD σ2 (pAs0 (σ 18) g c v n) := RS0.pd r1 hL (fun q x1 x2 => by rw [b2 q (by omega), up_row (by omega)]) (by rw [b2 168 (by decide), up_eq]; exact (bu_e rfl).symm); have p0 := pas_0 (y := σ 18) (g := g) hn; have pi := pAs0_i (y := σ 18) (g := g) (c := c) (x := v) hn; have gi := pi.1; unfold GI at gi; exact (u_parse_l hd 1000 0 σ2 (pAs0 (σ 18) g c v n) ⟨tc, pd⟩ pi (hL.fp f2) (by decide) p0.1 (fun _ => by omega)).mono (fun v h' ⟨r, a1, a2, a3, a4⟩ => ⟨r, a1, a2, a3, f2.tr a4⟩))))⟩⟩⟩)⟩⟩)
