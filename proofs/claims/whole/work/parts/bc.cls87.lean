/-! ===== the class: sessions (text laid by gencls87.py) ===== -/
theorem u_sreset170 {d L : Nat} {σ : Sg}  : cV d m_X5_reset [vr 170] (SH L) σ (fun σ' => σ' = up (up σ 170 0 0) 170 1 0) :=
  cV.go rfl rfl (Go.sym (cut := []) 8 ⟨⟨rfl, (ib rfl), (by decide)⟩, ⟨⟨rfl, (ib rfl)⟩, ⟨rfl, rfl, rfl⟩⟩⟩)
theorem pse_0 {y g c v : Int → Int} {n : Int} (h : 0 ≤ n ∧ n ≤ 900) : (¬ (pSe0 y g c v n).1 14 = 0 → 0 < (pSe0 y g c v n).1 16) ∧ (pSe0 y g c v n).1 9 = n := by
  have p := pas_0 (y := y) (g := g) h
  have e : ∀ j, j ≠ 25 → j ≠ 26 → (pSe0 y g c v n).1 j = (bu (gSt y (gZ g) n) 25 0) j := fun j a b => by
    show bu (gSt y (gZ g) n) 26 0 j = _
    rw [bu_n b, bu_n a]
  rw [e 14 (by decide) (by decide), e 16 (by decide) (by decide), e 9 (by decide) (by decide)]
  exact p
theorem SC.z {y g c v : Int → Int} {σ : Sg} {n : Int} (tc : TC y σ (bu (gSt y (gZ g) n) 26 0)) (hn : 0 ≤ n ∧ n ≤ 300) (hc : ∀ s, 0 ≤ s → s ≤ 3 → 0 ≤ c s ∧ c s ≤ 10) (hH : HN σ c v) (e1 : σ 170 1 = 0) (e2 : σ 169 4 = 0) : SC y σ (pSe0 y g c v n) 0 ∧ MIp 0 (pSe0 y g c v n) ∧ 31 ≤ (pSe0 y g c v n).1 26 + ((40 : Nat) : Int) := by
  have e26 : (pSe0 y g c v n).1 26 = 0 := by show bu (gSt y (gZ g) n) 26 0 26 = 0; exact bu_e rfl
  have p := pse_0 (y := y) (g := g) (c := c) (v := v) (n := n) (by omega)
  refine ⟨⟨tc, pSe0_i (by omega) hc, hH, ⟨by rw [e26]; exact e1, e2, by decide, by decide⟩, fun s a b => ?_, fun s a b => ?_, fun i a b => ?_⟩, ⟨by decide, by decide, p.1, by rw [p.2]; omega⟩, by rw [e26]; decide⟩
  · rw [e26] at b; exfalso; omega
  · rw [e26] at b; exfalso; omega
  · exfalso; omega
def SPx (y : Int → Int) (σ σ' : Sg) (r : Int) (W : Ps) : Prop := (r = 1 ∧ ∃ τ, SC y τ W 0 ∧ FrS σ τ ∧ σ' = up τ 170 0 1) ∨ (r = 0 ∧ TF σ' W.1 ∧ FrS σ σ')
theorem SPx.b {y : Int → Int} {σ σ' : Sg} {r : Int} {W : Ps} (h : SPx y σ σ' r W) : r = 0 ∨ r = 1 := h.elim (fun q => Or.inr q.1) (fun q => Or.inl q.1)
theorem SPx.ok {y : Int → Int} {σ σ' : Sg} {r : Int} {W : Ps} (h : SPx y σ σ' r W) (z : ¬ r = 0) : ∃ τ, SC y τ W 0 ∧ FrS σ τ ∧ σ' = up τ 170 0 1 := h.elim (fun q => q.2) (fun q => absurd q.1 z)
theorem SPx.no {y : Int → Int} {σ σ' : Sg} {r : Int} {W : Ps} (h : SPx y σ σ' r W) (z : r = 0) : TF σ' W.1 ∧ FrS σ σ' := h.elim (fun q => absurd (q.1.symm.trans z) (by decide)) (fun q => q.2)
theorem u_sp_h {d L : Nat} {y g c v : Int → Int} {σ σ2 : Sg} {n : Int} {v3 : MV} (hd : 6 ≤ d) (tc : TC y σ2 (bu (gSt y (gZ g) n) 26 0)) (hn : 0 ≤ n ∧ n ≤ 300) (hc : ∀ s, 0 ≤ s → s ≤ 3 → 0 ≤ c s ∧ c s ≤ 10) (hH : HN σ2 c v) (e1 : σ2 170 1 = 0) (e2 : σ2 169 4 = 0) (f : FrS σ σ2) : Go d k_X6_parse 12 [vr 169, vi n, vi 0, v3] [] (SH L, σ2) (fun v9 h' => ∃ r, v9 = some (vi r) ∧ h'.1 = SH L ∧ SPx y σ h'.2 r (pSe y 40 (pSe0 y g c v n))) := by
  obtain ⟨sc, mi, q⟩ := SC.z tc hn hc hH e1 e2
  exact h_se (R := fun r σ' => SPx y σ σ' r (pSe y 40 (pSe0 y g c v n))) hd (fun σ' a b => Or.inl ⟨rfl, σ', a, b, rfl⟩) (fun σ' a b => Or.inr ⟨rfl, a, b⟩) 40 σ2 _ 0 sc mi q f rfl v3
theorem u_sparse {d L : Nat} {σ : Sg} {g c v : Int → Int} {n : Int} (hy : BY (σ 18)) (hK : KR σ) (hH : HN σ c v) (hc : ∀ s, 0 ≤ s → s ≤ 3 → 0 ≤ c s ∧ c s ≤ 10) (hn : 0 ≤ n ∧ n ≤ 300) (hd : 6 ≤ d) : cI d m_X6_parse [vr 169, vi n] (SH L) σ (fun r σ' => SPx (σ 18) σ σ' r (pSe (σ 18) 40 (pSe0 (σ 18) g c v n))) :=
  cI.go rfl rfl (Go.sym (cut := [12]) 13 ⟨rfl, ⟨⟨nb rfl, nb rfl, rfl⟩, ⟨d0 hd, nb rfl⟩, cV.det (u_sreset170) ⟨⟨rfl, (ib rfl)⟩, ⟨rfl, ⟨⟨nb rfl, nb rfl, rfl⟩, ⟨d0 hd, nb rfl⟩, cV.bind (u_begin (σ := (up (up (up σ 170 0 0) 170 1 0) 169 4 0)) (g := (bu (bu (bu (bu (gZ g) 9 n) 8 0) 16 0) 12 0)) (n := n) (by rw [up_row (by decide), up_row (by decide), up_row (by decide)]; exact hy) (KR.fr2 hK (by rw [up_row (by decide), up_row (by decide), up_row (by decide)])) (by omega) (by simp (disch := decide) only [bu_e, bu_n]) (by simp (disch := decide) only [bu_e, bu_n]) (by simp (disch := decide) only [bu_e, bu_n]) (ds (by omega : 2 + 1 ≤ d))) (fun σ2 ⟨b1, b2⟩ => ((u_sp_h hd (by have z := b1; rw [up_row (by decide), up_row (by decide), up_row (by decide)] at z; exact TC.b25 z (Or.inr rfl)) hn hc (hH.cg (fun q x1 x2 => by rw [b2 q (by omega), up_row (by omega), up_row (by omega), up_row (by omega)]) (fun _ _ _ => rfl)) (by rw [b2 170 (by decide), up_row (by decide), up_eq]) (by rw [b2 169 (by decide), up_eq]) (fun q x1 x2 => by rw [b2 q x2, up_row (by omega), up_row (by omega), up_row (by omega)]))))⟩⟩⟩⟩⟩)
def frSe (σ σ' : Sg) : Prop := (∀ q, q ≠ 7 → q ≠ 17 → ¬ (31 ≤ q ∧ q ≤ 37) → ¬ (169 ≤ q ∧ q ≤ 177) → σ' q = σ q) ∧ ∀ j, j ≠ 0 → σ' 7 j = σ 7 j
def pSB (X : Ps) : Int → Int := cpb (9 * X.1 26) 1720 128 (bu (bu X.2.1 126 1) 127 (X.1 26))
/-- what sessions answers: refused, ill told, taken -/
def SEx (σ σ' : Sg) (r n : Int) (X : Ps) : Prop := (¬ (0 ≤ n ∧ n ≤ min (σ 17 0) 300) ∧ r = -1 ∧ σ' = up σ 7 0 5) ∨ ((0 ≤ n ∧ n ≤ min (σ 17 0) 300) ∧ r = -1 ∧ TF σ' X.1 ∧ σ' 7 0 = 10 ∧ σ' 17 0 = 0 ∧ (∀ q, 31 ≤ q → q ≤ 37 → σ' q = σ q) ∧ frSe σ σ') ∨ ((0 ≤ n ∧ n ≤ min (σ 17 0) 300) ∧ r = X.1 26 ∧ X.1 12 = 0 ∧ (σ' 17 1 = 0 ∧ σ' 17 2 = -1) ∧ σ' 7 0 = 0 ∧ σ' 17 0 = 0 ∧ (Scr σ' 20 (pSB X) ∧ SWf (pSB X) 4 0 (X.1 26)) ∧ frSe σ σ')
theorem SEx.ill {σ σ1 : Sg} {n r1 : Int} {y : Int → Int} {X : Ps} (hn : 0 ≤ n ∧ n ≤ min (σ 17 0) 300) (o : SPx y σ σ1 r1 X) (z : r1 = 0) : SEx σ (up (up σ1 17 0 0) 7 0 10) (-1) n X := by
  obtain ⟨t, f⟩ := o.no z
  refine Or.inr (Or.inl ⟨hn, rfl, ?_, up_eq, ?_, fun q a b => ?_, fun q a b c e => ?_, fun j e => ?_⟩)
  · unfold TF at *
    simp (disch := decide) only [up_row, up_nj]; exact t
  · rw [up_row (by decide), up_eq]
  · rw [up_row (by omega), up_row (by omega), f q (by omega) (by omega)]
  · rw [up_row a, up_row b, f q e b]
  · rw [up_nj e, up_row (by decide), f 7 (by decide) (by decide)]
theorem pSB_i {X : Ps} {s i : Int} (h0 : 0 ≤ s) (h1 : s < X.1 26) (i0 : 0 ≤ i) (i8 : i ≤ 8) : pSB X (128 + 9 * s + i) = X.2.1 (1720 + 9 * s + i) := by
  unfold pSB
  rw [cpb_in (by omega), bu_n (by omega), bu_n (by omega)]
  exact congrArg X.2.1 (by omega)
theorem pSB_0 {X : Ps} {s : Int} (h0 : 0 ≤ s) (h1 : s < X.1 26) : pSB X (128 + 9 * s) = X.2.1 (1720 + 9 * s) := by
  have w := pSB_i h0 h1 (i := 0) (by decide) (by decide)
  rw [Int.add_zero, Int.add_zero] at w; exact w
theorem pSB_o {X : Ps} {j : Int} (h : j < 126) : pSB X j = X.2.1 j := by
  unfold pSB; rw [cpb_out (by omega), bu_n (by omega), bu_n (by omega)]
theorem pSB_6 {X : Ps} : pSB X 126 = 1 ∧ pSB X 127 = X.1 26 := by
  unfold pSB
  constructor
  · rw [cpb_out (by omega), bu_n (by decide), bu_e rfl]
  · rw [cpb_out (by omega), bu_e rfl]
theorem SEx.ok {σ σ1 σ2 : Sg} {n r1 : Int} {y : Int → Int} {X : Ps} (hn : 0 ≤ n ∧ n ≤ min (σ 17 0) 300) (o : SPx y σ σ1 r1 X) (z : ¬ r1 = 0) (hw : X.1 12 = 0 → NWf X.2.1 4 0 (X.1 26)) (cp : CpS (up σ1 17 0 0) σ2 20 159) : SEx σ (up σ2 7 0 0) (σ2 31 1) n X := by
  obtain ⟨τ, ⟨tc, hI, _, ⟨k1, _⟩, st, nx, _⟩, f, rfl⟩ := o.ok z
  obtain ⟨⟨s0, s1⟩, s2, s3⟩ := cp
  have h26 := hI.2.2.1
  have e1 : up (up τ 170 0 1) 17 0 0 (159 + 11) 1 = X.1 26 := by
    show up (up τ 170 0 1) 17 0 0 170 1 = _
    rw [up_row (by decide), up_nj (by decide)]; exact k1
  have e0 : up (up τ 170 0 1) 17 0 0 (159 + 11) 0 = 1 := by
    show up (up τ 170 0 1) 17 0 0 170 0 = _
    rw [up_row (by decide), up_eq]
  rw [e1] at s1 s2
  rw [e0] at s0
  have eR : ∀ i s, 12 ≤ i → i ≤ 17 → 0 ≤ s → s < X.1 26 → up σ2 7 0 0 (20 + i) s = τ (159 + i) s := fun i s a b c e => by
    rw [up_row (by omega), s2 i s a b c e, up_row (by omega), up_row (by omega)]
  have b6 := pSB_6 (X := X)
  have fq : ∀ q, q ≠ 17 → ¬ (31 ≤ q ∧ q ≤ 37) → ¬ (169 ≤ q ∧ q ≤ 177) → σ2 q = σ q := fun q a b c => by
    rw [s3 q (by omega), up_row a, up_row (by omega), f q c a]
  refine Or.inr (Or.inr ⟨hn, s1, tc.2.2.1, ⟨?_, ?_⟩, up_eq, ?_, ⟨⟨?_, ?_, fun s x1 x2 => ?_⟩, ?_⟩, fun q a b c e => ?_, fun j e => ?_⟩)
  · rw [up_row (by decide), s3 17 (by decide), up_nj (by decide), up_row (by decide)]; exact tc.2.2.2.1.1
  · rw [up_row (by decide), s3 17 (by decide), up_nj (by decide), up_row (by decide)]; exact tc.2.2.2.1.2
  · rw [up_row (by decide), s3 17 (by decide), up_eq]
  · rw [b6.1]; exact ⟨by rw [up_row (by decide)]; exact s0, Or.inr rfl⟩
  · rw [b6.2]; exact ⟨by rw [up_row (by decide)]; exact s1, h26⟩
  · rw [b6.2] at x2
    obtain ⟨d1, d2, d3, d4, d5⟩ := (st s x1 x2).1
    have n8 := nx s x1 x2 (fun i a b => by exfalso; omega)
    unfold StpC
    rw [pSB_0 x1 x2, pSB_i x1 x2 (i := 8) (by decide) (by decide), pSB_i x1 x2 (i := 1) (by decide) (by decide), pSB_i x1 x2 (i := 6) (by decide) (by decide), pSB_i x1 x2 (i := 7) (by decide) (by decide), pSB_i x1 x2 (i := 2) (by decide) (by decide), eR 12 s (by decide) (by decide) x1 x2, eR 13 s (by decide) (by decide) x1 x2, eR 14 s (by decide) (by decide) x1 x2, eR 15 s (by decide) (by decide) x1 x2, eR 16 s (by decide) (by decide) x1 x2, eR 17 s (by decide) (by decide) x1 x2]
    exact ⟨d1, n8, d3, d4, d5⟩
  · refine nw_swf h26.2 (fun s i a b c e => pSB_i a b c e) (fun s a b => ?_) 4 0 (X.1 26) (by decide) (by omega) (hw tc.2.2.1)
    obtain ⟨t1, t2⟩ := st s a b
    unfold SOK
    rw [pSB_0 a b, pSB_i a b (i := 1) (by decide) (by decide), pSB_i a b (i := 6) (by decide) (by decide), pSB_o (j := 1) (by decide), pSB_o (j := 2) (by decide)]
    exact ⟨t1.2.1, t2⟩
  · rw [up_row a]; exact fq q b c e
  · rw [up_nj e, fq 7 (by decide) (by decide) (by decide)]
theorem ses_w {y g c v : Int → Int} {n t : Int} (hn : 0 ≤ n ∧ n ≤ min t 300) (hc : ∀ s, 0 ≤ s → s ≤ 3 → 0 ≤ c s ∧ c s ≤ 10) (q : (pSe y 40 (pSe0 y g c v n)).1 12 = 0) : NWf (pSe y 40 (pSe0 y g c v n)).2.1 4 0 ((pSe y 40 (pSe0 y g c v n)).1 26) := by
  have e26 : (pSe0 y g c v n).1 26 = 0 := by show bu (gSt y (gZ g) n) 26 0 26 = 0; exact bu_e rfl
  have a := (nw_se (y := y) 40 _ (pSe0_i (y := y) (g := g) (x := v) (n := n) (by omega) hc) q).1
  rw [e26] at a; exact a
theorem u_sessions {d L : Nat} {σ : Sg} {g c v : Int → Int} {n : Int} (hy : BY (σ 18)) (hK : KR σ) (hH : HN σ c v) (hc : ∀ s, 0 ≤ s → s ≤ 3 → 0 ≤ c s ∧ c s ≤ 10) (hd : 7 ≤ d) : cI d m_X11_sessions [vr 7, vi n] (SH L) σ (fun r σ' => SEx σ σ' r n (pSe (σ 18) 40 (pSe0 (σ 18) g c v n))) :=
  cI.go rfl rfl (Go.sym (cut := []) 35 ⟨rfl, ⟨rfl, ⟨(nb rfl), ⟨⟨nb rfl, nb rfl⟩, ⟨d0 hd, nb rfl⟩, cI.det (u_isBetween) ⟨fun cqz1 => ⟨rfl, ⟨⟨nb rfl, nb rfl, rfl⟩, ⟨d0 hd, nb rfl⟩, cI.bind (u_sparse (g := g) (c := c) (v := v) (n := n) hy hK hH hc (by have z : 0 ≤ n ∧ n ≤ min (σ 17 0) 300 := bi_q cqz1; omega) (ds (by omega : 6 + 1 ≤ d))) (fun r1 σ1 o9 => ⟨rfl, ⟨⟨rfl, (ib rfl)⟩, ⟨fun cqz2 => ⟨rfl, ⟨rfl, ⟨rfl, ⟨rfl, ⟨⟨nb rfl, nb rfl, rfl⟩, ⟨d0 hd, nb rfl⟩, cV.bind (u_scopy20_159 (σ := up σ1 17 0 0) (by obtain ⟨τ, sc, _, rfl⟩ := o9.ok cqz2; rw [up_row (by decide), up_nj (by decide), sc.2.2.2.1.1]; exact sc.2.1.2.2.1) (by obtain ⟨τ, sc, _, rfl⟩ := o9.ok cqz2; rw [up_row (by decide), up_eq]; exact Or.inr rfl)) (fun σ2 cp => ⟨rfl, ⟨rfl, ⟨rfl, ⟨⟨nb rfl, nb rfl, rfl⟩, ⟨d0 hd, nb rfl⟩, cI.det (u_answer) ⟨_, rfl, rfl, (SEx.ok (bi_q cqz1) o9 cqz2 (ses_w (bi_q cqz1) hc) cp)⟩⟩⟩⟩⟩)⟩⟩⟩⟩⟩, fun cqz2 => ⟨⟨nb rfl, nb rfl, rfl⟩, ⟨d0 hd, nb rfl⟩, cI.det (u_refuse) ⟨_, rfl, rfl, (SEx.ill (bi_q cqz1) o9 (Decidable.of_not_not cqz2))⟩⟩⟩⟩⟩)⟩⟩, fun cqz1 => ⟨⟨nb rfl, nb rfl, rfl⟩, ⟨d0 hd, nb rfl⟩, cI.det (u_refuse) ⟨_, rfl, rfl, (Or.inl ⟨bi_nq (Decidable.of_not_not cqz1), rfl, rfl⟩)⟩⟩⟩⟩⟩⟩⟩)
