/-! ===== the class: assembly (text laid by gencls72.py) ===== -/
theorem PD.scr {σ : Sg} {x : Ps} (h : PD σ x) : Scr σ 48 (bk x.2.1) := by
  obtain ⟨_, _, _, z1, z2, z3, z4⟩ := h
  exact ⟨⟨by rw [z3]; exact z1, Or.inl z3⟩, ⟨by rw [z4]; exact z2, by omega, by omega⟩, fun s a b => by omega⟩
theorem PD.u17 {σ : Sg} {x : Ps} {j v : Int} (h : PD σ x) : PD (up σ 17 j v) x := h.fr (fun q x1 x2 => up_row (by omega)) (by rw [up_row (by decide)]) rfl rfl
theorem bi_q {c : Prop} [Decidable c] (h : ¬ bi c = 0) : c := Decidable.byContradiction (fun q => h (bi_f q))
theorem bi_nq {c : Prop} [Decidable c] (h : bi c = 0) : ¬ c := fun q => by rw [bi_t q] at h; exact absurd h (by decide)
def frAs (σ σ' : Sg) : Prop := (∀ q, q ≠ 7 → q ≠ 17 → ¬ (20 ≤ q ∧ q ≤ 75) → q ≠ 168 → σ' q = σ q) ∧ ∀ j, j ≠ 0 → σ' 7 j = σ 7 j
/-- what assembly answers: refused, ill told, taken -/
def ASx (σ σ' : Sg) (r n : Int) (X : Ps) : Prop := (¬ (0 ≤ n ∧ n ≤ σ 17 0) ∧ r = -1 ∧ σ' = up σ 7 0 5) ∨ ((0 ≤ n ∧ n ≤ σ 17 0) ∧ r = -1 ∧ TF σ' X.1 ∧ σ' 7 0 = 10 ∧ σ' 17 0 = 0 ∧ (∀ q, 20 ≤ q → q < 48 → σ' q = σ q) ∧ frAs σ σ') ∨ ((0 ≤ n ∧ n ≤ σ 17 0) ∧ r = X.2.1 1593 ∧ X.1 12 = 0 ∧ (σ' 17 1 = 0 ∧ σ' 17 2 = -1) ∧ σ' 7 0 = 0 ∧ σ' 17 0 = 0 ∧ (Asm σ' 20 (bk X.2.1) ∧ Nms σ' 20 (bk X.2.1) (wk X.2.2) ∧ Scr σ' 20 (bk X.2.1) ∧ WB (bk X.2.1)) ∧ (bk X.2.1 126 = 0 ∧ bk X.2.1 127 = 0) ∧ frAs σ σ')
theorem ASx.ill {σ σ1 : Sg} {n r1 : Int} {y : Int → Int} {X : Ps} (hn : 0 ≤ n ∧ n ≤ σ 17 0) (o : PO y σ1 r1 X) (f : frPr σ σ1) (z : r1 = 0) : ASx σ (up (up σ1 17 0 0) 7 0 10) (-1) n X := by
  refine Or.inr (Or.inl ⟨hn, rfl, ?_, up_eq, ?_, fun q a b => ?_, fun q a b c e => ?_, fun j e => ?_⟩)
  · have t := o.no z
    unfold TF at *
    simp (disch := decide) only [up_row, up_nj]; exact t
  · rw [up_row (by decide), up_eq]
  · rw [up_row (by omega), up_row (by omega), f q (by omega) (by omega) (by omega)]
  · rw [up_row a, up_row b, f q b (by omega) e]
  · rw [up_nj e, up_row (by decide), f 7 (by decide) (by decide) (by decide)]
theorem ASx.ok {σ σ1 σ2 : Sg} {n r1 : Int} {y : Int → Int} {X : Ps} (hn : 0 ≤ n ∧ n ≤ σ 17 0) (o : PO y σ1 r1 X) (f : frPr σ σ1) (z : ¬ r1 = 0) (cp : CpA (up σ1 17 0 0) σ2 20 48) : ASx σ (up σ2 7 0 0) (σ2 20 4) n X := by
  have p := o.ok z
  have d := PD.u17 (j := 0) (v := 0) p.2
  obtain ⟨⟨d1, d2, d3⟩, _, _, _, _, z3, z4⟩ := d
  have sc := (PD.u17 (j := 0) (v := 0) p.2).scr
  have fc := cp.2.2.2.2.2.2.2.2
  have a1 := d1.cp cp
  have a2 := d2.cp d1 cp
  have a3 := sc.cp cp
  have o7 : ∀ q, 8 ≤ q → up σ2 7 0 0 q = σ2 q := fun q h => up_row (by omega)
  have e17 : up σ2 7 0 0 17 = up σ1 17 0 0 17 := by rw [up_row (by decide), fc 17 (by decide)]
  refine Or.inr (Or.inr ⟨hn, ?_, p.1.2.2.1, ⟨?_, ?_⟩, up_eq, ?_, ⟨a1.fr (fun a x y => o7 a (by omega)) d3.2.1, a2.fr d3.2.1.2 (fun a j x y _ => by rw [o7 a (by omega)]), a3.fr (fun a x y => o7 a (by omega)), d3⟩, ⟨z3, z4⟩, fun q a b c e => ?_, fun j e => ?_⟩)
  · exact (cp.1.2.2.1).trans d1.1.2.1
  · rw [e17, up_nj (by decide)]; exact p.1.2.2.2.1.1
  · rw [e17, up_nj (by decide)]; exact p.1.2.2.2.1.2
  · rw [e17, up_eq]
  · rw [up_row a, fc q (by omega), up_row b, f q b (by omega) e]
  · rw [up_nj e, fc 7 (by decide), up_row (by decide), f 7 (by decide) (by decide) (by decide)]
theorem u_assembly {d L : Nat} {σ : Sg} {g c v : Int → Int} {n : Int} (hy : BY (σ 18)) (hK : KR σ) (hL : LWs σ) (h9 : σ 17 0 ≤ 900) (hd : 7 ≤ d) : cI d m_X11_assembly [vr 7, vi n] (SH L) σ (fun r σ' => ASx σ σ' r n (pAs (σ 18) 1000 (pAs0 (σ 18) g c v n))) :=
  cI.go rfl rfl (Go.sym (cut := []) 30 ⟨rfl, ⟨rfl, ⟨⟨nb rfl, nb rfl⟩, ⟨d0 hd, nb rfl⟩, cI.det (u_isBetween) ⟨fun cqz1 => ⟨rfl, ⟨⟨nb rfl, nb rfl, rfl⟩, ⟨d0 hd, nb rfl⟩, cI.bind (u_parse (g := g) (c := c) (v := v) (n := n) hy hK hL (by have z : 0 ≤ n ∧ n ≤ σ 17 0 := bi_q cqz1; omega) (ds (by omega : 6 + 1 ≤ d))) (fun r1 σ1 ⟨o9, f9⟩ => ⟨rfl, ⟨⟨rfl, (ib rfl)⟩, ⟨fun cqz2 => ⟨rfl, ⟨rfl, ⟨⟨nb rfl, nb rfl, rfl⟩, ⟨d0 hd, nb rfl⟩, cV.bind (u_acopy20_48 (σ := up σ1 17 0 0) (by have d := PD.u17 (j := 0) (v := 0) (o9.ok cqz2).2; exact Bnd.of d.1.1 d.1.2.2 d.scr) (ds (by omega : 1 + 1 ≤ d))) (fun σ2 cp => ⟨rfl, ⟨rfl, ⟨⟨nb rfl, nb rfl, rfl⟩, ⟨d0 hd, nb rfl⟩, cI.det (u_answer) ⟨_, rfl, rfl, (ASx.ok (bi_q cqz1) o9 f9 cqz2 cp)⟩⟩⟩⟩)⟩⟩⟩, fun cqz2 => ⟨⟨nb rfl, nb rfl, rfl⟩, ⟨d0 hd, nb rfl⟩, cI.det (u_refuse) ⟨_, rfl, rfl, (ASx.ill (bi_q cqz1) o9 f9 (Decidable.of_not_not cqz2))⟩⟩⟩⟩⟩)⟩⟩, fun cqz1 => ⟨⟨nb rfl, nb rfl, rfl⟩, ⟨d0 hd, nb rfl⟩, cI.det (u_refuse) ⟨_, rfl, rfl, (Or.inl ⟨bi_nq (Decidable.of_not_not cqz1), rfl, rfl⟩)⟩⟩⟩⟩⟩⟩)
