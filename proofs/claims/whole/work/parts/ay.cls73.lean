/-! ===== the class: SESSIONS taken: names and tests (text laid by gencls73.py) ===== -/
def HN (σ : Sg) (c v : Int → Int) : Prop := ∃ b, Asm σ 20 b ∧ Nms σ 20 b v ∧ WB b ∧ ∀ j, 0 ≤ j → j < 4 → c j = b j
theorem HN.cg {σ σ' : Sg} {c c' v : Int → Int} (h : HN σ c v) (e : ∀ q, 20 ≤ q → q ≤ 47 → σ' q = σ q) (ec : ∀ j, 0 ≤ j → j < 4 → c' j = c j) : HN σ' c' v := by
  obtain ⟨b, h1, h2, h3, h4⟩ := h
  exact ⟨b, h1.fr (fun a x y => e a x (by omega)) h3.2.1, h2.fr h3.2.1.2 (fun a j x y _ => by rw [e a x (by omega)]), h3, fun j x y => (ec j x y).trans (h4 j x y)⟩
theorem nmd_r {c v : Int → Int} {z b s : Int} : -1 ≤ nmd c v z b s ∧ (0 ≤ nmd c v z b s → nmd c v z b s < c (398 * b + s)) := by
  have r := fndK_r (f := fun k => v (40 * b + 10 * s + k)) (v := z) (c (398 * b + s)).toNat
  unfold nmd; omega
theorem u_fPty {d L : Nat} {σ : Sg} {c v : Int → Int} {w : Int} (h : HN σ c v) (hd : 1 ≤ d) : cI d m_X0_findParty [vr 20, vl w] (SH L) σ (fun r σ' => r = nmd c v w 0 0 ∧ σ' = σ) := by
  obtain ⟨b, h1, h2, h3, h4⟩ := h
  refine (u_findParty20 (v := w) h1 h2 h3 hd).mono (fun r σ' q => ⟨q.1.trans ?_, q.2⟩)
  unfold nmd; rw [show (398 : Int) * 0 + 0 = 0 by decide, h4 0 (by decide) (by decide)]; exact fndK_c _ (fun k _ _ => by show v _ = v _; congr 1)
theorem u_fMem {d L : Nat} {σ : Sg} {c v : Int → Int} {w : Int} (h : HN σ c v) : cI d m_X0_findMember [vr 20, vl w] (SH L) σ (fun r σ' => r = nmd c v w 0 1 ∧ σ' = σ) := by
  obtain ⟨b, h1, h2, h3, h4⟩ := h
  refine (u_findMember20 (v := w) h1 h2 h3).mono (fun r σ' q => ⟨q.1.trans ?_, q.2⟩)
  unfold nmd; rw [show (398 : Int) * 0 + 1 = 1 by decide, h4 1 (by decide) (by decide)]; exact fndK_c _ (fun k _ _ => by show v _ = v _; congr 1)
theorem u_fMot {d L : Nat} {σ : Sg} {c v : Int → Int} {w : Int} (h : HN σ c v) (hd : 1 ≤ d) : cI d m_X0_findMotion [vr 20, vl w] (SH L) σ (fun r σ' => r = nmd c v w 0 2 ∧ σ' = σ) := by
  obtain ⟨b, h1, h2, h3, h4⟩ := h
  refine (u_findMotion20 (v := w) h1 h2 h3 hd).mono (fun r σ' q => ⟨q.1.trans ?_, q.2⟩)
  unfold nmd; rw [show (398 : Int) * 0 + 2 = 2 by decide, h4 2 (by decide) (by decide)]; exact fndK_c _ (fun k _ _ => by show v _ = v _; congr 1)
def frT3 (σ σ' : Sg) : Prop := ∀ q, q ≠ 17 → q ≠ 173 → σ' q = σ q
theorem frT3.tp {σ σ' : Sg} (h : frTp σ σ') : frT3 σ σ' := fun q a _ => h q a
theorem u_takeName {d L : Nat} {σ : Sg} {y g c v : Int → Int} {i s sx : Int} (hT : TC y σ g) (hs : 0 ≤ s ∧ s < 30) (he : ¬ nmI g = 0 → nmd c v (g 19) 0 sx = i) (hi : -1 ≤ i) (hd : 2 ≤ d) : cI d m_X6_takeName [vr 169, vi i, vi s] (SH L) σ (fun r σ' => TO y σ' r (mRT y g c v 0 sx).2 ∧ (r = 1 → σ' 173 = bu (σ 173) s (mRT y g c v 0 sx).1 ∧ 0 ≤ (mRT y g c v 0 sx).1 ∧ (mRT y g c v 0 sx).1 < c sx) ∧ frT3 σ σ') :=
  cI.go rfl rfl (Go.sym (cut := []) 19 ⟨rfl, ⟨⟨nb rfl, nb rfl, rfl⟩, ⟨d0 hd, nb rfl⟩, cI.det (u_isName hT) ⟨fun cqz1 => ⟨fun cqz2 => ⟨rfl, ⟨rfl, ⟨⟨rfl, (ib rfl), (by omega), (show s < (30 : Int) by omega)⟩, ⟨rfl, ⟨⟨nb rfl, nb rfl, rfl⟩, ⟨d0 hd, nb rfl⟩, cV.bind (v_advance (σ := up σ 173 s i) (hT.fr (fun q x1 x2 => up_row (by omega))) (ds (by omega : 1 + 1 ≤ d))) (fun σ1 ⟨a1, a2, a3⟩ => ⟨(by decide), ⟨_, rfl, rfl, ⟨Or.inl ⟨rfl, (by have z : ¬ nmI g = 0 := cqz1; have e := he z; have z1 : ¬ i = -1 := cqz2; rw [(rt_c hT.2.2.1 z (by omega)).2]; exact a1)⟩, (fun _ => by have z : ¬ nmI g = 0 := cqz1; have e := he z; have z1 : ¬ i = -1 := cqz2; have r := nmd_r (c := c) (v := v) (z := g 19) (b := 0) (s := sx); rw [show (398 : Int) * 0 + sx = sx by omega] at r; rw [(rt_c hT.2.2.1 z (by omega)).2]; show σ1 173 = bu (σ 173) s (nmd c v (g 19) 0 sx) ∧ 0 ≤ nmd c v (g 19) 0 sx ∧ nmd c v (g 19) 0 sx < c sx; rw [a3 173 (by decide), up_rw, e]; rw [e] at r; exact ⟨rfl, by omega, r.2 (by omega)⟩), (fun q x1 x2 => by show σ1 q = _; rw [a3 q x1, up_row x2])⟩⟩⟩)⟩⟩⟩⟩⟩, fun cqz2 => ⟨rfl, ⟨⟨nb rfl, nb rfl, rfl⟩, ⟨d0 hd, nb rfl⟩, cI.det (u_trefuse) ⟨(by first | exact bi_r | assumption | exact o9.b | decide | omega), ⟨_, rfl, rfl, ⟨Or.inr ⟨rfl, (by have z : ¬ nmI g = 0 := cqz1; have e := he z; have z1 : i = -1 := Decidable.of_not_not cqz2; rw [(rt_b hT.2.2.1 z (by omega)).2]; exact hT.fl (by decide) (by have q := bi_q z; omega))⟩, (fun q => absurd q (by decide)), (frT3.tp frTp.rf)⟩⟩⟩⟩⟩⟩, fun cqz1 => ⟨rfl, ⟨⟨nb rfl, nb rfl, rfl⟩, ⟨d0 hd, nb rfl⟩, cI.det (u_trefuse) ⟨(by first | exact bi_r | assumption | exact o9.b | decide | omega), ⟨_, rfl, rfl, ⟨Or.inr ⟨rfl, (by have z : nmI g = 0 := Decidable.of_not_not cqz1; rw [(rt_a hT.2.2.1 z).2]; exact hT.ami)⟩, (fun q => absurd q (by decide)), (frT3.tp frTp.rf)⟩⟩⟩⟩⟩⟩⟩⟩)
