/-! ===== what holds between two calls of the law (text laid by gencls89.py) ===== -/
theorem WB.cb {b b' : Int → Int} (h : WB b) (e : ∀ j, 0 ≤ j → j < 126 → b' j = b j) : WB b' := by
  obtain ⟨h0, h1, h2, h3, h4, h5, h6, h7, h8, h9, hm, hk, hr⟩ := h
  have e0 := e 0 (by omega) (by omega)
  have e1 := e 1 (by omega) (by omega)
  have e2 := e 2 (by omega) (by omega)
  have e3 := e 3 (by omega) (by omega)
  refine ⟨by rw [e0]; exact h0, by rw [e1]; exact h1, by rw [e2]; exact h2, by rw [e3]; exact h3, by rw [e 4 (by omega) (by omega)]; exact h4, by rw [e 5 (by omega) (by omega)]; exact h5, by rw [e 6 (by omega) (by omega)]; exact h6, by rw [e 7 (by omega) (by omega)]; exact h7, by rw [e 8 (by omega) (by omega)]; exact h8, fun j p q => ?_, fun m p q => ?_, fun k p q => ?_, fun r p q => ?_⟩
  · rw [e j (by omega) (by omega), e 8 (by omega) (by omega)]; exact h9 j p q
  · rw [e1] at q
    have z := hm m p q
    unfold WM at *
    rw [e (14 + m) (by omega) (by omega), e (24 + m) (by omega) (by omega), e (34 + m) (by omega) (by omega), e (44 + m) (by omega) (by omega), e (54 + m) (by omega) (by omega), e (64 + m) (by omega) (by omega), e (74 + m) (by omega) (by omega), e (84 + m) (by omega) (by omega), e (94 + m) (by omega) (by omega), e0, e1]
    exact z
  · rw [e2] at q
    rw [e (104 + k) (by omega) (by omega), e (109 + k) (by omega) (by omega)]; exact hk k p q
  · rw [e3] at q
    rw [e (114 + r) (by omega) (by omega), e (120 + r) (by omega) (by omega)]; exact hr r p q
theorem SWf_s {c : Int → Int} {D : Nat} {f t : Int} : SWf c (D + 1) f t ↔ ((0 ≤ f ∧ t ≤ 30) ∧ ∀ s, f ≤ s → s < t → SOK c s ∧ (s < nxS c s ∧ nxS c s ≤ t) ∧ (c (128 + 9 * s) = 7 ∨ c (128 + 9 * s) = 8 → SWf c D (s + 1) (nxS c s))) := Iff.rfl
theorem SWf_0 {c : Int → Int} {f t : Int} (h : SWf c 0 f t) : False := h
theorem SWf.cb {b b' : Int → Int} (e : ∀ j, (1 ≤ j ∧ j < 3) ∨ (126 ≤ j ∧ j < 398) → b' j = b j) : ∀ (D : Nat) (f t : Int), SWf b D f t → SWf b' D f t := by
  intro D
  induction D with
  | zero => intro f t h; exact (SWf_0 h).elim
  | succ D ih =>
    intro f t h
    obtain ⟨h0, h1⟩ := SWf_s.mp h
    refine SWf_s.mpr ⟨h0, fun s p q => ?_⟩
    obtain ⟨z1, z2, z3⟩ := h1 s p q
    have en : nxS b' s = nxS b s := e _ (by omega)
    rw [en, e (128 + 9 * s) (by omega)]
    refine ⟨?_, z2, fun k => ih _ _ (z3 k)⟩
    unfold SOK at *
    rw [e (128 + 9 * s) (by omega), e (128 + 9 * s + 1) (by omega), e (128 + 9 * s + 6) (by omega), e 1 (by omega), e 2 (by omega)]
    exact z1
def HAs (σ : Sg) (A : Int) (b x : Int → Int) : Prop := Asm σ A b ∧ Nms σ A b x ∧ Scr σ A b ∧ WB b ∧ b 8 ≤ 9999 ∧ SWf b 4 0 (b 127)
theorem HAs.cb {σ : Sg} {A : Int} {b b' x x' : Int → Int} (h : HAs σ A b x) (e : ∀ j, 0 ≤ j → j < 398 → b' j = b j) (ex : ∀ j, 0 ≤ j → j < 40 → x' j = x j) : HAs σ A b' x' := by
  obtain ⟨hA, hN, hS, B, h8, hW⟩ := h
  have b0 := B.1
  have b1 := B.2.1
  have b2 := B.2.2.1
  have b3 := B.2.2.2.1
  have N := hN.cb (fun j p q => e j p (by omega))
  have e0 := e 0 (by omega) (by omega)
  have e1 := e 1 (by omega) (by omega)
  have e2 := e 2 (by omega) (by omega)
  have e3 := e 3 (by omega) (by omega)
  have e7 := e 127 (by omega) (by omega)
  refine ⟨hA.cg b2.2 b3.2 (fun j p => e j (by omega) (by omega)) (fun m f p q r => e (f + m) (by omega) (by omega)), ⟨fun k p q => ?_, fun k p q => ?_, fun k p q => ?_, fun k p q => ?_⟩, ⟨?_, ?_, fun s p q => ?_⟩, B.cb (fun j p q => e j p (by omega)), by rw [e 8 (by omega) (by omega)]; exact h8, by rw [e7]; exact SWf.cb (fun j p => e j (by omega) (by omega)) 4 _ _ hW⟩
  · rw [N.1 k p q, ex k (by omega) (by omega)]
  · rw [N.2.1 k p q, ex (10 + k) (by omega) (by omega)]
  · rw [N.2.2.1 k p q, ex (20 + k) (by omega) (by omega)]
  · rw [N.2.2.2 k p q, ex (30 + k) (by omega) (by omega)]
  · rw [e 126 (by omega) (by omega)]; exact hS.1
  · rw [e7]; exact hS.2.1
  · rw [e7] at q
    have q1 := hS.2.1
    have z := hS.2.2 s p q
    unfold StpC at *
    rw [e (128 + 9 * s) (by omega) (by omega), e (128 + 9 * s + 8) (by omega) (by omega), e (128 + 9 * s + 1) (by omega) (by omega), e (128 + 9 * s + 6) (by omega) (by omega), e (128 + 9 * s + 7) (by omega) (by omega), e (128 + 9 * s + 2) (by omega) (by omega)]; exact z
theorem HAs.fr {σ σ' : Sg} {A : Int} {b x : Int → Int} (h : HAs σ A b x) (e : ∀ a, A ≤ a → a ≤ A + 27 → σ' a = σ a) : HAs σ' A b x := by
  obtain ⟨hA, hN, hS, B, h8, hW⟩ := h
  exact ⟨hA.fr e B.2.1, hN.fr B.2.1.2 (fun a j p q _ => by rw [e a p q]), hS.fr (fun a p q => e a (by omega) (by omega)), B, h8, hW⟩
def IVS (σ : Sg) : Prop := σ 7 0 = σ 182 0
def IVA (σ : Sg) : Prop := σ 7 1 = σ 182 2 ∧ σ 7 2 = σ 182 3
def IVB (σ : Sg) : Prop := Trs σ (σ 183) (σ 184) (σ 185) ∧ WT (σ 184)
def IVC (σ : Sg) : Prop := (σ 17 0 = σ 182 8 ∧ 0 ≤ σ 17 0 ∧ σ 17 0 ≤ 900) ∧ σ 18 = σ 186 ∧ BY (σ 18)
def IVD (σ : Sg) : Prop := σ 17 1 = σ 182 10 ∧ σ 17 2 = σ 182 11
def IVE (σ : Sg) : Prop := KR σ ∧ LWs σ ∧ ∀ j, r32 (σ 4 j)
def IVF (σ : Sg) : Prop := HAs σ 20 (σ 187) (σ 190)
def IVG (σ : Sg) : Prop := (σ 7 8 = σ 182 24 ∧ 0 ≤ σ 7 8 ∧ σ 7 8 ≤ 3) ∧ ∀ k, 0 ≤ k → k < σ 7 8 → HAs σ (77 + 28 * k) (fun j => σ 187 (398 * (k + 1) + j)) (fun j => σ 190 (40 * (k + 1) + j))
def IVH (σ : Sg) : Prop := σ 7 15 = σ 182 33 ∧ ∀ j, 0 ≤ j → j ≤ 4 → σ 180 j = σ 193 j
def IVr (σ : Sg) : Prop := IVA σ ∧ IVB σ ∧ IVC σ ∧ IVD σ ∧ IVE σ ∧ IVF σ ∧ IVG σ ∧ IVH σ
def IV (σ : Sg) : Prop := IVS σ ∧ IVr σ
theorem IVA.cg {σ σ' : Sg} (h : IVA σ) (e : ∀ a j, (a = 7 ∧ (j = 1 ∨ j = 2)) ∨ (a = 182 ∧ (j = 2 ∨ j = 3)) → σ' a j = σ a j) : IVA σ' := by
  unfold IVA at *; rw [e 7 1 (by omega), e 7 2 (by omega), e 182 2 (by omega), e 182 3 (by omega)]; exact h
theorem rw_e {σ σ' : Sg} {a : Int} (e : ∀ j, σ' a j = σ a j) : σ' a = σ a := funext e
theorem IVB.cg {σ σ' : Sg} (h : IVB σ) (e : ∀ a j : Int, (9 ≤ a ∧ a ≤ 16) ∨ a = 183 ∨ a = 184 ∨ a = 185 → σ' a j = σ a j) : IVB σ' := by
  unfold IVB at *; rw [rw_e (σ' := σ') (fun j => e 183 j (by omega)), rw_e (σ' := σ') (fun j => e 184 j (by omega)), rw_e (σ' := σ') (fun j => e 185 j (by omega))]
  exact ⟨h.1.fr (fun a j p q => e a j (by omega)), h.2⟩
theorem IVC.cg {σ σ' : Sg} (h : IVC σ) (e : ∀ a j : Int, (a = 17 ∧ j = 0) ∨ (a = 182 ∧ j = 8) ∨ a = 18 ∨ a = 186 → σ' a j = σ a j) : IVC σ' := by
  unfold IVC at *; rw [rw_e (σ' := σ') (fun j => e 18 j (by omega)), rw_e (σ' := σ') (fun j => e 186 j (by omega)), e 17 0 (by omega), e 182 8 (by omega)]; exact h
theorem IVD.cg {σ σ' : Sg} (h : IVD σ) (e : ∀ a j : Int, (a = 17 ∧ (j = 1 ∨ j = 2)) ∨ (a = 182 ∧ (j = 10 ∨ j = 11)) → σ' a j = σ a j) : IVD σ' := by
  unfold IVD at *; rw [e 17 1 (by omega), e 17 2 (by omega), e 182 10 (by omega), e 182 11 (by omega)]; exact h
theorem IVE.cg {σ σ' : Sg} (h : IVE σ) (e : ∀ a j : Int, (1 ≤ a ∧ a ≤ 4) ∨ a = 19 → σ' a j = σ a j) : IVE σ' := by
  unfold IVE LWs at *
  rw [rw_e (σ' := σ') (fun j => e 1 j (by omega)), rw_e (σ' := σ') (fun j => e 2 j (by omega)), rw_e (σ' := σ') (fun j => e 3 j (by omega)), rw_e (σ' := σ') (fun j => e 4 j (by omega))]
  exact ⟨h.1.fr2 (rw_e (fun j => e 19 j (by omega))), h.2⟩
theorem IVF.cg {σ σ' : Sg} (h : IVF σ) (e : ∀ a j : Int, (20 ≤ a ∧ a ≤ 47) ∨ (a = 187 ∧ 0 ≤ j ∧ j < 398) ∨ (a = 190 ∧ 0 ≤ j ∧ j < 40) → σ' a j = σ a j) : IVF σ' :=
  (HAs.fr h (fun a p q => rw_e (fun j => e a j (by omega)))).cb (fun j p q => e 187 j (by omega)) (fun j p q => e 190 j (by omega))
theorem IVG.cg {σ σ' : Sg} (h : IVG σ) (e : ∀ a j : Int, (a = 7 ∧ j = 8) ∨ (a = 182 ∧ j = 24) ∨ (77 ≤ a ∧ a ≤ 160) ∨ (a = 187 ∧ 398 ≤ j ∧ j < 1592) ∨ (a = 190 ∧ 40 ≤ j ∧ j < 160) → σ' a j = σ a j) : IVG σ' := by
  unfold IVG at *
  rw [e 7 8 (by omega), e 182 24 (by omega)]
  exact ⟨h.1, fun k p q => (HAs.fr (h.2 k p q) (fun a x y => rw_e (fun j => e a j (by have := h.1; omega)))).cb (fun j x y => e 187 _ (by have := h.1; omega)) (fun j x y => e 190 _ (by have := h.1; omega))⟩
theorem IVH.cg {σ σ' : Sg} (h : IVH σ) (e : ∀ a j : Int, (a = 7 ∧ j = 15) ∨ (a = 182 ∧ j = 33) ∨ a = 180 ∨ a = 193 → σ' a j = σ a j) : IVH σ' := by
  unfold IVH at *
  rw [e 7 15 (by omega), e 182 33 (by omega)]
  exact ⟨h.1, fun j p q => by rw [e 180 j (by omega), e 193 j (by omega)]; exact h.2 j p q⟩
/-- the cells that the law's two objects speak of, STATUS aside -/
def Cel (a j : Int) : Prop := (a < 48 ∧ ¬ (a = 7 ∧ j = 0)) ∨ (77 ≤ a ∧ a ≤ 160) ∨ a = 180 ∨ (a = 182 ∧ (j = 2 ∨ j = 3 ∨ j = 8 ∨ j = 10 ∨ j = 11 ∨ j = 24 ∨ j = 33)) ∨ (183 ≤ a ∧ a ≤ 187) ∨ a = 190 ∨ a = 193
theorem IVr.cg {σ σ' : Sg} (h : IVr σ) (e : ∀ a j : Int, Cel a j → σ' a j = σ a j) : IVr σ' := by
  obtain ⟨hA, hB, hC, hD, hE, hF, hG, hH⟩ := h
  unfold Cel at e
  exact ⟨hA.cg (fun a j c => e a j (by omega)), hB.cg (fun a j c => e a j (by omega)), hC.cg (fun a j c => e a j (by omega)), hD.cg (fun a j c => e a j (by omega)), hE.cg (fun a j c => e a j (by omega)), hF.cg (fun a j c => e a j (by omega)), hG.cg (fun a j c => e a j (by omega)), hH.cg (fun a j c => e a j (by omega))⟩
/-- what the model may change beside STATUS while it only tells -/
def frX (σ σ' : Sg) : Prop := ∀ a j : Int, a ≠ 188 → a ≠ 189 → a ≠ 191 → a ≠ 192 → ¬ (a = 182 ∧ (j = 0 ∨ j = 1 ∨ (27 ≤ j ∧ j ≤ 29) ∨ (34 ≤ j ∧ j ≤ 41))) → σ' a j = σ a j
theorem frM.x {σ σ' : Sg} (h : frM σ σ') : frX σ σ' := fun a j _ _ _ _ p => h a j (by omega)
theorem frK.x {σ σ' : Sg} (h : frK σ σ') : frX σ σ' := fun a j q _ _ _ p => h a j q (by omega)
theorem frH.x {σ σ' : Sg} (h : frH σ σ') : frX σ σ' := fun a j _ _ _ _ p => h a j (by omega)
theorem frW.x {σ σ' : Sg} (h : frW σ σ') : frX σ σ' := fun a j q _ r _ p => h a j q r (by omega)
theorem frC.row {σ σ' : Sg} (h : frC σ σ') {a : Int} (ha : (a < 48 ∨ (76 ≤ a ∧ a < 161) ∨ a = 180 ∨ 182 ≤ a) ∧ a ≠ 7) : σ' a = σ a := funext (fun j => h a j ha.1 (by omega))
theorem IV.f {σ σ1 σ2 : Sg} {r1 r2 : Int} {p : Int × Int} (h : IV σ) (u : (r1, σ1 7 0) = p) (fu : frC σ σ1) (t : (r2, σ2 182 0) = p) (ft : frX σ1 σ2) : r1 = r2 ∧ IV σ2 := by
  have z := u.trans t.symm
  refine ⟨congrArg Prod.fst z, ?_, IVr.cg h.2 (fun a j c => ?_)⟩
  · have z2 : σ1 7 0 = σ2 182 0 := congrArg Prod.snd z
    unfold IVS
    rw [ft 7 0 (by decide) (by decide) (by decide) (by decide) (by omega)]; exact z2
  · unfold Cel at c
    rw [ft a j (by omega) (by omega) (by omega) (by omega) (by omega), fu a j (by omega) (by omega)]
