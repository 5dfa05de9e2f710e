/-! ===== the class: the RUNNER, what is told of a member (text laid by gencls51.py) ===== -/
def RC (A : Int) (c0 : Int → Int) (σ : Sg) (x : Rs) : Prop := Asm σ A x.2 ∧ Scr σ A c0 ∧ σ 178 1 = A ∧ (σ 178 2 = x.1 35 ∧ σ 178 3 = x.1 36 ∧ σ 178 4 = x.1 34) ∧ (σ 179 0 = x.1 37 ∧ σ 179 1 = x.1 38 ∧ σ 179 2 = x.1 39 ∧ σ 179 3 = x.1 40 ∧ σ 179 4 = x.1 41) ∧ q32 (x.1 37) = x.1 37
def frRn (A : Int) (σ σ' : Sg) : Prop := ∀ a j : Int, ¬ ((a = A ∧ j = 1) ∨ a = A + 1 ∨ a = A + 2 ∨ a = A + 6 ∨ a = A + 7 ∨ (A + 18 ≤ a ∧ a < A + 28 ∧ 1 ≤ j)) → ¬ (161 ≤ a ∧ a ≤ 164) → a ≠ 178 → a ≠ 179 → σ' a j = σ a j
theorem frRn.rfl {A : Int} {σ : Sg} : frRn A σ σ := fun _ _ _ _ _ _ => Eq.refl _
theorem frRn.tr {A : Int} {σ σ1 σ2 : Sg} (h : frRn A σ σ1) (h2 : frRn A σ1 σ2) : frRn A σ σ2 := fun a j x y z u => (h2 a j x y z u).trans (h a j x y z u)
theorem frRn.a {A : Int} {σ σ' : Sg} (h : frA A σ σ') : frRn A σ σ' := fun a j x y _ _ => h a j x y
theorem frRn.sc {A : Int} {σ σ' : Sg} (h : frSc σ σ') : frRn A σ σ' := fun a j _ y _ _ => by rw [h a (by omega) (by omega) (by omega) (by omega)]
theorem frRn.u9 {A i v : Int} {σ : Sg} : frRn A σ (up σ 179 i v) := fun a j _ _ _ u => by rw [up_row u]
theorem frRn.u8 {A i v : Int} {σ : Sg} : frRn A σ (up σ 178 i v) := fun a j _ _ z _ => by rw [up_row z]
theorem id178 {σ : Sg} {A : Int} (h : σ 178 1 = A) : sr σ 178 (bu (σ 178) 1 A) = σ := by subst h; rw [bu_id, sr_id]
theorem q32_i {x : Int} : q32 (q32 x) = q32 x := by have := q32_q (x := x) (y := 0); rw [Int.add_zero, Int.add_zero] at this; exact this
theorem RC.cg {A : Int} {c0 g : Int → Int} {σ : Sg} {x : Rs} (h : RC A c0 σ x) (e : ∀ j, 34 ≤ j → j ≤ 41 → g j = x.1 j) : RC A c0 σ (g, x.2) := by
  unfold RC at *
  dsimp only
  rw [e 34 (by decide) (by decide), e 35 (by decide) (by decide), e 36 (by decide) (by decide), e 37 (by decide) (by decide), e 38 (by decide) (by decide), e 39 (by decide) (by decide), e 40 (by decide) (by decide), e 41 (by decide) (by decide)]
  exact h
theorem RC.tl {A i v : Int} {c0 : Int → Int} {σ : Sg} {x : Rs} (h : RC A c0 σ x) (hA : 20 ≤ A ∧ A ≤ 48) (h1 : 0 ≤ x.2 1 ∧ x.2 1 ≤ 10) (hi : 0 ≤ i ∧ i ≤ 4) (hv : i = 0 → q32 v = v) : RC A c0 (up σ 179 i v) (bu x.1 (37 + i) v, x.2) := by
  obtain ⟨a1, a2, a3, a4, a5, a6⟩ := h
  refine ⟨a1.fr (fun a _ _ => up_row (by omega)) h1, a2.fr (fun a _ _ => up_row (by omega)), by rw [up_row (by decide)]; exact a3, ?_, ?_, ?_⟩
  · rw [up_row (by decide)]; dsimp only; rw [bu_n (by omega), bu_n (by omega), bu_n (by omega)]; exact a4
  · obtain ⟨b0, b1, b2, b3, b4⟩ := a5
    dsimp only
    have : i = 0 ∨ i = 1 ∨ i = 2 ∨ i = 3 ∨ i = 4 := by omega
    rcases this with rfl | rfl | rfl | rfl | rfl <;> (refine ⟨?_, ?_, ?_, ?_, ?_⟩ <;> first | (rw [up_eq, bu_e (by decide)]) | (rw [up_nj (by decide), bu_n (by decide)]; assumption))
  · dsimp only
    by_cases e : i = 0
    · rw [bu_e (by omega)]; exact hv e
    · rw [bu_n (by omega)]; exact a6
theorem RC.ms {A m : Int} {c0 r b' : Int → Int} {σ : Sg} {x : Rs} (h : RC A c0 σ x) (hA : 20 ≤ A ∧ A ≤ 48) (B : WB x.2) (hm : 0 ≤ m ∧ m < x.2 1) (e : ∀ j, j ≠ 24 + m → j ≠ 54 + m → j ≠ 64 + m → j ≠ 74 + m → b' j = x.2 j) (hr : AsmM r b' m) : RC A c0 (sr σ (A + 18 + m) r) (x.1, b') := by
  obtain ⟨a1, a2, a3, a4, a5, a6⟩ := h
  have h1 := B.2.1
  refine ⟨a1.ms B hm e hr, a2.fr (fun a _ _ => sr_n (by omega)), by rw [sr_n (by omega)]; exact a3, by rw [sr_n (by omega)]; exact a4, by rw [sr_n (by omega)]; exact a5, a6⟩
theorem frRn.ms {A m : Int} {σ : Sg} {r : Int → Int} (hA : 20 ≤ A ∧ A ≤ 48) (hm : 0 ≤ m ∧ m < 10) (h0 : ∀ j, j < 1 → r j = σ (A + 18 + m) j) : frRn A σ (sr σ (A + 18 + m) r) := fun a j x _ _ _ => by
  by_cases e : a = A + 18 + m
  · rw [e, sr_e (Eq.refl _)]; exact h0 j (by omega)
  · rw [sr_n e]
theorem RC.sc {A : Int} {c0 : Int → Int} {σ σ' : Sg} {x : Rs} (h : RC A c0 σ x) (hA : 20 ≤ A ∧ A ≤ 48) (h1 : 0 ≤ x.2 1 ∧ x.2 1 ≤ 10) (f : frSc σ σ') : RC A c0 σ' x := by
  obtain ⟨a1, a2, a3, a4, a5, a6⟩ := h
  refine ⟨a1.fr (fun a _ _ => f a (by omega) (by omega) (by omega) (by omega)) h1, a2.fr (fun a _ _ => f a (by omega) (by omega) (by omega) (by omega)), ?_, ?_, ?_, a6⟩
  · rw [f 178 (by decide) (by decide) (by decide) (by decide)]; exact a3
  · rw [f 178 (by decide) (by decide) (by decide) (by decide)]; exact a4
  · rw [f 179 (by decide) (by decide) (by decide) (by decide)]; exact a5
theorem RC.u8 {A i v : Int} {c0 : Int → Int} {σ : Sg} {x : Rs} (h : RC A c0 σ x) (hA : 20 ≤ A ∧ A ≤ 48) (h1 : 0 ≤ x.2 1 ∧ x.2 1 ≤ 10) (hi : 2 ≤ i ∧ i ≤ 4) : RC A c0 (up σ 178 i v) (bu x.1 (if i = 2 then 35 else if i = 3 then 36 else 34) v, x.2) := by
  obtain ⟨a1, a2, a3, a4, a5, a6⟩ := h
  refine ⟨a1.fr (fun a _ _ => up_row (by omega)) h1, a2.fr (fun a _ _ => up_row (by omega)), by rw [up_nj (by omega)]; exact a3, ?_, ?_, ?_⟩
  · obtain ⟨b0, b1, b2⟩ := a4
    dsimp only
    have : i = 2 ∨ i = 3 ∨ i = 4 := by omega
    rcases this with rfl | rfl | rfl <;> (refine ⟨?_, ?_, ?_⟩ <;> first | (rw [up_eq, bu_e (by decide)]) | (rw [up_nj (by decide), bu_n (by decide)]; assumption))
  · rw [up_row (by decide)]; dsimp only
    have : i = 2 ∨ i = 3 ∨ i = 4 := by omega
    rcases this with rfl | rfl | rfl <;> (rw [bu_n (by decide), bu_n (by decide), bu_n (by decide), bu_n (by decide), bu_n (by decide)]; exact a5)
  · dsimp only
    have : i = 2 ∨ i = 3 ∨ i = 4 := by omega
    rcases this with rfl | rfl | rfl <;> (rw [bu_n (by decide)]; exact a6)
/-- what is told of a member -/
def rTl (x : Rs) (k m : Int) : Rs := if ¬ x.2 (64 + m) < 0 then (bu x.1 37 (q32 (x.1 37 + 1)), x.2) else if k = 4 then (bu x.1 40 (q32 (x.1 40 + 1)), mDie x.2 m) else if k = 5 then (x.1, bu x.2 (74 + m) (1 - x.2 (74 + m))) else (x.1, bu x.2 (54 + m) (if k = 3 then 0 else k))
theorem rTl_d {σ : Sg} {A m k v : Int} {c0 : Int → Int} {x : Rs} (h : RC A c0 σ x) (hA : 20 ≤ A ∧ A ≤ 48) (B : WB x.2) (hd : ¬ x.2 (64 + m) < 0) (hv : v = q32 (σ 179 0 + 1)) : RC A c0 (up σ 179 0 v) (rTl x k m) ∧ frRn A σ (up σ 179 0 v) := by
  refine ⟨?_, frRn.u9⟩
  unfold rTl; rw [if_pos hd]
  have e : v = q32 (x.1 37 + 1) := by rw [hv, h.2.2.2.2.1.1]
  have z := h.tl (i := 0) (v := v) hA B.2.1 (by decide) (fun _ => by rw [e, q32_i])
  rw [e] at z ⊢; exact z
theorem rTl_w {σ : Sg} {A m k a v : Int} {c0 : Int → Int} {x : Rs} (h : RC A c0 σ x) (hA : 20 ≤ A ∧ A ≤ 48) (B : WB x.2) (hm : 0 ≤ m ∧ m < x.2 1) (ha : a = A + 18 + m) (hl : x.2 (64 + m) < 0) (hk : ¬ k = 4 ∧ ¬ k = 5) (hv : v = if k = 3 then 0 else k) : RC A c0 (up σ a 5 v) (rTl x k m) ∧ frRn A σ (up σ a 5 v) := by
  have h1 := B.2.1
  subst ha
  rw [up_sr]
  refine ⟨?_, frRn.ms hA ⟨hm.1, by omega⟩ (fun j hj => bu_n (by omega))⟩
  unfold rTl; rw [if_neg (fun q => q hl), if_neg hk.1, if_neg hk.2, ← hv]
  refine h.ms hA B hm (fun j j1 j2 j3 j4 => bu_n j2) ?_
  have q := h.1.2.2.2.1 m hm.1 hm.2
  unfold AsmM at q ⊢
  simp (disch := omega) only [bu_n, bu_e, q, and_self]
theorem rTl_s {σ : Sg} {A m k a v : Int} {c0 : Int → Int} {x : Rs} (h : RC A c0 σ x) (hA : 20 ≤ A ∧ A ≤ 48) (B : WB x.2) (hm : 0 ≤ m ∧ m < x.2 1) (ha : a = A + 18 + m) (hl : x.2 (64 + m) < 0) (hk : k = 5) (hv : v = 1 - x.2 (74 + m)) : RC A c0 (up σ a 8 v) (rTl x k m) ∧ frRn A σ (up σ a 8 v) := by
  have h1 := B.2.1
  subst ha
  rw [up_sr]
  refine ⟨?_, frRn.ms hA ⟨hm.1, by omega⟩ (fun j hj => bu_n (by omega))⟩
  unfold rTl; rw [if_neg (fun q => q hl), if_neg (by omega), if_pos hk, ← hv]
  refine h.ms hA B hm (fun j j1 j2 j3 j4 => bu_n j4) ?_
  have q := h.1.2.2.2.1 m hm.1 hm.2
  unfold AsmM at q ⊢
  simp (disch := omega) only [bu_n, bu_e, q, and_self]
theorem rTl_k {σ : Sg} {A m k a v : Int} {c0 : Int → Int} {x : Rs} (h : RC A c0 σ x) (hA : 20 ≤ A ∧ A ≤ 48) (B : WB x.2) (hm : 0 ≤ m ∧ m < x.2 1) (ha : a = A + 18 + m) (hl : x.2 (64 + m) < 0) (hk : k = 4) (hv : v = q32 (σ 179 3 + 1)) : RC A c0 (up (sr σ a (bu (bu (σ a) 6 0) 5 0)) 179 3 v) (rTl x k m) ∧ frRn A σ (up (sr σ a (bu (bu (σ a) 6 0) 5 0)) 179 3 v) := by
  have h1 := B.2.1
  subst ha
  have f1 : frRn A σ (sr σ (A + 18 + m) (bu (bu (σ (A + 18 + m)) 6 0) 5 0)) := frRn.ms hA ⟨hm.1, by omega⟩ (fun j hj => by rw [bu_n (by omega), bu_n (by omega)])
  refine ⟨?_, f1.tr frRn.u9⟩
  have e : v = q32 (x.1 40 + 1) := by rw [hv, h.2.2.2.2.1.2.2.2.1]
  unfold rTl; rw [if_neg (fun q => q hl), if_pos hk, ← e]
  have R1 : RC A c0 (sr σ (A + 18 + m) (bu (bu (σ (A + 18 + m)) 6 0) 5 0)) (x.1, mDie x.2 m) := by
    refine h.ms hA B hm (fun j j1 j2 j3 j4 => by unfold mDie; rw [bu_n j2, bu_n j3]) ?_
    have q := h.1.2.2.2.1 m hm.1 hm.2
    unfold AsmM mDie at *
    simp (disch := omega) only [bu_n, bu_e, q, and_self]
  exact R1.tl (i := 3) (v := v) hA (by unfold mDie; dsimp only; rw [bu_n (by omega), bu_n (by omega)]; exact h1) (by decide) (fun q => absurd q (by decide))
theorem u_runTold {d L : Nat} {σ : Sg} {A a m k kd : Int} {c0 : Int → Int} {x : Rs} (hR : RC A c0 σ x) (hA : 20 ≤ A ∧ A ≤ 48) (he : a = A + 18 + m) (ha : 6 < a) (hK : shK (SH L) a = 12) (B : WB x.2) (hm : 0 ≤ m ∧ m < x.2 1) (hk : k = 20 + kd ∧ 1 ≤ kd ∧ kd ≤ 5) (hd : 1 ≤ d) : cV d m_X3_runTold [vr 178, vi k, vr a] (SH L) σ (fun σ' => RC A c0 σ' (rTl x kd m) ∧ frRn A σ σ') :=
  have am := hR.1.2.2.2.1 m hm.1 hm.2; have wm := B.wm hm.1 hm.2; have a6 : σ a 6 = x.2 (64 + m) := (by rw [he]; exact am.2.2.2.2.2.1); have a8 : σ a 8 = x.2 (74 + m) := (by rw [he]; exact am.2.2.2.2.2.2.2.1); have w6 : -1 ≤ x.2 (64 + m) := wm.2.2.2.2.2.1.1; have w8 : 0 ≤ x.2 (74 + m) ∧ x.2 (74 + m) ≤ 1 := wm.2.2.2.2.2.2.1; cV.go rfl rfl (Go.sym (cut := []) 18 ⟨⟨nb rfl, nb rfl, hK⟩, ⟨d0 hd, nb rfl⟩, cI.det (u_isDead ha hK) ⟨fun c1 => ⟨fun c2 => ⟨⟨hK, (by omega)⟩, ⟨rfl, rfl, (rTl_w (σ := σ) (a := a) (v := 1) hR hA B hm he (by have z : bi (¬ σ a 6 = -1) = 0 := c1; have z2 : σ a 6 = -1 := Decidable.byContradiction (fun y => by rw [bi_t y] at z; exact absurd z (by decide)); omega) (by have z : k = 21 := c2; omega) (by have z : k = 21 := c2; rw [if_neg (by omega)]; omega))⟩⟩, fun c2 => ⟨fun c3 => ⟨⟨hK, (by omega)⟩, ⟨rfl, rfl, (rTl_w (σ := σ) (a := a) (v := 2) hR hA B hm he (by have z : bi (¬ σ a 6 = -1) = 0 := c1; have z2 : σ a 6 = -1 := Decidable.byContradiction (fun y => by rw [bi_t y] at z; exact absurd z (by decide)); omega) (by have z : k = 22 := c3; omega) (by have z : k = 22 := c3; rw [if_neg (by omega)]; omega))⟩⟩, fun c3 => ⟨fun c4 => ⟨⟨hK, (by omega)⟩, ⟨rfl, rfl, (rTl_w (σ := σ) (a := a) (v := 0) hR hA B hm he (by have z : bi (¬ σ a 6 = -1) = 0 := c1; have z2 : σ a 6 = -1 := Decidable.byContradiction (fun y => by rw [bi_t y] at z; exact absurd z (by decide)); omega) (by have z : k = 23 := c4; omega) (by have z : k = 23 := c4; rw [if_pos (by omega)]))⟩⟩, fun c4 => ⟨fun c5 => ⟨⟨nb rfl, nb rfl, hK⟩, ⟨d0 hd, nb rfl⟩, cV.det (u_perish ha hK) ⟨rfl, ⟨⟨rfl, (il rfl), (ib rfl)⟩, ⟨⟨rfl, (ib rfl), (il rfl), (ib rfl)⟩, ⟨rfl, rfl, (rTl_k (σ := σ) (a := a) (v := q32 (sr σ a (bu (bu (σ a) 6 0) 5 0) 179 3 + 1)) hR hA B hm he (by have z : bi (¬ σ a 6 = -1) = 0 := c1; have z2 : σ a 6 = -1 := Decidable.byContradiction (fun y => by rw [bi_t y] at z; exact absurd z (by decide)); omega) (by have z : k = 24 := c5; omega) (by have := B.2.1; rw [sr_n (by omega)]))⟩⟩⟩⟩⟩, fun c5 => ⟨hK, ⟨fun c6 => ⟨⟨hK, (by omega), (by decide)⟩, ⟨rfl, rfl, (rTl_s (σ := σ) (a := a) (v := 0) hR hA B hm he (by have z : bi (¬ σ a 6 = -1) = 0 := c1; have z2 : σ a 6 = -1 := Decidable.byContradiction (fun y => by rw [bi_t y] at z; exact absurd z (by decide)); omega) (by have n0 : ¬ k = 21 := c2;  have n1 : ¬ k = 22 := c3;  have n2 : ¬ k = 23 := c4;  have n3 : ¬ k = 24 := c5; omega) (by show (0 : Int) = 1 - x.2 (74 + m); have z2 : ¬ σ a 8 = 0 := c6; omega))⟩⟩, fun c6 => ⟨⟨hK, (by omega), (by decide)⟩, ⟨rfl, rfl, (rTl_s (σ := σ) (a := a) (v := 1) hR hA B hm he (by have z : bi (¬ σ a 6 = -1) = 0 := c1; have z2 : σ a 6 = -1 := Decidable.byContradiction (fun y => by rw [bi_t y] at z; exact absurd z (by decide)); omega) (by have n0 : ¬ k = 21 := c2;  have n1 : ¬ k = 22 := c3;  have n2 : ¬ k = 23 := c4;  have n3 : ¬ k = 24 := c5; omega) (by show (1 : Int) = 1 - x.2 (74 + m); have z2 : ¬ ¬ σ a 8 = 0 := c6; omega))⟩⟩⟩⟩⟩⟩⟩⟩, fun c1 => ⟨rfl, ⟨⟨rfl, (il rfl), (ib rfl)⟩, ⟨⟨rfl, (ib rfl), (il rfl), (ib rfl)⟩, ⟨rfl, rfl, (rTl_d (σ := σ) (v := q32 (σ 179 0 + 1)) hR hA B (by have z : ¬ bi (¬ σ a 6 = -1) = 0 := c1; have z2 : ¬ σ a 6 = -1 := (fun y => z (bi_f (fun q => q y))); omega) rfl)⟩⟩⟩⟩⟩⟩)
