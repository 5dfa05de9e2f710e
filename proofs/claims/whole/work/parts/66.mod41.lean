/-! ===== the model: SESSIONS are lived: what is to hold (text laid by genmod41.py) ===== -/
def rLoop (A : Rs → Rs) : Nat → Rs → Rs
  | 0, x => x
  | k + 1, x => if x.1 34 = 0 then rLoop A k (A x) else x
theorem rLoop_s {A : Rs → Rs} {k : Nat} {x : Rs} : rLoop A (k + 1) x = if x.1 34 = 0 then rLoop A k (A x) else x := rfl
theorem rLoop_o {A : Rs → Rs} {x : Rs} (h : ¬ x.1 34 = 0) : ∀ k : Nat, rLoop A k x = x
  | 0 => rfl
  | k + 1 => by rw [rLoop_s, if_neg h]
def nxS (c : Int → Int) (s : Int) : Int := c (128 + 9 * s + 8)
def rTwo (A : Int → Int → Rs → Rs) (s : Int) (x : Rs) : Rs := if x.2 (128 + 9 * s) < 7 then (bu (rDoes x (128 + 9 * s)).2.1 37 (q32 (x.1 37 + if (rDoes x (128 + 9 * s)).1 = 0 then 1 else 0)), (rDoes x (128 + 9 * s)).2.2)
  else if x.2 (128 + 9 * s) = 7 ∧ rSo x.2 (128 + 9 * s) = 1 then A (s + 1) (nxS x.2 s) x
  else if x.2 (128 + 9 * s) = 8 then rLoop (A (s + 1) (nxS x.2 s)) (x.2 (128 + 9 * s + 1)).toNat x
  else if 8 < x.2 (128 + 9 * s) then (bu x.1 34 1, x.2) else x
def rOne (A : Int → Int → Rs → Rs) (s : Int) (x : Rs) : Rs := if x.1 36 = 300 then (bu (bu x.1 34 1) 41 1, x.2) else rTwo A s (bu x.1 36 (x.1 36 + 1), x.2)
def rWhile (O : Int → Rs → Rs) (t : Int) : Nat → Int → Rs → Rs
  | 0, _, x => x
  | n + 1, s, x => if s < t ∧ x.1 34 = 0 then rWhile O t n (nxS (O s x).2 s) (O s x) else x
theorem rWhile_s {O : Int → Rs → Rs} {t s : Int} {n : Nat} {x : Rs} : rWhile O t (n + 1) s x = if s < t ∧ x.1 34 = 0 then rWhile O t n (nxS (O s x).2 s) (O s x) else x := rfl
theorem rWhile_o {O : Int → Rs → Rs} {t s : Int} {x : Rs} (h : ¬ (s < t ∧ x.1 34 = 0)) : ∀ n : Nat, rWhile O t n s x = x
  | 0 => rfl
  | n + 1 => by rw [rWhile_s, if_neg h]
def rAll : Nat → Int → Int → Rs → Rs
  | 0, _, _, x => x
  | D + 1, f, t, x => rWhile (rOne (rAll D)) t (t - f).toNat f x
theorem rAll_s {D : Nat} {f t : Int} {x : Rs} : rAll (D + 1) f t x = rWhile (rOne (rAll D)) t (t - f).toNat f x := rfl
def SOK (c : Int → Int) (s : Int) : Prop := (0 ≤ c (128 + 9 * s) ∧ c (128 + 9 * s) ≤ 9) ∧ (c (128 + 9 * s) = 0 → 1 ≤ c (128 + 9 * s + 1) ∧ c (128 + 9 * s + 1) ≤ 60) ∧ (1 ≤ c (128 + 9 * s) ∧ c (128 + 9 * s) ≤ 5 → 0 ≤ c (128 + 9 * s + 1) ∧ c (128 + 9 * s + 1) < c 1)
  ∧ (c (128 + 9 * s) = 8 → 1 ≤ c (128 + 9 * s + 1) ∧ c (128 + 9 * s + 1) ≤ 99) ∧ (c (128 + 9 * s) = 7 → (c (128 + 9 * s + 6) = 1 → 0 ≤ c (128 + 9 * s + 1) ∧ c (128 + 9 * s + 1) < c 2) ∧ (¬ c (128 + 9 * s + 6) = 0 → ¬ c (128 + 9 * s + 6) = 1 → 0 ≤ c (128 + 9 * s + 1) ∧ c (128 + 9 * s + 1) < c 1))
def SWf (c : Int → Int) : Nat → Int → Int → Prop
  | 0, _, _ => False
  | D + 1, f, t => (0 ≤ f ∧ t ≤ 30) ∧ ∀ s, f ≤ s → s < t → SOK c s ∧ (s < nxS c s ∧ nxS c s ≤ t) ∧ (c (128 + 9 * s) = 7 ∨ c (128 + 9 * s) = 8 → SWf c D (s + 1) (nxS c s))
/-- what holds of a run: of the block as it was at first only what members do is changed -/
def RJ (c0 : Int → Int) (x : Rs) : Prop := WB x.2 ∧ x.2 8 ≤ 9999 ∧ (0 ≤ x.1 35 ∧ x.1 35 < 65536) ∧ (0 ≤ x.1 36 ∧ x.1 36 ≤ 300) ∧ (x.1 34 = 0 ∨ x.1 34 = 1) ∧ ∀ j, j < 3 ∨ 104 ≤ j → x.2 j = c0 j
theorem RJ.nx {c0 : Int → Int} {x : Rs} (h : RJ c0 x) {s : Int} (hs : 0 ≤ s) : nxS x.2 s = nxS c0 s := h.2.2.2.2.2 _ (by omega)
theorem RJ.sok {c0 : Int → Int} {x : Rs} (h : RJ c0 x) {s : Int} (hs : 0 ≤ s) (k : SOK c0 s) : SOK x.2 s := by
  have e := h.2.2.2.2.2
  unfold SOK at *
  rw [e _ (by omega), e (128 + 9 * s + 1) (by omega), e (128 + 9 * s + 6) (by omega), e 1 (by omega), e 2 (by omega)]
  exact k
/-- fields of the run's own that nothing here reads -/
theorem RJ.b {c0 : Int → Int} {x : Rs} (h : RJ c0 x) {j v : Int} (hj : 37 ≤ j) : RJ c0 (bu x.1 j v, x.2) := by
  obtain ⟨h1, h2, h3, h4, h5, h6⟩ := h
  refine ⟨h1, h2, ?_, ?_, ?_, h6⟩ <;> (dsimp only; simp (disch := omega) only [bu_n]; assumption)
theorem RJ.d {c0 : Int → Int} {x : Rs} (h : RJ c0 x) {v : Int} (hv : 0 ≤ v ∧ v ≤ 300) : RJ c0 (bu x.1 36 v, x.2) := by
  obtain ⟨h1, h2, h3, h4, h5, h6⟩ := h
  refine ⟨h1, h2, ?_, ?_, ?_, h6⟩ <;> (dsimp only; simp (disch := omega) only [bu_n, bu_e]; assumption)
theorem RJ.h {c0 : Int → Int} {x : Rs} (h : RJ c0 x) {v : Int} (hv : v = 0 ∨ v = 1) : RJ c0 (bu x.1 34 v, x.2) := by
  obtain ⟨h1, h2, h3, h4, h5, h6⟩ := h
  refine ⟨h1, h2, ?_, ?_, ?_, h6⟩ <;> (dsimp only; simp (disch := omega) only [bu_n, bu_e]; assumption)
theorem RJ.r {c0 : Int → Int} {x : Rs} (h : RJ c0 x) {v : Int} (hv : 0 ≤ v ∧ v < 65536) : RJ c0 (bu x.1 35 v, x.2) := by
  obtain ⟨h1, h2, h3, h4, h5, h6⟩ := h
  refine ⟨h1, h2, ?_, ?_, ?_, h6⟩ <;> (dsimp only; simp (disch := omega) only [bu_n, bu_e]; assumption)
theorem RJ.m {c0 : Int → Int} {x : Rs} (h : RJ c0 x) {m f v : Int} (h1 : 0 ≤ m) (h2 : m < x.2 1) (hf : f = 24 ∧ 0 ≤ v ∧ v ≤ 999 ∨ f = 54 ∧ 0 ≤ v ∧ v ≤ 2 ∨ f = 64 ∧ -1 ≤ v ∧ v ≤ 99 ∨ f = 74 ∧ 0 ≤ v ∧ v ≤ 1 ∨ f = 84 ∧ 0 ≤ v ∧ v ≤ 1 ∨ f = 14 ∧ 0 ≤ v ∧ v < x.2 0) : RJ c0 (x.1, bu x.2 (f + m) v) := by
  obtain ⟨w1, w2, w3, w4, w5, w6⟩ := h
  have hb := w1.2.1
  refine ⟨w1.mem h1 h2 hf, ?_, w3, w4, w5, fun j hj => ?_⟩
  · dsimp only; rw [bu_n (by omega)]; exact w2
  · dsimp only; rw [bu_n (by omega)]; exact w6 j hj
theorem RJ.min {c0 : Int → Int} {x : Rs} (h : RJ c0 x) {n : Int} (hn : 0 ≤ n) : RJ c0 (rMin x n).2 := by
  unfold rMin; split
  · exact h
  · next hq =>
    obtain ⟨w1, w2, w3, w4, w5, w6⟩ := h
    refine RJ.b (x := (bu x.1 39 _, _)) (RJ.b (x := (x.1, _)) ⟨mMinN_w w1 _, ?_, w3, w4, w5, fun j hj => ?_⟩ (by decide)) (by decide)
    · dsimp only; rw [mMinN_8 w1]; omega
    · dsimp only; rw [mMinN_1 w1 (by omega)]; exact w6 j hj
theorem RJ.any {c0 : Int → Int} {x : Rs} (h : RJ c0 x) : RJ c0 (rAny x).2 := by
  have hb := h.1.2.1
  unfold rAny
  split
  · exact h
  · next z =>
    have hw := rWho_r (x := x) (by omega)
    split
    · exact RJ.m (x := (bu x.1 35 (rRd x), x.2)) (h.r rRd_r) hw.1 hw.2 (Or.inr (Or.inl ⟨rfl, by split <;> omega⟩))
    · exact h.r rRd_r
theorem RJ.die {c0 : Int → Int} {x : Rs} (h : RJ c0 x) {m : Int} (h1 : 0 ≤ m) (h2 : m < x.2 1) : RJ c0 (x.1, mDie x.2 m) := by
  have hb := h.1.2.1
  unfold mDie
  refine RJ.m (x := (x.1, bu x.2 (64 + m) 0)) (RJ.m h h1 h2 (Or.inr (Or.inr (Or.inl ⟨rfl, by omega⟩)))) h1 ?_ (Or.inr (Or.inl ⟨rfl, by omega⟩))
  dsimp only; rw [bu_n (by omega)]; exact h2
theorem RJ.does {c0 : Int → Int} {x : Rs} (h : RJ c0 x) {v : Int} (hv0 : 0 ≤ x.2 v ∧ x.2 v ≤ 6) (hk0 : x.2 v = 0 → 1 ≤ x.2 (v + 1) ∧ x.2 (v + 1) ≤ 60) (hk1 : 1 ≤ x.2 v ∧ x.2 v ≤ 5 → 0 ≤ x.2 (v + 1) ∧ x.2 (v + 1) < x.2 1) : RJ c0 (rDoes x v).2 := by
  unfold rDoes
  split
  · next e => exact h.min (by have := hk0 e; omega)
  · split
    · exact h.any
    · have hk := hk1 (by omega)
      have hw := h.1.wm hk.1 hk.2
      unfold WM at hw
      split
      · exact h
      · split
        · exact RJ.b (x := (x.1, _)) (h.die hk.1 hk.2) (by decide)
        · split
          · exact h.m hk.1 hk.2 (Or.inr (Or.inr (Or.inr (Or.inl ⟨rfl, by omega⟩))))
          · exact h.m hk.1 hk.2 (Or.inr (Or.inl ⟨rfl, by split <;> omega⟩))
theorem RJ.loop {c0 : Int → Int} {A : Rs → Rs} (hA : ∀ x, RJ c0 x → RJ c0 (A x)) : ∀ (k : Nat) (x : Rs), RJ c0 x → RJ c0 (rLoop A k x)
  | 0, x, h => h
  | k + 1, x, h => by rw [rLoop_s]; split; exact RJ.loop hA k _ (hA x h); exact h
theorem RJ.two {c0 : Int → Int} {x : Rs} (h : RJ c0 x) {s : Int} (hs : 0 ≤ s) (k : SOK c0 s) {A : Int → Int → Rs → Rs} (hA : c0 (128 + 9 * s) = 7 ∨ c0 (128 + 9 * s) = 8 → ∀ y, RJ c0 y → RJ c0 (A (s + 1) (nxS c0 s) y)) : RJ c0 (rTwo A s x) := by
  have k' := h.sok hs k
  have e := h.2.2.2.2.2 (128 + 9 * s) (by omega)
  unfold SOK at k'
  unfold rTwo
  split
  · next h7 => exact RJ.b (RJ.does h ⟨k'.1.1, by show x.2 _ ≤ 6; omega⟩ k'.2.1 k'.2.2.1) (by decide)
  · split
    · next h7 => rw [h.nx hs]; exact hA (by omega) _ h
    · split
      · next h8 => rw [h.nx hs]; exact RJ.loop (hA (by omega)) _ _ h
      · split
        · exact h.h (Or.inr rfl)
        · exact h
theorem RJ.one {c0 : Int → Int} {x : Rs} (h : RJ c0 x) {s : Int} (hs : 0 ≤ s) (k : SOK c0 s) {A : Int → Int → Rs → Rs} (hA : c0 (128 + 9 * s) = 7 ∨ c0 (128 + 9 * s) = 8 → ∀ y, RJ c0 y → RJ c0 (A (s + 1) (nxS c0 s) y)) : RJ c0 (rOne A s x) := by
  unfold rOne
  split
  · exact RJ.b (x := (bu x.1 34 1, x.2)) (h.h (Or.inr rfl)) (by decide)
  · next h3 => exact RJ.two (h.d (by have := h.2.2.2.1; omega)) hs k hA
theorem RJ.whl {c0 : Int → Int} {O : Int → Rs → Rs} {f t : Int} (hf : 0 ≤ f) (hO : ∀ s x, f ≤ s → s < t → RJ c0 x → RJ c0 (O s x)) (hN : ∀ s, f ≤ s → s < t → s < nxS c0 s) : ∀ (n : Nat) (s : Int) (x : Rs), f ≤ s → RJ c0 x → RJ c0 (rWhile O t n s x)
  | 0, s, x, _, h => h
  | n + 1, s, x, hs, h => by
    rw [rWhile_s]; split
    · next c =>
      have := hO s x hs c.1 h
      exact RJ.whl hf hO hN n _ _ (by rw [this.nx (by omega)]; have := hN s hs c.1; omega) this
    · exact h
theorem RJ.all {c0 : Int → Int} : ∀ (D : Nat) (f t : Int) (x : Rs), SWf c0 D f t → RJ c0 x → RJ c0 (rAll D f t x)
  | 0, f, t, x, w, h => w.elim
  | D + 1, f, t, x, w, h => by
    rw [rAll_s]
    refine RJ.whl w.1.1 (fun s x h1 h2 hx => ?_) (fun s h1 h2 => (w.2 s h1 h2).2.1.1) _ f x (Int.le_refl _) h
    have k := w.2 s h1 h2
    exact hx.one (by have := w.1; omega) k.1 (fun hk y hy => RJ.all D _ _ y (k.2.2 hk) hy)

