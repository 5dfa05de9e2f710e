/-! ===== MINUTES from BELL to BELL, in numbers (text laid by gencls36.py) ===== -/
theorem mMinN_add {b : Int → Int} {s : Nat} : ∀ t : Nat, mMinN (mMinN b s) t = mMinN b (s + t)
  | 0 => rfl
  | t + 1 => by rw [mMinN_s, mMinN_add t]; rfl
theorem dv1 {x k : Int} (hk : 0 < k) : (x + 1) / k = x / k + if (x + 1) % k = 0 then 1 else 0 := by
  have d := Int.mul_ediv_add_emod x k
  have r1 := Int.emod_nonneg x (show k ≠ 0 by omega)
  have r2 := Int.emod_lt_of_pos x hk
  by_cases c : x % k + 1 = k
  · have e : x + 1 = k * (x / k + 1) := by rw [Int.mul_add]; omega
    have e1 : (x + 1) / k = x / k + 1 := by rw [e]; exact Int.mul_ediv_cancel_left _ (by omega)
    have e2 : (x + 1) % k = 0 := by rw [e]; exact Int.mul_emod_right _ _
    rw [e1, e2, if_pos rfl]
  · have e : x + 1 = (x % k + 1) + k * (x / k) := by omega
    have e1 : (x + 1) / k = x / k := by rw [e, Int.add_mul_ediv_left _ _ (by omega), Int.ediv_eq_zero_of_lt (by omega) (by omega)]; omega
    have e2 : (x + 1) % k = x % k + 1 := by
      have q : (x + 1) % k = ((x % k + 1) + k * (x / k)) % k := by rw [← e]
      rw [q, Int.add_mul_emod_self_left, Int.emod_eq_of_lt (by omega) (by omega)]
    rw [e1, e2, if_neg (by omega)]; omega
def rgN (b : Int → Int) (t : Int) : Int := (b 8 + t) / b 7 - b 8 / b 7
theorem bell_k {b : Int → Int} (B : WB b) {G : Int} : ∀ t : Nat, (∀ i : Nat, i < t → (b 8 + (i : Int) + 1) % b 7 = 0 → mG (mMinN b (i + 1)) = G) → ∀ j, 9 ≤ j → j ≤ 13 → mMinN b t j = b j + if j = (if G < 0 then 9 else 10 + G) then rgN b t else 0
  | 0, _, j, h1, h2 => by
    show b j = _
    unfold rgN
    rw [show b 8 + ((0 : Nat) : Int) = b 8 by omega, Int.sub_self]; split <;> omega
  | t + 1, h, j, h1, h2 => by
    have ih := bell_k B (G := G) t (fun i hi => h i (by omega)) j h1 h2
    have hb := B.2.1; have h0 := B.1; have h7 := B.2.2.2.2.2.2.2.1; have h8 := B.2.2.2.2.2.2.2.2.1
    have B' := mMinN_w B t
    have e7 : mMinN b t 7 = b 7 := mMinN_1 B (by omega) t
    have e8 : mMinN b t 8 = b 8 + t := mMinN_8 B t
    have e1 : mMinN b t 1 = b 1 := mMinN_1 B (by omega) t
    have tk : mTick (mMinN b t) j = mMinN b t j := mTick_1 (by omega) (by omega) (by rw [e1]; exact hb.2)
    have dv := dv1 (x := b 8 + t) (k := b 7) (by omega)
    have g : mG (mTick (mMinN b t)) = mG (mMinN b (t + 1)) := by
      rw [mMinN_s]; exact (mG_ev (fun j hj => mMin_t B' (by omega)) (mMin_w B')).symm
    have rg : mRing (mMinN b t) = (b 8 + t + 1) % b 7 := by unfold mRing; rw [e7, e8]; exact Int.tmod_eq_emod_of_nonneg (by omega)
    unfold rgN at ih ⊢
    rw [show b 8 + ((t + 1 : Nat) : Int) = b 8 + t + 1 by omega, dv]
    rw [mMinN_s]; unfold mMin; rw [rg]
    obtain ⟨I, hI⟩ : ∃ I : Int, I = (if G < 0 then 9 else 10 + G) := ⟨_, rfl⟩
    rw [← hI] at ih ⊢
    by_cases c : (b 8 + t + 1) % b 7 = 0
    · have gg := h t (by omega) c
      rw [← g] at gg
      simp only [if_pos c, gg]
      have hbu : (if G < 0 then bu (mTick (mMinN b t)) 9 (mMinN b t 9 + 1) else bu (mTick (mMinN b t)) (10 + G) (mMinN b t (10 + G) + 1)) = bu (mTick (mMinN b t)) I (mMinN b t I + 1) := by rw [hI]; split <;> rfl
      rw [hbu]
      by_cases q : j = I
      · rw [if_pos q] at ih; rw [bu_e q, if_pos q, ← q, ih]; omega
      · rw [if_neg q] at ih; rw [bu_n q, if_neg q, tk, ih]
    · simp only [if_neg c]
      rw [tk, ih, Int.add_zero]
theorem nobell {x k i t : Int} (hk : 0 < k) (hi : 0 ≤ i) (hit : i + 1 < t) (ht : t ≤ k - x % k) : ¬ (x + i + 1) % k = 0 := by
  have d := Int.mul_ediv_add_emod x k
  have r1 := Int.emod_nonneg x (show k ≠ 0 by omega)
  have e : x + i + 1 = (x % k + i + 1) + k * (x / k) := by omega
  rw [e, Int.add_mul_emod_self_left, Int.emod_eq_of_lt (by omega) (by omega)]; omega
theorem yR_e {b : Int → Int} {t m : Int} : yRow b t m = if ¬ b (64 + m) = -1 ∨ ¬ b (74 + m) = 0 ∨ b (54 + m) = 0 then b (24 + m) else if b (54 + m) = 1 then max 0 (b (24 + m) - b (34 + m) * t) else min 999 (b (24 + m) + b (34 + m) * t) := rfl
theorem yR_fix {b : Int → Int} (B : WB b) {m : Int} (h1 : 0 ≤ m) (h2 : m < b 1) {t i : Int} (ht : 1 ≤ t) (hi : 0 ≤ i) (h : yRow b t m = b (24 + m)) : yRow b i m = b (24 + m) := by
  have w := B.wm h1 h2
  unfold WM at w
  have p1 : 0 < b (34 + m) * t := Int.mul_pos (by omega) (by omega)
  have p2 : 0 ≤ b (34 + m) * i := Int.mul_nonneg (by omega) hi
  rw [yR_e] at h ⊢
  generalize b (34 + m) * t = P at *
  generalize b (34 + m) * i = Q at *
  by_cases c : ¬ b (64 + m) = -1 ∨ ¬ b (74 + m) = 0 ∨ b (54 + m) = 0
  · rw [if_pos c]
  · rw [if_neg c] at h ⊢
    by_cases c1 : b (54 + m) = 1
    · rw [if_pos c1] at h ⊢; omega
    · rw [if_neg c1] at h ⊢; omega
def wy (b : Int → Int) (t m : Int) : Int := if (b (64 + m) < 0 ∧ b (74 + m) = 0) ∧ b (54 + m) = 1 ∧ yRow b t m = 0 then 0 else b (54 + m)
def wkA (b : Int → Int) (t n : Int) : Int → Int := fun j => if 24 ≤ j ∧ j < 24 + n then yRow b t (j - 24) else if 54 ≤ j ∧ j < 54 + n then wy b t (j - 54) else b j
def mvd (b : Int → Int) (t : Int) : Nat → Int
  | 0 => 0
  | n + 1 => z_or (mvd b t n) (bi (¬ yRow b t n = b (24 + (n : Int))))
theorem zor01 : z_or 0 0 = 0 ∧ z_or 0 1 = 1 ∧ z_or 1 0 = 1 ∧ z_or 1 1 = 1 := by decide +kernel
theorem mvd_r {b : Int → Int} {t : Int} : ∀ n : Nat, mvd b t n = 0 ∨ mvd b t n = 1
  | 0 => Or.inl rfl
  | n + 1 => by
    unfold mvd
    rcases mvd_r (b := b) (t := t) n with e | e <;> rcases bi_r (c := ¬ yRow b t n = b (24 + (n : Int))) with f | f <;> rw [e, f] <;> simp only [zor01] <;> simp
theorem mvd_0 {b : Int → Int} {t : Int} : ∀ n : Nat, mvd b t n = 0 ↔ ∀ m : Nat, m < n → yRow b t m = b (24 + (m : Int))
  | 0 => ⟨fun _ m h => by omega, fun _ => rfl⟩
  | n + 1 => by
    have ih := mvd_0 (b := b) (t := t) n
    have hz : mvd b t (n + 1) = 0 ↔ (mvd b t n = 0 ∧ bi (¬ yRow b t n = b (24 + (n : Int))) = 0) := by
      show z_or (mvd b t n) (bi (¬ yRow b t n = b (24 + (n : Int)))) = 0 ↔ _
      rcases mvd_r (b := b) (t := t) n with e | e <;> rcases bi_r (c := ¬ yRow b t n = b (24 + (n : Int))) with f | f <;> rw [e, f] <;> simp [zor01]
    rw [hz, ih, bi0, Decidable.not_not]
    constructor
    · intro x m hm
      by_cases e : m = n
      · subst e; exact x.2
      · exact x.1 m (by omega)
    · intro x; exact ⟨fun m hm => x m (by omega), x n (by omega)⟩
/-- what a round of MINUTES does is what so many MINUTES do -/
theorem rnd_m {b : Int → Int} (B : WB b) {n t g : Int} (hn : 1 ≤ n) (ht : t = min n (b 7 - b 8 % b 7)) (hg : g = if mvd b t (b 1).toNat = 0 then n else t) :
    1 ≤ t ∧ (1 ≤ g ∧ g ≤ n) ∧ (∀ m, 0 ≤ m → m < b 1 → mMinN b g.toNat (24 + m) = yRow b t m ∧ mMinN b g.toNat (54 + m) = wy b t m) ∧ (∀ j, 9 ≤ j → j ≤ 13 → mMinN b g.toNat j = b j + if j = (if mG (mMinN b g.toNat) < 0 then 9 else 10 + mG (mMinN b g.toNat)) then rgN b g else 0) := by
  have hb := B.2.1; have h7 := B.2.2.2.2.2.2.2.1; have h8 := B.2.2.2.2.2.2.2.2.1
  have r1 := Int.emod_nonneg (b 8) (show b 7 ≠ 0 by omega)
  have r2 := Int.emod_lt_of_pos (b 8) (show 0 < b 7 by omega)
  have t1 : 1 ≤ t := by omega
  have g1 : 1 ≤ g ∧ g ≤ n := by rw [hg]; split <;> omega
  have cg : ((g.toNat : Nat) : Int) = g := by omega
  refine ⟨t1, g1, fun m x y => ?_, ?_⟩
  · have yy : yRow b g m = yRow b t m := by
      rw [hg]
      by_cases c : mvd b t (b 1).toNat = 0
      · rw [if_pos c]
        have f := (mvd_0 (b 1).toNat).mp c m.toNat (by omega)
        rw [show ((m.toNat : Nat) : Int) = m by omega] at f
        rw [yR_fix B x y t1 (by omega) f, f]
      · rw [if_neg c]
    have mc := Mc.minN B (m := m.toNat) (by omega) g.toNat
    rw [show ((m.toNat : Nat) : Int) = m by omega] at mc
    have wl := wlk_y B x y g.toNat
    rw [cg] at wl
    refine ⟨mc.1.trans (wl.1.trans yy), mc.2.2.1.trans (wl.2.trans ?_)⟩
    unfold wy
    rw [yy]
    by_cases c : (b (64 + m) < 0 ∧ b (74 + m) = 0) ∧ b (54 + m) = 1 ∧ yRow b t m = 0
    · rw [if_pos c, if_pos ⟨c.1, c.2.1, c.2.2, by omega⟩]
    · rw [if_neg c, if_neg (fun z => c ⟨z.1, z.2.1, z.2.2.1⟩)]
  · have key := bell_k B (G := mG (mMinN b g.toNat)) g.toNat (fun i hi ring => ?_)
    · rw [cg] at key; exact key
    · by_cases c : mvd b t (b 1).toNat = 0
      · have fx : ∀ s : Nat, mG (mMinN b s) = mG b := fun s => by
          have e := mG_ev (ev_T B s) (mMinN_w B s)
          rw [e]; congr 1
          funext j; unfold bT
          by_cases q : 24 ≤ j ∧ j < 24 + b 1
          · rw [if_pos q]
            have f := (mvd_0 (b 1).toNat).mp c (j - 24).toNat (by omega)
            rw [show (((j - 24).toNat : Nat) : Int) = j - 24 by omega] at f
            rw [yR_fix B (by omega) (by omega) t1 (by omega) f]; congr 1; omega
          · rw [if_neg q]
        rw [fx, fx]
      · rw [if_neg c] at hg
        by_cases e : i + 1 = g.toNat
        · rw [e]
        · exact absurd ring (nobell (t := t) (by omega) (by omega) (by omega) (by omega))
theorem WB.yw {b b' : Int → Int} (h : WB b) (e : ∀ j, ¬ (24 ≤ j ∧ j < 34) → ¬ (54 ≤ j ∧ j < 64) → b' j = b j) (y : ∀ m, 0 ≤ m → m < b 1 → (0 ≤ b' (24 + m) ∧ b' (24 + m) ≤ 999) ∧ (0 ≤ b' (54 + m) ∧ b' (54 + m) ≤ 2)) : WB b' := by
  have h1 := h.2.1
  have h2 := h.2.2.1
  have h3 := h.2.2.2.1
  obtain ⟨a0, a1, a2, a3, a4, a5, a6, a7, a8, a9, am, ak, ar⟩ := h
  have e1 : b' 1 = b 1 := e 1 (by omega) (by omega)
  have e0 : b' 0 = b 0 := e 0 (by omega) (by omega)
  have e2 : b' 2 = b 2 := e 2 (by omega) (by omega)
  have e3 : b' 3 = b 3 := e 3 (by omega) (by omega)
  have e8 : b' 8 = b 8 := e 8 (by omega) (by omega)
  refine ⟨by rw [e0]; exact a0, by rw [e1]; exact a1, by rw [e2]; exact a2, by rw [e3]; exact a3, by rw [e 4 (by omega) (by omega)]; exact a4, by rw [e 5 (by omega) (by omega)]; exact a5, by rw [e 6 (by omega) (by omega)]; exact a6, by rw [e 7 (by omega) (by omega)]; exact a7, by rw [e8]; exact a8, fun j x z => by rw [e j (by omega) (by omega), e8]; exact a9 j x z, fun m x z => ?_, fun k x z => ?_, fun r x z => ?_⟩
  · rw [e1] at z
    have w := am m x z
    have hy := y m x z
    unfold WM at *
    rw [e (14 + m) (by omega) (by omega), e (34 + m) (by omega) (by omega), e (44 + m) (by omega) (by omega), e (64 + m) (by omega) (by omega), e (74 + m) (by omega) (by omega), e (84 + m) (by omega) (by omega), e (94 + m) (by omega) (by omega), e0, e1]
    exact ⟨w.1, hy.1, w.2.2.1, w.2.2.2.1, hy.2, w.2.2.2.2.2⟩
  · rw [e2] at z; rw [e (104 + k) (by omega) (by omega), e (109 + k) (by omega) (by omega)]; exact ak k x z
  · rw [e3] at z; rw [e (114 + r) (by omega) (by omega), e (120 + r) (by omega) (by omega)]; exact ar r x z
theorem wkA_o {b : Int → Int} {t n j : Int} (hn : n ≤ 10) (h1 : ¬ (24 ≤ j ∧ j < 34)) (h2 : ¬ (54 ≤ j ∧ j < 64)) : wkA b t n j = b j := by unfold wkA; rw [if_neg (by omega), if_neg (by omega)]
theorem wkA_y {b : Int → Int} {t n m : Int} (h1 : 0 ≤ m) (h2 : m < n) : wkA b t n (24 + m) = yRow b t m := by unfold wkA; rw [if_pos (by omega), show 24 + m - 24 = m by omega]
theorem wkA_w {b : Int → Int} {t n m : Int} (hn : n ≤ 10) (h1 : 0 ≤ m) (h2 : m < n) : wkA b t n (54 + m) = wy b t m := by unfold wkA; rw [if_neg (by omega), if_pos (by omega), show 54 + m - 54 = m by omega]
theorem wy_r {b : Int → Int} (B : WB b) {t m : Int} (h1 : 0 ≤ m) (h2 : m < b 1) : 0 ≤ wy b t m ∧ wy b t m ≤ 2 := by
  have w := B.wm h1 h2
  unfold WM at w
  unfold wy; split <;> omega
theorem wkA_wb {b : Int → Int} (B : WB b) {t : Int} (ht : 0 ≤ t) : WB (wkA b t (b 1)) := by
  have hb := B.2.1
  exact B.yw (fun j x y => wkA_o hb.2 x y) (fun m x y => ⟨by rw [wkA_y x y]; exact yRow_r B x y ht, by rw [wkA_w hb.2 x y]; exact wy_r B x y⟩)
theorem Asm.cg {σ : Sg} {A : Int} {b b' : Int → Int} (h : Asm σ A b) (hB2 : b 2 ≤ 5) (hB3 : b 3 ≤ 6) (e : ∀ j, (0 ≤ j ∧ j < 14) ∨ (104 ≤ j ∧ j < 126) → b' j = b j) (em : ∀ m f, 0 ≤ m → m < b 1 → (f = 14 ∨ f = 24 ∨ f = 34 ∨ f = 44 ∨ f = 54 ∨ f = 64 ∨ f = 74 ∨ f = 84 ∨ f = 94) → b' (f + m) = b (f + m)) : Asm σ A b' := by
  obtain ⟨a1, a2, a3, a4, a5, a6⟩ := h
  have e1 := e 1 (by omega); have e2 := e 2 (by omega); have e3 := e 3 (by omega)
  refine ⟨?_, ?_, ⟨fun j x y => ?_, ?_⟩, fun m x y => ?_, fun k x y => ?_, fun r x y => ?_⟩
  · rw [e 0 (by omega), e1, e2, e3, e 8 (by omega)]; exact a1
  · rw [e 4 (by omega), e 5 (by omega), e 6 (by omega), e 7 (by omega)]; exact a2
  · rw [e (10 + j) (by omega)]; exact a3.1 j x y
  · rw [e 9 (by omega)]; exact a3.2
  · rw [e1] at y
    have q := a4 m x y
    unfold AsmM at q ⊢
    rw [em m 14 x y (by omega), em m 24 x y (by omega), em m 34 x y (by omega), em m 44 x y (by omega), em m 54 x y (by omega), em m 64 x y (by omega), em m 74 x y (by omega), em m 84 x y (by omega), em m 94 x y (by omega)]; exact q
  · rw [e2] at y; rw [e (104 + k) (by omega), e (109 + k) (by omega)]; exact a5 k x y
  · rw [e3] at y; rw [e (114 + r) (by omega), e (120 + r) (by omega)]; exact a6 r x y
/-- a member's row is another -/
theorem Asm.ms {σ : Sg} {A : Int} {b b' r : Int → Int} {m : Int} (h : Asm σ A b) (B : WB b) (hm : 0 ≤ m ∧ m < b 1) (e : ∀ j, j ≠ 24 + m → j ≠ 54 + m → j ≠ 64 + m → j ≠ 74 + m → b' j = b j) (hr : AsmM r b' m) : Asm (sr σ (A + 18 + m) r) A b' := by
  have hB1 := B.2.1; have hB2 := B.2.2.1; have hB3 := B.2.2.2.1
  obtain ⟨a1, a2, a3, a4, a5, a6⟩ := h
  have o : ∀ a, a ≠ A + 18 + m → sr σ (A + 18 + m) r a = σ a := fun a q => sr_n q
  have e1 : b' 1 = b 1 := e 1 (by omega) (by omega) (by omega) (by omega)
  have e2 : b' 2 = b 2 := e 2 (by omega) (by omega) (by omega) (by omega)
  have e3 : b' 3 = b 3 := e 3 (by omega) (by omega) (by omega) (by omega)
  refine ⟨?_, ?_, ⟨fun j x y => ?_, ?_⟩, fun i x y => ?_, fun k x y => ?_, fun s x y => ?_⟩
  · rw [o A (by omega), e 0 (by omega) (by omega) (by omega) (by omega), e1, e2, e3, e 8 (by omega) (by omega) (by omega) (by omega)]; exact a1
  · rw [o (A + 1) (by omega), e 4 (by omega) (by omega) (by omega) (by omega), e 5 (by omega) (by omega) (by omega) (by omega), e 6 (by omega) (by omega) (by omega) (by omega), e 7 (by omega) (by omega) (by omega) (by omega)]; exact a2
  · rw [o (A + 2) (by omega), e (10 + j) (by omega) (by omega) (by omega) (by omega)]; exact a3.1 j x y
  · rw [o (A + 2) (by omega), e 9 (by omega) (by omega) (by omega) (by omega)]; exact a3.2
  · rw [e1] at y
    by_cases q : i = m
    · subst q; rw [sr_e rfl]; exact hr
    · rw [o _ (by omega)]
      have z := a4 i x y
      unfold AsmM at z ⊢
      simp (disch := omega) only [e]; exact z
  · rw [e2] at y; rw [o _ (by omega), o _ (by omega), e _ (by omega) (by omega) (by omega) (by omega), e _ (by omega) (by omega) (by omega) (by omega)]; exact a5 k x y
  · rw [e3] at y; rw [o _ (by omega), o _ (by omega), e _ (by omega) (by omega) (by omega) (by omega), e _ (by omega) (by omega) (by omega) (by omega)]; exact a6 s x y
