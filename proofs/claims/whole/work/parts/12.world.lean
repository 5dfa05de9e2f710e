/-! ===== the small machine's heap beside the machine's ===== -/
theorem shp_valid {s : MSh} {a : Int} (h : shK s a ≠ 99) : 1 ≤ a ∧ a ≤ s.length := by
  unfold shK shp at h
  split at h
  · rename_i n
    by_cases hn : n < s.length
    · simp only [Int.ofNat_eq_natCast]; omega
    · exfalso; apply h
      rw [List.getD_eq_getElem?_getD, List.getElem?_eq_none (by omega)]; rfl
  · exact absurd rfl h
theorem shp_at {s : MSh} {n : Nat} : shp s ((n + 1 : Nat) : Int) = s.getD n (99, 0, []) := rfl
theorem shp_nat {s : MSh} {a : Int} (h : 1 ≤ a) : shp s a = s.getD (a.toNat - 1) (99, 0, []) := by
  obtain ⟨n, rfl⟩ : ∃ n : Nat, a = ((n + 1 : Nat) : Int) := ⟨a.toNat - 1, by omega⟩
  rw [shp_at]; congr 1
theorem shp_app {s : MSh} {e : Nat × Nat × List Int} {a : Int} (h1 : 1 ≤ a) (h2 : a ≤ s.length) : shp (s ++ [e]) a = shp s a := by
  rw [shp_nat h1, shp_nat h1, List.getD_eq_getElem?_getD, List.getD_eq_getElem?_getD, List.getElem?_append_left (by omega)]
theorem shp_new {s : MSh} {e : Nat × Nat × List Int} : shp (s ++ [e]) ((s.length + 1 : Nat) : Int) = e := by
  rw [shp_at, List.getD_eq_getElem?_getD]; simp
theorem shp_set {s : MSh} {a b : Int} {k : Nat} {v : Int} (h1 : 1 ≤ a) (h2 : a ≤ s.length) (hb : 1 ≤ b) : shp (shSet s a k v) b = if b = a then ((shp s a).1, (shp s a).2.1, (shp s a).2.2.set k v) else shp s b := by
  unfold shSet
  rw [shp_nat hb, List.getD_eq_getElem?_getD]
  by_cases e : b = a
  · subst e
    rw [if_pos rfl, List.getElem?_set_self (by omega)]; rfl
  · rw [if_neg e, List.getElem?_set_ne (by omega), shp_nat hb, List.getD_eq_getElem?_getD]
def tcode (k : Nat) (j : Int) : Nat := if k = 1 then 1 else if k ≤ 5 then 0 else ftc (k - 10) j.toNat
def rgx (c : Nat) (x : Int) : Prop := if c = 1 then r64 x else if c = 2 then 0 ≤ x else r32 x
/-- kinds, lengths, ranges; what is not there yet is 0 -/
def WF (h : MH) : Prop := (∀ a : Int, 1 ≤ a → a ≤ h.1.length → (shp h.1 a).2.1 < 2147483648 ∧ (∀ j : Int, rgx (tcode (shK h.1 a) j) (h.2 a j)) ∧ (∀ k : Nat, 0 ≤ (shp h.1 a).2.2.getD k 0) ∧ ((3 ≤ shK h.1 a → shK h.1 a ≤ 5 → (shp h.1 a).2.2.length = (shp h.1 a).2.1)) ∧ (10 ≤ shK h.1 a → shK h.1 a < 23 → (shp h.1 a).2.2.length = nfl (shK h.1 a - 10))) ∧ ∀ (a j : Int), (h.1.length : Int) < a → h.2 a j = 0
def RV (v : MV) : Prop := match v with
  | .inl x => r32 x
  | .inr (.inl x) => r64 x
  | .inr (.inr (.inl a)) => 0 ≤ a
  | .inr (.inr (.inr _)) => True
section World
variable (D : va_G) (z0 : Nat) (oa : Nat → Nat) (ca : Nat → ClassId)
def rho (a : Int) : Nat := if a ≤ 6 then oa a.toNat else z0 + (a.toNat - 7)
def rfo (a : Int) : Option Nat := if a ≤ 0 then none else some (rho z0 oa a)
def trv (v : MV) : Value := match v with
  | .inl x => .int (Int32.ofInt x)
  | .inr (.inl x) => .long (Int64.ofInt x)
  | .inr (.inr (.inl a)) => va_rf (rfo z0 oa a)
  | .inr (.inr (.inr _)) => .null
def avl (f : Int → Int → Int) (a : Int) (k : Nat) (rs : List Int) (j : Nat) : Value := match k with
  | 0 => .int (Int32.ofInt (f a j))
  | 1 => .long (Int64.ofInt (f a j))
  | 2 => .int (Int32.ofInt (f a j))
  | _ => va_rf (rfo z0 oa (rs.getD j 0))
def fvl (f : Int → Int → Int) (a : Int) (ci : Nat) (rs : List Int) (j : Nat) : Value := match ftc ci j with
  | 1 => .long (Int64.ofInt (f a j))
  | 2 => va_rf (rfo z0 oa (f a j))
  | 3 => va_rf (rfo z0 oa (rs.getD j 0))
  | _ => .int (Int32.ofInt (f a j))
def cellAt (h : MH) (a : Int) (H : Heap) : Prop :=
  if shK h.1 a ≤ 5 then H[rho z0 oa a]? = some (arrV (ca (shK h.1 a)) (shp h.1 a).2.1 (avl z0 oa h.2 a (shK h.1 a) (shp h.1 a).2.2))
  else t_OB (rho z0 oa a) (D.1 (shK h.1 a - 10)) (nfl (shK h.1 a - 10)) (D.2 (shK h.1 a - 10)) H (fvl z0 oa h.2 a (shK h.1 a - 10) (shp h.1 a).2.2)
def WD (h : MH) (H : Heap) : Prop := H.size + 6 = z0 + h.1.length ∧ 6 ≤ h.1.length ∧ (∀ k, k ≤ 6 → oa k < z0) ∧ ∀ a : Int, 6 < a → a ≤ h.1.length → cellAt D z0 oa ca h a H
variable {D z0 oa ca}
theorem rho_new {a : Int} (h : 6 < a) : rho z0 oa a = z0 + (a.toNat - 7) := by unfold rho; rw [if_neg (by omega)]
theorem rho_ge {a : Int} (h : 6 < a) : z0 ≤ rho z0 oa a := by rw [rho_new h]; omega
theorem rho_ne {a b : Int} (ho : ∀ k, k ≤ 6 → oa k < z0) (ha : 6 < a) (hb : 1 ≤ b) (hne : b ≠ a) : rho z0 oa b ≠ rho z0 oa a := by
  rw [rho_new ha]
  by_cases h : 6 < b
  · rw [rho_new h]; omega
  · unfold rho; rw [if_pos (by omega)]
    have := ho b.toNat (by omega)
    omega
theorem cellAt_same {h h' : MH} {b : Int} {H H1 : Heap} (e1 : shp h'.1 b = shp h.1 b) (e2 : ∀ j, h'.2 b j = h.2 b j) (e3 : H1[rho z0 oa b]? = H[rho z0 oa b]?) (hc : cellAt D z0 oa ca h b H) : cellAt D z0 oa ca h' b H1 := by
  unfold cellAt at *
  have ek : shK h'.1 b = shK h.1 b := by unfold shK; rw [e1]
  rw [ek, e1]
  split
  · rename_i hk
    rw [if_pos hk] at hc
    rw [e3, hc]
    congr 2
    funext j
    unfold avl
    split <;> simp only [e2]
  · rename_i hk
    rw [if_neg hk] at hc
    refine t_OB.to (t_OB.kept hc e3) (fun j _ => ?_)
    unfold fvl
    split <;> simp only [e2]
theorem WD_put {h h' : MH} {H H1 : Heap} {a : Int} (hw : WD D z0 oa ca h H) (ha : 6 < a) (hsz : H1.size = H.size) (hlen : h'.1.length = h.1.length) (hoth : ∀ q, q ≠ rho z0 oa a → H1[q]? = H[q]?)
    (hsame : ∀ b : Int, 1 ≤ b → b ≠ a → shp h'.1 b = shp h.1 b ∧ ∀ j, h'.2 b j = h.2 b j) (hnew : cellAt D z0 oa ca h' a H1) : WD D z0 oa ca h' H1 := by
  obtain ⟨w1, w2, w3, w4⟩ := hw
  refine ⟨by rw [hsz, hlen]; exact w1, by rw [hlen]; exact w2, w3, fun b hb1 hb2 => ?_⟩
  by_cases e : b = a
  · subst e; exact hnew
  · exact cellAt_same (hsame b (by omega) e).1 (hsame b (by omega) e).2 (hoth _ (rho_ne w3 ha (by omega) e)) (w4 b hb1 (by rw [hlen] at hb2; exact hb2))
theorem up_ne {f : Int → Int → Int} {a j v b j' : Int} (h : b ≠ a) : up f a j v b j' = f b j' := by unfold up; rw [if_neg (fun q => h q.1)]
theorem up_nj {f : Int → Int → Int} {a j v b j' : Int} (h : j' ≠ j) : up f a j v b j' = f b j' := by unfold up; rw [if_neg (fun q => h q.2)]
theorem up_eq {f : Int → Int → Int} {a j v : Int} : up f a j v a j = v := by unfold up; rw [if_pos ⟨rfl, rfl⟩]
theorem cpy_ne {f : Int → Int → Int} {src sp dst dp n b j : Int} (h : b ≠ dst) : cpy f src sp dst dp n b j = f b j := by unfold cpy; rw [if_neg (fun q => h q.1)]
theorem WF_up {h : MH} {a j v : Int} (hw : WF h) (ha : 1 ≤ a) (ha2 : a ≤ h.1.length) (hv : rgx (tcode (shK h.1 a) j) v) : WF (h.1, up h.2 a j v) := by
  refine ⟨fun b hb1 hb2 => ?_, fun b j' hb => ?_⟩
  · obtain ⟨w1, w2, w3⟩ := hw.1 b hb1 hb2
    refine ⟨w1, fun j' => ?_, w3⟩
    show rgx _ (up h.2 a j v b j')
    by_cases e : b = a
    · subst e
      by_cases e2 : j' = j
      · subst e2; rw [up_eq]; exact hv
      · rw [up_nj e2]; exact w2 j'
    · rw [up_ne e]; exact w2 j'
  · show up h.2 a j v b j' = 0
    have hb : (h.1.length : Int) < b := hb
    rw [up_ne (by omega)]; exact hw.2 b j' hb
end World
