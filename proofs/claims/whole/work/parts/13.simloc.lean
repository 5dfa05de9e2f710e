/-! ===== the small machine is followed by the machine (text laid by gensim.py) ===== -/
def GT : List Cond := lw_tbl.filter goodWord
theorem gt {w : Cond} (h : w ∈ lw_tbl) (g : goodWord w = true) : w ∈ GT := List.mem_filter.mpr ⟨h, g⟩
def sls (s : MSh) : Nat := (s.map (fun e => e.2.1)).sum
def tysE (ca : Nat → ClassId) : List (ClassId × FieldType) := [(ca 0, .int), (ca 1, .long), (ca 2, .byte), (ca 3, .object (aC 3)), (ca 4, .object (aC 4)), (ca 5, .object (aC 5))]
def rmd (d mc ms : Nat) : Room := { frames := d + 8, cells := mc, slots := ms, locals := 60 * (d + 8) }
section Inv
variable {z : Option MV × MH}
theorem k1_inv {st : List MV} {f : Int → List MV → MR} (h : k1 none st f = some z) : ∃ x r, st = vi x :: r ∧ f x r = some z := by
  unfold k1 at h; split at h
  · exact ⟨_, _, rfl, h⟩
  · cases h
theorem k2_inv {st : List MV} {f : Int → Int → List MV → MR} (h : k2 none st f = some z) : ∃ x y r, st = vi y :: vi x :: r ∧ f x y r = some z := by
  unfold k2 at h; split at h
  · exact ⟨_, _, _, rfl, h⟩
  · cases h
theorem l1_inv {st : List MV} {f : Int → List MV → MR} (h : l1 none st f = some z) : ∃ x r, st = vl x :: r ∧ f x r = some z := by
  unfold l1 at h; split at h
  · exact ⟨_, _, rfl, h⟩
  · cases h
theorem l2_inv {st : List MV} {f : Int → Int → List MV → MR} (h : l2 none st f = some z) : ∃ x y r, st = vl y :: vl x :: r ∧ f x y r = some z := by
  unfold l2 at h; split at h
  · exact ⟨_, _, _, rfl, h⟩
  · cases h
theorem r1_inv {st : List MV} {f : Int → List MV → MR} (h : r1 none st f = some z) : ∃ x r, st = vr x :: r ∧ f x r = some z := by
  unfold r1 at h; split at h
  · exact ⟨_, _, rfl, h⟩
  · cases h
theorem ri_inv {st : List MV} {f : Int → Int → List MV → MR} (h : ri none st f = some z) : ∃ a j r, st = vi j :: vr a :: r ∧ f a j r = some z := by
  unfold ri at h; split at h
  · exact ⟨_, _, _, rfl, h⟩
  · cases h
theorem li_inv {st : List MV} {f : Int → Int → List MV → MR} (h : li none st f = some z) : ∃ x y r, st = vi y :: vl x :: r ∧ f x y r = some z := by
  unfold li at h; split at h
  · exact ⟨_, _, _, rfl, h⟩
  · cases h
theorem rii_inv {st : List MV} {f : Int → Int → Int → List MV → MR} (h : rii none st f = some z) : ∃ a j v r, st = vi v :: vi j :: vr a :: r ∧ f a j v r = some z := by
  unfold rii at h; split at h
  · exact ⟨_, _, _, _, rfl, h⟩
  · cases h
theorem ril_inv {st : List MV} {f : Int → Int → Int → List MV → MR} (h : ril none st f = some z) : ∃ a j v r, st = vl v :: vi j :: vr a :: r ∧ f a j v r = some z := by
  unfold ril at h; split at h
  · exact ⟨_, _, _, _, rfl, h⟩
  · cases h
theorem rir_inv {st : List MV} {f : Int → Int → Int → List MV → MR} (h : rir none st f = some z) : ∃ a j v r, st = vr v :: vi j :: vr a :: r ∧ f a j v r = some z := by
  unfold rir at h; split at h
  · exact ⟨_, _, _, _, rfl, h⟩
  · cases h
theorem rvI_inv {st : List MV} {f : Int → Int → List MV → MR} (h : rvI none st f = some z) : ∃ a v r, st = vi v :: vr a :: r ∧ f a v r = some z := by
  unfold rvI at h; split at h
  · exact ⟨_, _, _, rfl, h⟩
  · cases h
theorem rvL_inv {st : List MV} {f : Int → Int → List MV → MR} (h : rvL none st f = some z) : ∃ a v r, st = vl v :: vr a :: r ∧ f a v r = some z := by
  unfold rvL at h; split at h
  · exact ⟨_, _, _, rfl, h⟩
  · cases h
theorem rvR_inv {st : List MV} {f : Int → Int → List MV → MR} (h : rvR none st f = some z) : ∃ a v r, st = vr v :: vr a :: r ∧ f a v r = some z := by
  unfold rvR at h; split at h
  · exact ⟨_, _, _, rfl, h⟩
  · cases h
theorem ac5_inv {st : List MV} {f : Int → Int → Int → Int → Int → List MV → MR} (h : ac5 none st f = some z) : ∃ src sp dst dp n r, st = vi n :: vi dp :: vr dst :: vi sp :: vr src :: r ∧ f src sp dst dp n r = some z := by
  unfold ac5 at h; split at h
  · exact ⟨_, _, _, _, _, _, rfl, h⟩
  · cases h
theorem gI_inv {ls : List MV} {j : Nat} {f : Int → MR} (h : gI none ls j f = some z) : ∃ x, ls[j]? = some (vi x) ∧ f x = some z := by
  unfold gI at h; split at h
  · rename_i x hx; exact ⟨x, hx, h⟩
  · cases h
theorem gL_inv {ls : List MV} {j : Nat} {f : Int → MR} (h : gL none ls j f = some z) : ∃ x, ls[j]? = some (vl x) ∧ f x = some z := by
  unfold gL at h; split at h
  · rename_i x hx; exact ⟨x, hx, h⟩
  · cases h
theorem gR_inv {ls : List MV} {j : Nat} {f : Int → MR} (h : gR none ls j f = some z) : ∃ x, ls[j]? = some (vr x) ∧ f x = some z := by
  unfold gR at h; split at h
  · rename_i x hx; exact ⟨x, hx, h⟩
  · cases h
theorem e1_inv {st : List MV} {f : Int → MR} (h : e1 none st f = some z) : ∃ x, st = [vi x] ∧ f x = some z := by
  unfold e1 at h; split at h
  · exact ⟨_, rfl, h⟩
  · cases h
theorem e2_inv {st : List MV} {f : Int → MR} (h : e2 none st f = some z) : ∃ x, st = [vl x] ∧ f x = some z := by
  unfold e2 at h; split at h
  · exact ⟨_, rfl, h⟩
  · cases h
theorem e0_inv {st : List MV} {f : MR} (h : e0 none st f = some z) : st = [] ∧ f = some z := by
  unfold e0 at h; split at h
  · exact ⟨rfl, h⟩
  · cases h
theorem d1_inv {st : List MV} {f : MV → List MV → MR} (h : d1 none st f = some z) : ∃ v r, st = v :: r ∧ ((∃ x, v = vi x) ∨ ∃ a, v = vr a) ∧ f v r = some z := by
  unfold d1 at h; split at h
  · exact ⟨_, _, rfl, Or.inl ⟨_, rfl⟩, h⟩
  · exact ⟨_, _, rfl, Or.inr ⟨_, rfl⟩, h⟩
  · cases h
theorem d2_inv {st : List MV} {f : Int → Int → List MV → MR} (h : d2 none st f = some z) : ∃ a j r, st = vi j :: vr a :: r ∧ f a j r = some z := by
  unfold d2 at h; split at h
  · exact ⟨_, _, _, rfl, h⟩
  · cases h
theorem gd_inv {c : Prop} {dc : Decidable c} {a : MR} (h : @ite _ c dc a none = some z) : c ∧ a = some z := by
  by_cases hc : c
  · rw [if_pos hc] at h; exact ⟨hc, h⟩
  · rw [if_neg hc] at h; cases h
theorem aV_inv {o : MR} {k : MH → MR} (h : aV o k = some z) : ∃ h', o = some (none, h') ∧ k h' = some z := by
  unfold aV at h; split at h
  · exact ⟨_, rfl, h⟩
  · cases h
theorem aI_inv {o : MR} {k : Int → MH → MR} (h : aI o k = some z) : ∃ v h', o = some (some (vi v), h') ∧ k v h' = some z := by
  unfold aI at h; split at h
  · exact ⟨_, _, rfl, h⟩
  · cases h
theorem aL_inv {o : MR} {k : Int → MH → MR} (h : aL o k = some z) : ∃ v h', o = some (some (vl v), h') ∧ k v h' = some z := by
  unfold aL at h; split at h
  · exact ⟨_, _, rfl, h⟩
  · cases h
theorem dp_inv {d : Nat} {mi : Nat} {av : List MV} {f : Nat → MR} (h : dp d (fun d => ag mi av (f d)) = some z) : ∃ d', d = d' + 1 ∧ (spr av).length ≤ (mtab mi).2 ∧ f d' = some z := by
  unfold dp at h; split at h
  · cases h
  · rename_i d'
    obtain ⟨hg, h⟩ := gd_inv (show @ite _ _ _ _ none = some z from h)
    exact ⟨d', rfl, hg, h⟩
end Inv
section Loc
variable {z0 : Nat} {oa : Nat → Nat}
def LR (z0 : Nat) (oa : Nat → Nat) (ls : List MV) (rl : Array Slot) : Prop := rl.size = ls.length ∧ lv_wf rl ∧ ∀ (i : Nat) (v : MV), ls[i]? = some v → v ≠ vj → rl[i]? = some (.val (trv z0 oa v))
def prs (z0 : Nat) (oa : Nat → Nat) (ls : List MV) : List (Nat × Value) := (List.range ls.length).filterMap (fun i => match ls[i]? with
  | some v => if v = vj then none else some (i, trv z0 oa v)
  | none => none)
theorem prs_mem {ls : List MV} {i : Nat} {v : MV} (h : ls[i]? = some v) (hv : v ≠ vj) : (i, trv z0 oa v) ∈ prs z0 oa ls := by
  unfold prs
  refine List.mem_filterMap.mpr ⟨i, List.mem_range.mpr (List.getElem?_eq_some_iff.mp h).1, ?_⟩
  rw [h]; simp only [if_neg hv]
theorem LR.has {ls : List MV} {rl : Array Slot} (h : LR z0 oa ls rl) : lv_has rl ls.length (prs z0 oa ls) := by
  refine ⟨h.1, h.2.1, fun q hq => ?_⟩
  unfold prs at hq
  obtain ⟨i, -, hi⟩ := List.mem_filterMap.mp hq
  cases hv : ls[i]? with
  | none => rw [hv] at hi; cases hi
  | some v =>
    rw [hv] at hi
    simp only at hi
    by_cases hj : v = vj
    · rw [if_pos hj] at hi; cases hi
    · rw [if_neg hj] at hi; cases hi; exact h.2.2 i v hv hj
theorem trv_cat {v : MV} (h : (trv z0 oa v).category = 2) : ∃ x, v = vl x := by
  match v, h with
  | .inl x, h => simp [trv, Value.category] at h
  | .inr (.inl x), h => exact ⟨x, rfl⟩
  | .inr (.inr (.inl a)), h =>
    exfalso
    revert h
    unfold trv rfo
    simp only
    split <;> simp [va_rf, Value.category]
  | .inr (.inr (.inr _)), h => simp [trv, Value.category] at h
theorem kil_len (ls : List MV) (k : Nat) : (kil ls k).length = ls.length := by
  unfold kil; split
  · rfl
  · split <;> simp
theorem kil_get {ls : List MV} {k i : Nat} {v : MV} (h : (kil ls k)[i]? = some v) (hv : v ≠ vj) : ls[i]? = some v ∧ ¬ (i + 1 = k ∧ ∃ x, v = vl x) := by
  unfold kil at h
  split at h
  · exact ⟨h, fun q => by omega⟩
  · rename_i k
    split at h
    · rename_i x hx
      by_cases e : i = k
      · subst e
        rw [List.getElem?_set_self (List.getElem?_eq_some_iff.mp hx).1] at h
        exact absurd (Option.some.inj h).symm hv
      · rw [List.getElem?_set_ne (fun q => e q.symm)] at h
        exact ⟨h, fun q => e (by omega)⟩
    · rename_i hx
      refine ⟨h, fun q => ?_⟩
      obtain ⟨q1, x, rfl⟩ := q
      have : i = k := by omega
      subst this
      exact hx x h
theorem LR.put1 {ls : List MV} {rl : Array Slot} {k : Nat} {v : MV} (hk : k < ls.length) (h : lv_has rl ls.length ((k, trv z0 oa v) :: (prs z0 oa ls).filter (fun q => !(q.1 == k) && !(q.1 + 1 == k && q.2.category == 2)))) : LR z0 oa (sl ls k v) rl := by
  refine ⟨by rw [h.1]; unfold sl; rw [List.length_set, kil_len], h.2.1, fun i w hw hj => ?_⟩
  unfold sl at hw
  by_cases e : i = k
  · subst e
    rw [List.getElem?_set_self (by rw [kil_len]; exact hk)] at hw
    cases hw
    exact h.2.2 _ List.mem_cons_self
  · rw [List.getElem?_set_ne (fun q => e q.symm)] at hw
    obtain ⟨h1, h2⟩ := kil_get hw hj
    refine h.2.2 (i, trv z0 oa w) (List.mem_cons_of_mem _ (List.mem_filter.mpr ⟨prs_mem h1 hj, ?_⟩))
    simp only [Bool.and_eq_true, Bool.not_eq_true', beq_eq_false_iff_ne, ne_eq, Bool.and_eq_false_iff, beq_eq_false_iff_ne]
    refine ⟨e, ?_⟩
    by_cases e2 : i + 1 = k
    · exact Or.inr (fun q => h2 ⟨e2, trv_cat q⟩)
    · exact Or.inl e2
theorem LR.put2 {ls : List MV} {rl : Array Slot} {k : Nat} {v : MV} (hk : k + 1 < ls.length) (h : lv_has rl ls.length ((k, trv z0 oa v) :: (prs z0 oa ls).filter (fun q => !(q.1 == k) && (!(q.1 == k + 1) && !(q.1 + 1 == k && q.2.category == 2))))) : LR z0 oa (sl2 ls k v) rl := by
  refine ⟨by rw [h.1]; unfold sl2; rw [List.length_set, List.length_set, kil_len], h.2.1, fun i w hw hj => ?_⟩
  unfold sl2 at hw
  by_cases e1 : i = k + 1
  · subst e1
    rw [List.getElem?_set_self (by rw [List.length_set, kil_len]; exact hk)] at hw
    exact absurd (Option.some.inj hw).symm hj
  · rw [List.getElem?_set_ne (fun q => e1 q.symm)] at hw
    by_cases e : i = k
    · subst e
      rw [List.getElem?_set_self (by rw [kil_len]; omega)] at hw
      cases hw
      exact h.2.2 _ List.mem_cons_self
    · rw [List.getElem?_set_ne (fun q => e q.symm)] at hw
      obtain ⟨h1, h2⟩ := kil_get hw hj
      refine h.2.2 (i, trv z0 oa w) (List.mem_cons_of_mem _ (List.mem_filter.mpr ⟨prs_mem h1 hj, ?_⟩))
      simp only [Bool.and_eq_true, Bool.not_eq_true', beq_eq_false_iff_ne, ne_eq, Bool.and_eq_false_iff, beq_eq_false_iff_ne]
      refine ⟨e, e1, ?_⟩
      by_cases e2 : i + 1 = k
      · exact Or.inr (fun q => h2 ⟨e2, trv_cat q⟩)
      · exact Or.inl e2
theorem sl_rv {ls : List MV} {k : Nat} {v : MV} (h : ∀ x ∈ ls, RV x) (hv : RV v) : ∀ x ∈ sl ls k v, RV x := by
  intro x hx
  unfold sl at hx
  rcases List.mem_or_eq_of_mem_set hx with hx | rfl
  · unfold kil at hx
    split at hx
    · exact h x hx
    · split at hx
      · rcases List.mem_or_eq_of_mem_set hx with hx | rfl
        · exact h x hx
        · exact trivial
      · exact h x hx
  · exact hv
theorem sl2_rv {ls : List MV} {k : Nat} {v : MV} (h : ∀ x ∈ ls, RV x) (hv : RV v) : ∀ x ∈ sl2 ls k v, RV x := by
  intro x hx
  unfold sl2 at hx
  rcases List.mem_or_eq_of_mem_set hx with hx | rfl
  · exact sl_rv (k := k) h hv x hx
  · exact trivial
theorem sl_len (ls : List MV) (k : Nat) (v : MV) : (sl ls k v).length = ls.length := by unfold sl; rw [List.length_set, kil_len]
theorem sl2_len (ls : List MV) (k : Nat) (v : MV) : (sl2 ls k v).length = ls.length := by unfold sl2; rw [List.length_set, List.length_set, kil_len]
end Loc
