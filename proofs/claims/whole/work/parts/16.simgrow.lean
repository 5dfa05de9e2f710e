/-! ===== a run makes cells, and takes none away ===== -/
theorem k1_all {st : List MV} {f : Int → List MV → Prop} (h : ∀ x0 x1, f x0 x1) : k1 True st f := by
  unfold k1; split <;> first | exact h _ _ | trivial
theorem k2_all {st : List MV} {f : Int → Int → List MV → Prop} (h : ∀ x0 x1 x2, f x0 x1 x2) : k2 True st f := by
  unfold k2; split <;> first | exact h _ _ _ | trivial
theorem l1_all {st : List MV} {f : Int → List MV → Prop} (h : ∀ x0 x1, f x0 x1) : l1 True st f := by
  unfold l1; split <;> first | exact h _ _ | trivial
theorem l2_all {st : List MV} {f : Int → Int → List MV → Prop} (h : ∀ x0 x1 x2, f x0 x1 x2) : l2 True st f := by
  unfold l2; split <;> first | exact h _ _ _ | trivial
theorem r1_all {st : List MV} {f : Int → List MV → Prop} (h : ∀ x0 x1, f x0 x1) : r1 True st f := by
  unfold r1; split <;> first | exact h _ _ | trivial
theorem ri_all {st : List MV} {f : Int → Int → List MV → Prop} (h : ∀ x0 x1 x2, f x0 x1 x2) : ri True st f := by
  unfold ri; split <;> first | exact h _ _ _ | trivial
theorem li_all {st : List MV} {f : Int → Int → List MV → Prop} (h : ∀ x0 x1 x2, f x0 x1 x2) : li True st f := by
  unfold li; split <;> first | exact h _ _ _ | trivial
theorem rii_all {st : List MV} {f : Int → Int → Int → List MV → Prop} (h : ∀ x0 x1 x2 x3, f x0 x1 x2 x3) : rii True st f := by
  unfold rii; split <;> first | exact h _ _ _ _ | trivial
theorem ril_all {st : List MV} {f : Int → Int → Int → List MV → Prop} (h : ∀ x0 x1 x2 x3, f x0 x1 x2 x3) : ril True st f := by
  unfold ril; split <;> first | exact h _ _ _ _ | trivial
theorem rir_all {st : List MV} {f : Int → Int → Int → List MV → Prop} (h : ∀ x0 x1 x2 x3, f x0 x1 x2 x3) : rir True st f := by
  unfold rir; split <;> first | exact h _ _ _ _ | trivial
theorem rvI_all {st : List MV} {f : Int → Int → List MV → Prop} (h : ∀ x0 x1 x2, f x0 x1 x2) : rvI True st f := by
  unfold rvI; split <;> first | exact h _ _ _ | trivial
theorem rvL_all {st : List MV} {f : Int → Int → List MV → Prop} (h : ∀ x0 x1 x2, f x0 x1 x2) : rvL True st f := by
  unfold rvL; split <;> first | exact h _ _ _ | trivial
theorem rvR_all {st : List MV} {f : Int → Int → List MV → Prop} (h : ∀ x0 x1 x2, f x0 x1 x2) : rvR True st f := by
  unfold rvR; split <;> first | exact h _ _ _ | trivial
theorem ac5_all {st : List MV} {f : Int → Int → Int → Int → Int → List MV → Prop} (h : ∀ x0 x1 x2 x3 x4 x5, f x0 x1 x2 x3 x4 x5) : ac5 True st f := by
  unfold ac5; split <;> first | exact h _ _ _ _ _ _ | trivial
theorem e1_all {st : List MV} {f : Int → Prop} (h : ∀ x0, f x0) : e1 True st f := by
  unfold e1; split <;> first | exact h _ | trivial
theorem e2_all {st : List MV} {f : Int → Prop} (h : ∀ x0, f x0) : e2 True st f := by
  unfold e2; split <;> first | exact h _ | trivial
theorem d1_all {st : List MV} {f : MV → List MV → Prop} (h : ∀ x0 x1, f x0 x1) : d1 True st f := by
  unfold d1; split <;> first | exact h _ _ | trivial
theorem d2_all {st : List MV} {f : Int → Int → List MV → Prop} (h : ∀ x0 x1 x2, f x0 x1 x2) : d2 True st f := by
  unfold d2; split <;> first | exact h _ _ _ | trivial
theorem gI_all {ls : List MV} {j : Nat} {f : Int → Prop} (h : ∀ x, f x) : gI True ls j f := by
  unfold gI; split <;> first | exact h _ | trivial
theorem gL_all {ls : List MV} {j : Nat} {f : Int → Prop} (h : ∀ x, f x) : gL True ls j f := by
  unfold gL; split <;> first | exact h _ | trivial
theorem gR_all {ls : List MV} {j : Nat} {f : Int → Prop} (h : ∀ x, f x) : gR True ls j f := by
  unfold gR; split <;> first | exact h _ | trivial
theorem e0_all {st : List MV} {f : Prop} (h : f) : e0 True st f := by
  unfold e0; split <;> first | exact h | trivial
theorem swf_all {x : Int} {k : Nat → Prop} {dflt : Nat} (h : ∀ t, k t) : ∀ ts : List (Int × Nat), swf (fun _ _ a b => a ∧ b) x k dflt ts
  | [] => h _
  | _ :: r => ⟨h _, swf_all h r⟩
def Gr (h h' : MH) : Prop := h.1.length ≤ h'.1.length ∧ sls h.1 ≤ sls h'.1
theorem Gr.rf (h : MH) : Gr h h := ⟨Nat.le_refl _, Nat.le_refl _⟩
theorem Gr.tr {a b c : MH} (h1 : Gr a b) (h2 : Gr b c) : Gr a c := ⟨Nat.le_trans h1.1 h2.1, Nat.le_trans h1.2 h2.2⟩
theorem sls_app (s : MSh) (e : Nat × Nat × List Int) : sls (s ++ [e]) = sls s + e.2.1 := by unfold sls; simp
theorem Gr_app {h : MH} {e : Nat × Nat × List Int} {f : Int → Int → Int} : Gr h (h.1 ++ [e], f) := ⟨by simp, by rw [sls_app]; exact Nat.le_add_right _ _⟩
theorem sls_set {s : MSh} {a : Int} {k : Nat} {v : Int} (h1 : 1 ≤ a) : sls (shSet s a k v) = sls s := by
  unfold sls shSet
  congr 1
  by_cases hn : a.toNat - 1 < s.length
  · rw [List.map_set]
    have e : ((shp s a).1, (shp s a).2.1, (shp s a).2.2.set k v).2.1 = (s.map (fun e => e.2.1))[a.toNat - 1]'(by simpa using hn) := by
      rw [shp_nat h1, List.getD_eq_getElem?_getD, List.getElem?_eq_getElem hn]; simp
    rw [e]
    exact List.set_getElem_self _
  · rw [List.set_eq_of_length_le (by omega)]
theorem Gr_set {h : MH} {a : Int} {k : Nat} {v : Int} (hk : 6 < a) : Gr h (shSet h.1 a k v, h.2) := ⟨by unfold shSet; simp, by rw [sls_set (by omega)]; exact Nat.le_refl _⟩
set_option maxHeartbeats 4000000 in
theorem xop_gr (e : MI) (i : Nat) (ls st : List MV) (h : MH) : xop (R := Prop) True (fun _ _ _ h' => Gr h h') (fun _ _ a b => a ∧ b) (fun c _ a => c → a)
    (fun _ _ h' k => Gr h h' ∧ ∀ h'', Gr h h'' → k h'') (fun _ _ h' k => Gr h h' ∧ ∀ v h'', Gr h h'' → k v h'') (fun _ _ h' k => Gr h h' ∧ ∀ v h'', Gr h h'' → k v h'') (fun _ h' => Gr h h') e i ls st h := by
  unfold xop
  split <;> first
    | trivial
    | exact Gr.rf h
    | (repeat (first | trivial | exact Gr.rf h | assumption | exact Gr_app | exact ⟨Nat.le_refl _, Nat.le_refl _⟩ | (refine Gr_set ?_; rename_i hq; first | exact hq.2 | exact hq.2.1 | exact hq.2.2.1) | apply k1_all | apply k2_all | apply l1_all | apply l2_all | apply r1_all | apply ri_all | apply li_all | apply rii_all | apply ril_all | apply rir_all | apply rvI_all | apply rvL_all | apply rvR_all | apply ac5_all | apply gI_all | apply gL_all | apply gR_all | apply e1_all | apply e2_all | apply e0_all | apply d1_all | apply d2_all | apply swf_all | refine ⟨?_, ?_⟩ | (split) | (intro _)))
theorem exec_gr : ∀ (n d : Nat) (code : List MI) (i : Nat) (ls st : List MV) (h : MH) (z : Option MV × MH), exec n d code i ls st h = some z → Gr h z.2
  | 0, _, _, _, _, _, _, _, hz => by cases hz
  | n + 1, d, code, i, ls, st, h, z, hz => by
    rw [exec] at hz
    cases he : code[i]? with
    | none => rw [he] at hz; cases hz
    | some e =>
      rw [he] at hz
      dsimp only at hz
      have key := xop_par (R := Prop) (S := MR) (rel := fun q a => q → ∀ z, a = some z → Gr h z.2) (b1 := True) (b2 := none) (fun _ z hz => by cases hz)
        (nx1 := fun _ _ _ h' => Gr h h') (nx2 := fun i ls st h => exec n d code i ls st h) (fun i ls st h' hq z hz => Gr.tr hq (exec_gr n d code i ls st h' z hz))
        (br1 := fun _ _ a b => a ∧ b) (br2 := fun c dc a b => @ite _ c dc a b) (fun c dc a1 a2 c1 c2 h1 h2 hq z hz => by
          by_cases hc : c
          · rw [if_pos hc] at hz; exact h1 hq.1 z hz
          · rw [if_neg hc] at hz; exact h2 hq.2 z hz)
        (gd1 := fun c _ a => c → a) (gd2 := fun c dc a => @ite _ c dc a none) (fun c dc a1 a2 h1 hq z hz => by
          obtain ⟨hc, hz⟩ := gd_inv hz
          exact h1 (hq hc) z hz)
        (cV1 := fun _ _ h' k => Gr h h' ∧ ∀ h'', Gr h h'' → k h'') (cV2 := fun mi args h k => dp d (fun d => ag mi args (aV (exec n d (mtab mi).1 0 (ent args (mtab mi).2) [] h) k))) (fun mi args h' f g hf hq z hz => by
          obtain ⟨d', -, -, hz⟩ := dp_inv hz
          obtain ⟨h'', hx, hz⟩ := aV_inv hz
          exact hf h'' (hq.2 h'' (Gr.tr hq.1 (exec_gr n d' _ 0 _ _ h' _ hx))) z hz)
        (cI1 := fun _ _ h' k => Gr h h' ∧ ∀ v h'', Gr h h'' → k v h'') (cI2 := fun mi args h k => dp d (fun d => ag mi args (aI (exec n d (mtab mi).1 0 (ent args (mtab mi).2) [] h) k))) (fun mi args h' f g hf hq z hz => by
          obtain ⟨d', -, -, hz⟩ := dp_inv hz
          obtain ⟨v, h'', hx, hz⟩ := aI_inv hz
          exact hf v h'' (hq.2 v h'' (Gr.tr hq.1 (exec_gr n d' _ 0 _ _ h' _ hx))) z hz)
        (cL1 := fun _ _ h' k => Gr h h' ∧ ∀ v h'', Gr h h'' → k v h'') (cL2 := fun mi args h k => dp d (fun d => ag mi args (aL (exec n d (mtab mi).1 0 (ent args (mtab mi).2) [] h) k))) (fun mi args h' f g hf hq z hz => by
          obtain ⟨d', -, -, hz⟩ := dp_inv hz
          obtain ⟨v, h'', hx, hz⟩ := aL_inv hz
          exact hf v h'' (hq.2 v h'' (Gr.tr hq.1 (exec_gr n d' _ 0 _ _ h' _ hx))) z hz)
        (rt1 := fun _ h' => Gr h h') (rt2 := fun v h => some (v, h)) (fun v h' hq z hz => by cases hz; exact hq) e i ls st h
      exact key (xop_gr e i ls st h) z hz
