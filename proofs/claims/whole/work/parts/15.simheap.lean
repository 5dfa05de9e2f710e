/-! ===== fields, arrays, new cells ===== -/
section Heap1
variable {p : Program} {l : Launch} {e : Env} {R : Room} {s : State} {m : MethodId} {args : Array Value} {below : List Frame} {meth : Method} {c : Code} {H : Heap} {locs : List Loc} {cells slots : Nat} {Q : State → Prop}
variable {D : va_G} {z0 : Nat} {oa : Nat → Nat} {ca : Nat → ClassId} {h : MH} {a : Int} {ci : Nat} {r : vw_C} {cc : ByteArray} {own : String} {idx k pc : Nat} {rl : Array Slot} {rest : List Value} {tys : List (ClassId × FieldType)}
theorem obj_P (hc : mcl[ci]? = some r) (hk : shK h.1 a = 10 + ci) (hcell : cellAt D z0 oa ca h a H) : t_OB (rho z0 oa a) (D.1 ci) r.2.2 (D.2 ci) H (fvl z0 oa h.2 a ci (shp h.1 a).2.2) := by
  unfold cellAt at hcell
  rw [hk, if_neg (by omega), Nat.add_sub_cancel_left] at hcell
  rw [mcl_n hc]
  exact hcell
theorem arr_P (hk : shK h.1 a = k) (hk5 : k ≤ 5) (hcell : cellAt D z0 oa ca h a H) : H[rho z0 oa a]? = some (arrV (ca k) (shp h.1 a).2.1 (avl z0 oa h.2 a k (shp h.1 a).2.2)) := by
  unfold cellAt at hcell
  rw [hk, if_pos hk5] at hcell
  exact hcell
theorem sim_get (hx : p.tables.exec = Jvm.exec) (hb : c.code = cc) (hown : s.vm.findClass own = some m.cls) (hts : ∀ w ∈ GT, w.before args s = true) (hK : va_K D mcl tys s) (hc : mcl[ci]? = some r) (hk : shK h.1 a = 10 + ci) (hcell : cellAt D z0 oa ca h a H) (hkr : k < r.2.2)
    (hlink : Cond.fieldLink own idx r.1 (r.2.1 k).2.1 (r.2.1 k).2.2.1 ∈ lw_tbl) (hdg : decode cc pc = .ok (.getfield idx, 3))
    (kk : W p l e R s m args below meth c H locs cells slots Q (F0 m (pc + 3) rl (fvl z0 oa h.2 a ci (shp h.1 a).2.2 k :: rest))) : W p l e R s m args below meth c H locs cells slots Q (F0 m pc rl (.ref (rho z0 oa a) :: rest)) := by
  obtain ⟨cell, q1, q2, q3, q4⟩ := obj_P hc hk hcell
  obtain ⟨hS, hfc, kC, hkC, hkind⟩ := hK.1 ci _ hc
  obtain ⟨cf, kf, fi, f, hi, hsl⟩ := hS k hkr
  refine W.getf hx hb hown (hts _ (gt hlink rfl)) (by rw [← mcl_decl hc k hkr]; exact hi) (u_facts hfc hkC (u_lays hts (mcl_gt hc) hkr) hi).1 q1 (by rw [q3]; exact fun h => by cases h) (v := fvl z0 oa h.2 a ci (shp h.1 a).2.2 k) ?_ rfl rfl hdg kk
  rw [hsl]; exact q4 k hkr
theorem sim_put (hx : p.tables.exec = Jvm.exec) (hb : c.code = cc) (hown : s.vm.findClass own = some m.cls) (hts : ∀ w ∈ GT, w.before args s = true) (hK : va_K D mcl tys s) (hc : mcl[ci]? = some r) (hk : shK h.1 a = 10 + ci) (hcell : cellAt D z0 oa ca h a H) (hkr : k < r.2.2)
    (hlink : Cond.fieldLink own idx r.1 (r.2.1 k).2.1 (r.2.1 k).2.2.1 ∈ lw_tbl) (hfin : (r.2.1 k).2.2.2 = false) {ty : FieldType} {v : Value} (hd : parseFieldDescriptor (r.2.1 k).2.2.1 = some ty) (hn : narrow ty v = v) (hfit : fits ty v = true) (hdg : decode cc pc = .ok (.putfield idx, 3))
    (kk : ∀ H1 : Heap, t_OB (rho z0 oa a) (D.1 ci) r.2.2 (D.2 ci) H1 (updV (fvl z0 oa h.2 a ci (shp h.1 a).2.2) k v) → H1.size = H.size → (∀ q, q ≠ rho z0 oa a → H1[q]? = H[q]?) → W p l e R s m args below meth c H1 (locs ++ [⟨rho z0 oa a, D.2 ci k⟩]) cells slots Q (F0 m (pc + 3) rl rest)) : W p l e R s m args below meth c H locs cells slots Q (F0 m pc rl (v :: .ref (rho z0 oa a) :: rest)) := by
  obtain ⟨ty0, hty⟩ := mcl_ty hc
  have hap := va_apart (own := own) hts (mcl_gt hc) ty0 hty (mcl_nm hc) hK hc
  obtain ⟨cell, q1, q2, q3, q4⟩ := obj_P hc hk hcell
  obtain ⟨hS, hfc, kC, hkC, hkind⟩ := hK.1 ci _ hc
  obtain ⟨cf, kf, fi, f, hi, hsl⟩ := hS k hkr
  have hlay := hts _ (mcl_gt hc _ (u_in_lay hkr))
  unfold u_lay at hlay
  rw [if_neg (by rw [hfin]; decide)] at hlay
  have hst := (u_facts hfc hkC (u_lays hts (mcl_gt hc) hkr) hi).1
  have h6 := u_store hfc hkC hkind hlay hi hd hn hfit
  have hi2 : s.fieldFound? r.1 (r.2.1 k).2.1 (r.2.1 k).2.2.1 = some (cf, kf, fi, f) := by rw [← mcl_decl hc k hkr]; exact hi
  refine W.putK hx hb (f := f) ⟨hown, hts _ (gt hlink rfl), ⟨_, _, _, hi2⟩, hst⟩ (by rw [q2]; exact h6) q1 q3 (by rw [hsl]; exact k2_hasslot (q4 k hkr)) rfl rfl hdg fun H' e1 e2 e3 => ?_
  rw [hsl] at e1 ⊢
  exact kk H' ⟨_, e1, q2, q3, t_set q4 hap hkr v⟩ e2 e3
theorem sim_putF (hx : p.tables.exec = Jvm.exec) (hb : c.code = cc) (hown : s.vm.findClass own = some m.cls) (hts : ∀ w ∈ GT, w.before args s = true) (hK : va_K D mcl tys s) (hc : mcl[ci]? = some r) (hk : shK h.1 a = 10 + ci) (hcell : cellAt D z0 oa ca h a H) (hkr : k < r.2.2)
    (hlink : Cond.fieldLink own idx r.1 (r.2.1 k).2.1 (r.2.1 k).2.2.1 ∈ lw_tbl) (hfin : (r.2.1 k).2.2.2 = true) (hin2 : meth.name = "<init>") (hdecl : r.1 = own) {ty : FieldType} {v : Value} (hd : parseFieldDescriptor (r.2.1 k).2.2.1 = some ty) (hn : narrow ty v = v) (hfit : fits ty v = true) (hdg : decode cc pc = .ok (.putfield idx, 3))
    (kk : ∀ H1 : Heap, t_OB (rho z0 oa a) (D.1 ci) r.2.2 (D.2 ci) H1 (updV (fvl z0 oa h.2 a ci (shp h.1 a).2.2) k v) → H1.size = H.size → (∀ q, q ≠ rho z0 oa a → H1[q]? = H[q]?) → W p l e R s m args below meth c H1 (locs ++ [⟨rho z0 oa a, D.2 ci k⟩]) cells slots Q (F0 m (pc + 3) rl rest)) : W p l e R s m args below meth c H locs cells slots Q (F0 m pc rl (v :: .ref (rho z0 oa a) :: rest)) := by
  obtain ⟨ty0, hty⟩ := mcl_ty hc
  have hap := va_apart (own := own) hts (mcl_gt hc) ty0 hty (mcl_nm hc) hK hc
  obtain ⟨cell, q1, q2, q3, q4⟩ := obj_P hc hk hcell
  obtain ⟨hS, hfc, kC, hkC, hkind⟩ := hK.1 ci _ hc
  obtain ⟨cf, kf, fi, f, hi, hsl⟩ := hS k hkr
  have hlay := hts _ (mcl_gt hc _ (u_in_lay hkr))
  unfold u_lay at hlay
  rw [if_pos hfin] at hlay
  have hst := (u_facts hfc hkC (u_lays hts (mcl_gt hc) hkr) hi).1
  have hcf : m.cls = cf := by
    obtain ⟨_, _, c', _, _, _, -, -, hf', -, -, -, hown2, -⟩ := Cond.laysFinal_spec hlay
    have e1 : c' = cf := by have := hi.symm.trans hf'; simp at this; exact this.1.symm
    rw [mcl_decl hc k hkr, hdecl] at hown2
    rw [← e1]; exact Option.some.inj (hown.symm.trans hown2)
  have h6 := u_fits hfc hkC hkind (Or.inr hlay) hi hd hn hfit
  have hi2 : s.fieldFound? r.1 (r.2.1 k).2.1 (r.2.1 k).2.2.1 = some (cf, kf, fi, f) := by rw [← mcl_decl hc k hkr]; exact hi
  refine W.putFinK hx hb hown (hts _ (gt hlink rfl)) hi2 hst hcf hin2 (by rw [q2]; exact h6) q1 q3 (by rw [hsl]; exact k2_hasslot (q4 k hkr)) rfl rfl hdg fun H' e1 e2 e3 => ?_
  rw [hsl] at e1 ⊢
  exact kk H' ⟨_, e1, q2, q3, t_set q4 hap hkr v⟩ e2 e3
/-- a written field: the new cell as the heap's words have it -/
theorem cell_fld {h' : MH} {v : Value} {H1 : Heap} (hc : mcl[ci]? = some r) (hk : shK h'.1 a = 10 + ci) (ho : t_OB (rho z0 oa a) (D.1 ci) r.2.2 (D.2 ci) H1 (updV (fvl z0 oa h.2 a ci (shp h.1 a).2.2) k v))
    (hv : ∀ j, j < r.2.2 → updV (fvl z0 oa h.2 a ci (shp h.1 a).2.2) k v j = fvl z0 oa h'.2 a ci (shp h'.1 a).2.2 j) : cellAt D z0 oa ca h' a H1 := by
  unfold cellAt
  rw [hk, if_neg (by omega), Nat.add_sub_cancel_left, ← mcl_n hc]
  exact t_OB.to ho hv
theorem fvl_up {fld : Int → Int → Int} {rs : List Int} {v : Int} {val : Value} (hval : ∀ j : Nat, j = k → fvl z0 oa (up fld a k v) a ci rs j = val) (j : Nat) : updV (fvl z0 oa fld a ci rs) k val j = fvl z0 oa (up fld a k v) a ci rs j := by
  unfold updV
  by_cases e : j = k
  · rw [if_pos e, hval j e]
  · rw [if_neg e]
    unfold fvl
    have : ∀ b, up fld a k v b (j : Int) = fld b (j : Int) := fun b => up_nj (by omega)
    simp only [this]
theorem cell_arr {h' : MH} {f : Nat → Value} {H1 : Heap} (hk : shK h'.1 a = k) (hk5 : k ≤ 5) (he : H1[rho z0 oa a]? = some (arrV (ca k) (shp h'.1 a).2.1 f)) (hf : f = avl z0 oa h'.2 a k (shp h'.1 a).2.2) : cellAt D z0 oa ca h' a H1 := by
  unfold cellAt
  rw [hk, if_pos hk5, he, hf]
theorem avl_up {fld : Int → Int → Int} {rs : List Int} {j v : Int} {val : Value} (hj : 0 ≤ j) (hk2 : k ≤ 2) (hval : avl z0 oa (up fld a j v) a k rs j.toNat = val) : updV (avl z0 oa fld a k rs) j.toNat val = avl z0 oa (up fld a j v) a k rs := by
  funext i
  unfold updV
  by_cases e : i = j.toNat
  · rw [if_pos e, ← hval, e]
  · rw [if_neg e]
    unfold avl
    have : ∀ b, up fld a j v b (i : Int) = fld b (i : Int) := fun b => up_nj (by omega)
    simp only [this]
theorem WD_push {E : Nat × Nat × List Int} {H1 : Heap} (hw : WD D z0 oa ca h H) (hz : H1.size = H.size + 1) (ho : ∀ q, q < H.size → H1[q]? = H[q]?) (hn : cellAt D z0 oa ca (h.1 ++ [E], h.2) ((h.1.length + 1 : Nat) : Int) H1) : WD D z0 oa ca (h.1 ++ [E], h.2) H1 := by
  obtain ⟨w1, w2, w3, w4⟩ := hw
  refine ⟨by simp only [List.length_append, List.length_singleton]; omega, by simp only [List.length_append, List.length_singleton]; omega, w3, fun b hb1 hb2 => ?_⟩
  simp only [List.length_append, List.length_singleton] at hb2
  by_cases hbl : b ≤ h.1.length
  · refine cellAt_same (h := h) (shp_app (by omega) hbl) (fun _ => rfl) (ho _ ?_) (w4 b hb1 hbl)
    rw [rho_new hb1]; omega
  · have : b = ((h.1.length + 1 : Nat) : Int) := by omega
    rw [this]; exact hn
theorem rho_next (hw : WD D z0 oa ca h H) : rho z0 oa ((h.1.length + 1 : Nat) : Int) = H.size := by
  obtain ⟨w1, w2, w3, w4⟩ := hw
  rw [rho_new (by omega)]
  omega
theorem WF_push {E : Nat × Nat × List Int} (hw : WF h) (h1 : E.2.1 < 2147483648) (h2 : ∀ k : Nat, 0 ≤ E.2.2.getD k 0) (h3 : 3 ≤ E.1 → E.1 ≤ 5 → E.2.2.length = E.2.1) (h4 : 10 ≤ E.1 → E.1 < 23 → E.2.2.length = nfl (E.1 - 10)) : WF (h.1 ++ [E], h.2) := by
  refine ⟨fun b hb1 hb2 => ?_, fun b j hb => ?_⟩
  · simp only [List.length_append, List.length_singleton] at hb2
    by_cases hbl : b ≤ h.1.length
    · unfold shK
      simp only [shp_app hb1 hbl]
      exact hw.1 b hb1 hbl
    · have : b = ((h.1.length + 1 : Nat) : Int) := by omega
      subst this
      unfold shK
      simp only [shp_new]
      refine ⟨h1, fun j => ?_, h2, h3, h4⟩
      rw [hw.2 _ j (by omega)]
      unfold rgx r32 r64
      split
      · omega
      · split <;> omega
  · simp only [List.length_append, List.length_singleton] at hb
    exact hw.2 b j (by omega)
theorem sim_copy_int {D : va_G} {tys : List (ClassId × FieldType)} (hexec : p.tables.exec = Jvm.exec) (hb : c.code = cc) (hml : c.maxLocals = rl.size) (hown : s.vm.findClass own = some m.cls) (hts : ∀ w ∈ GT, w.before args s = true) (hlink : Cond.methodLink own idx arraycopyName ∈ lw_tbl) (hK : va_K D mcl tys s) (t0 : Nat) {cA : ClassId} (ht : tys[t0]? = some (cA, .int)) {a0 a n0 n1 : Nat} {cs : Cell} {f g : Nat → Int32} (hc0 : H[a0]? = some cs) (hs2 : s.isArrayOf cs .int) (hs3 : cs.vm ≠ .unknown) (hs4 : n0 ≤ cs.slots.size) (hs5 : ∀ j, j < n0 → cs.slots[j]? = some (.int (f j))) (hc1 : H[a]? = some (arrV cA n1 (fun j => .int (g j))))
    {sp dp n : Int32} (h1 : ¬ sp < 0) (h2 : ¬ dp < 0) (h3 : ¬ n < 0) (h4 : sp.toNatClampNeg + n.toNatClampNeg ≤ n0) (h5 : dp.toNatClampNeg + n.toNatClampNeg ≤ n1)
    (hframes : 1 ≤ R.frames) (hlocals : (rest.map fun v => v.category).sum + (nativeFrameWords "java/lang/System" "arraycopy" 5 + 11) ≤ R.locals) (hdg : decode cc pc = .ok (.invokestatic idx, 3))
    (kk : ∀ (H1 : Heap) (locs1 : List Loc), H1[a]? = some (arrV cA n1 (fun j => .int (va_cpy f g sp.toNatClampNeg dp.toNatClampNeg n.toNatClampNeg j))) → H1.size = H.size → (∀ q, q ≠ a → H1[q]? = H[q]?) → (∀ q ∈ locs1, q ∈ locs ∨ q.base = a) → W p l e R s m args below meth c H1 locs1 cells slots Q (F0 m (pc + 3) rl rest)) : W p l e R s m args below meth c H locs cells slots Q (F0 m pc rl (.int n :: .int dp :: .ref a :: .int sp :: .ref a0 :: rest)) := by
  have nn : ∀ z : Int32, ¬ z < 0 → z.toInt = (z.toNatClampNeg : Int) := by
    intro z hz
    have hz0 : (0 : Int) ≤ z.toInt := by
      have := Int32.not_lt.mp hz
      simpa using Int32.le_iff_toInt_le.mp this
    show z.toInt = ((z.toInt.toNat : Nat) : Int)
    omega
  intro T hT X
  obtain ⟨hs6, k0, hk0, cm0, hkk0⟩ := hs2
  obtain ⟨-, k1, hk1, cm1, hkk1⟩ := (hK.2 t0 _ ht).1 n1 (fun j => .int (g j))
  obtain ⟨vm', X', step⟩ := X.arraycopy hexec hown (hts _ (gt hlink rfl)) (hts _ (gt ac_nat rfl)) (hts _ (gt ac_stat rfl)) (hts _ (gt ac_ini rfl)) (src := a0) (dst := a) (cs := cs) (cd := arrV cA n1 (fun j => .int (g j))) (srcPos := sp) (destPos := dp) (n := n) (by rw [hT]; exact hc0) (by rw [hT]; exact hc1)
    hs6 (fun _ h => by cases h) hs3 (fun h => by cases h) hk0 hk1 hkk0 hkk1 (by simp [refKind]) h1 h2 h3
    (by rw [nn sp h1, nn n h3]; omega)
    (by rw [nn dp h2, nn n h3]; show ¬ _ > ((arrV cA n1 (fun j => .int (g j))).slots.size : Int); rw [arrV_size]; omega)
    (fun vm₁ _ i hi => by
      have e : cs.slots.getD (sp.toNatClampNeg + i) .null = .int (f (sp.toNatClampNeg + i)) := by
        rw [Array.getD_eq_getD_getElem?, hs5 _ (by omega)]
        rfl
      refine ⟨?_, ?_⟩
      · rw [e]; rfl
      · rw [e]
        exact trivial)
    (g := F0 m pc rl (.int n :: .int dp :: .ref a :: .int sp :: .ref a0 :: rest)) rfl (by rw [hml]) (rest := rest) rfl (by rw [hb]; exact hdg) hframes (by show 2 * 0 + _ + _ ≤ _; omega)
  have e1 : copied cs (arrV cA n1 (fun j => .int (g j))) sp dp n = arrV cA n1 (fun j => .int (va_cpy f g sp.toNatClampNeg dp.toNatClampNeg n.toNatClampNeg j)) := va_copiedX (fun z => .int z) cs cA f g hs5 h4
  rw [e1] at X' step
  have hl : a < H.size := (Array.getElem?_eq_some_iff.mp hc1).1
  have hheap : ((T.setVm vm').setCell a (arrV cA n1 (fun j => .int (va_cpy f g sp.toNatClampNeg dp.toNatClampNeg n.toNatClampNeg j)))).heap = H.setIfInBounds a (arrV cA n1 (fun j => .int (va_cpy f g sp.toNatClampNeg dp.toNatClampNeg n.toNatClampNeg j))) := by rw [← hT]; rfl
  obtain ⟨t, a1, b1⟩ := kk _ _ (show (H.setIfInBounds a _)[a]? = some _ by simp [Array.getElem?_setIfInBounds, hl]) (by simp) (fun q hq => by simp [Array.getElem?_setIfInBounds, Ne.symm hq]) (fun q hq => by
      rcases List.mem_append.mp hq with h | h
      · exact Or.inl h
      · obtain ⟨z, -, hz⟩ := List.mem_map.mp h
        exact Or.inr (by rw [← hz])) _ hheap X'
  exact ⟨t, step t a1, b1⟩
theorem sim_copy_long {D : va_G} {tys : List (ClassId × FieldType)} (hexec : p.tables.exec = Jvm.exec) (hb : c.code = cc) (hml : c.maxLocals = rl.size) (hown : s.vm.findClass own = some m.cls) (hts : ∀ w ∈ GT, w.before args s = true) (hlink : Cond.methodLink own idx arraycopyName ∈ lw_tbl) (hK : va_K D mcl tys s) (t0 : Nat) {cA : ClassId} (ht : tys[t0]? = some (cA, .long)) {a0 a n0 n1 : Nat} {cs : Cell} {f g : Nat → Int64} (hc0 : H[a0]? = some cs) (hs2 : s.isArrayOf cs .long) (hs3 : cs.vm ≠ .unknown) (hs4 : n0 ≤ cs.slots.size) (hs5 : ∀ j, j < n0 → cs.slots[j]? = some (.long (f j))) (hc1 : H[a]? = some (arrV cA n1 (fun j => .long (g j))))
    {sp dp n : Int32} (h1 : ¬ sp < 0) (h2 : ¬ dp < 0) (h3 : ¬ n < 0) (h4 : sp.toNatClampNeg + n.toNatClampNeg ≤ n0) (h5 : dp.toNatClampNeg + n.toNatClampNeg ≤ n1)
    (hframes : 1 ≤ R.frames) (hlocals : (rest.map fun v => v.category).sum + (nativeFrameWords "java/lang/System" "arraycopy" 5 + 11) ≤ R.locals) (hdg : decode cc pc = .ok (.invokestatic idx, 3))
    (kk : ∀ (H1 : Heap) (locs1 : List Loc), H1[a]? = some (arrV cA n1 (fun j => .long (va_cpy f g sp.toNatClampNeg dp.toNatClampNeg n.toNatClampNeg j))) → H1.size = H.size → (∀ q, q ≠ a → H1[q]? = H[q]?) → (∀ q ∈ locs1, q ∈ locs ∨ q.base = a) → W p l e R s m args below meth c H1 locs1 cells slots Q (F0 m (pc + 3) rl rest)) : W p l e R s m args below meth c H locs cells slots Q (F0 m pc rl (.int n :: .int dp :: .ref a :: .int sp :: .ref a0 :: rest)) := by
  have nn : ∀ z : Int32, ¬ z < 0 → z.toInt = (z.toNatClampNeg : Int) := by
    intro z hz
    have hz0 : (0 : Int) ≤ z.toInt := by
      have := Int32.not_lt.mp hz
      simpa using Int32.le_iff_toInt_le.mp this
    show z.toInt = ((z.toInt.toNat : Nat) : Int)
    omega
  intro T hT X
  obtain ⟨hs6, k0, hk0, cm0, hkk0⟩ := hs2
  obtain ⟨-, k1, hk1, cm1, hkk1⟩ := (hK.2 t0 _ ht).1 n1 (fun j => .long (g j))
  obtain ⟨vm', X', step⟩ := X.arraycopy hexec hown (hts _ (gt hlink rfl)) (hts _ (gt ac_nat rfl)) (hts _ (gt ac_stat rfl)) (hts _ (gt ac_ini rfl)) (src := a0) (dst := a) (cs := cs) (cd := arrV cA n1 (fun j => .long (g j))) (srcPos := sp) (destPos := dp) (n := n) (by rw [hT]; exact hc0) (by rw [hT]; exact hc1)
    hs6 (fun _ h => by cases h) hs3 (fun h => by cases h) hk0 hk1 hkk0 hkk1 (by simp [refKind]) h1 h2 h3
    (by rw [nn sp h1, nn n h3]; omega)
    (by rw [nn dp h2, nn n h3]; show ¬ _ > ((arrV cA n1 (fun j => .long (g j))).slots.size : Int); rw [arrV_size]; omega)
    (fun vm₁ _ i hi => by
      have e : cs.slots.getD (sp.toNatClampNeg + i) .null = .long (f (sp.toNatClampNeg + i)) := by
        rw [Array.getD_eq_getD_getElem?, hs5 _ (by omega)]
        rfl
      refine ⟨?_, ?_⟩
      · rw [e]; rfl
      · rw [e]
        exact trivial)
    (g := F0 m pc rl (.int n :: .int dp :: .ref a :: .int sp :: .ref a0 :: rest)) rfl (by rw [hml]) (rest := rest) rfl (by rw [hb]; exact hdg) hframes (by show 2 * 0 + _ + _ ≤ _; omega)
  have e1 : copied cs (arrV cA n1 (fun j => .long (g j))) sp dp n = arrV cA n1 (fun j => .long (va_cpy f g sp.toNatClampNeg dp.toNatClampNeg n.toNatClampNeg j)) := va_copiedX (fun z => .long z) cs cA f g hs5 h4
  rw [e1] at X' step
  have hl : a < H.size := (Array.getElem?_eq_some_iff.mp hc1).1
  have hheap : ((T.setVm vm').setCell a (arrV cA n1 (fun j => .long (va_cpy f g sp.toNatClampNeg dp.toNatClampNeg n.toNatClampNeg j)))).heap = H.setIfInBounds a (arrV cA n1 (fun j => .long (va_cpy f g sp.toNatClampNeg dp.toNatClampNeg n.toNatClampNeg j))) := by rw [← hT]; rfl
  obtain ⟨t, a1, b1⟩ := kk _ _ (show (H.setIfInBounds a _)[a]? = some _ by simp [Array.getElem?_setIfInBounds, hl]) (by simp) (fun q hq => by simp [Array.getElem?_setIfInBounds, Ne.symm hq]) (fun q hq => by
      rcases List.mem_append.mp hq with h | h
      · exact Or.inl h
      · obtain ⟨z, -, hz⟩ := List.mem_map.mp h
        exact Or.inr (by rw [← hz])) _ hheap X'
  exact ⟨t, step t a1, b1⟩
end Heap1
