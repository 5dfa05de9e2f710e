/-! ===== the heap's instructions, in the small machine's words ===== -/
section Mem
variable {p : Program} {l : Launch} {e : Env} {R : Room} {s : State} {m : MethodId} {args : Array Value} {below : List Frame} {meth : Method} {c : Code} {H : Heap} {locs : List Loc} {cells slots : Nat} {Q : State → Prop}
variable {D : va_G} {z0 : Nat} {oa : Nat → Nat} {ca : Nat → ClassId} {L : Nat} {xs : Nat → Int} {h : MH} {a j v : Int} {cc : ByteArray} {own : String} {idx pc : Nat} {rl : Array Slot} {rest : List Value}
theorem rfo_pos (h : 1 ≤ a) : va_rf (rfo z0 oa a) = .ref (rho z0 oa a) := by unfold rfo; rw [if_neg (by omega)]; rfl
theorem rho_old {k : Nat} (h : k ≤ 6) : rho z0 oa (k : Int) = oa k := by unfold rho; rw [if_pos (by omega)]; congr 1
theorem vin_of {n : Nat} (h0 : 0 ≤ j) (h1 : j < n) (h2 : n < 2147483648) : vp_in (Int32.ofInt j) n := i_in h0 h1 h2
theorem s_iald (hx : p.tables.exec = Jvm.exec) (hb : c.code = cc) (hSW : SW D z0 oa ca L xs s) (hwd : WD D z0 oa ca h H) (hwf : WF h) (hst : STR L xs h) (hS : va_S (fun q => z0 ≤ q) s.heap H locs) (hk : shK h.1 a = 0) (h0 : 0 ≤ j) (h1 : j < shN h.1 a) (hdg : decode cc pc = .ok (.iaload, 1))
    (kk : W p l e R s m args below meth c H locs cells slots Q (F0 m (pc + 1) rl (.int (Int32.ofInt (h.2 a j)) :: rest))) : W p l e R s m args below meth c H locs cells slots Q (F0 m pc rl (.int (Int32.ofInt j) :: va_rf (rfo z0 oa a) :: rest)) := by
  obtain ⟨ha1, ha2⟩ := shp_valid (s := h.1) (a := a) (by rw [hk]; decide)
  have hlen := (hwf.1 a ha1 ha2).1
  unfold shN at h1
  rw [rfo_pos ha1]
  by_cases h6 : a ≤ 6
  · rcases STR_old hst ha1 h6 with ⟨k, k1, k2, rfl, -⟩ | ⟨-, q⟩ | ⟨-, q⟩
    · have hsh := hst.1 k k1 k2
      rw [hsh.1] at h1 hlen
      have h1 : j < (oldN L k : Nat) := h1
      have hlen : oldN L k < 2147483648 := hlen
      rw [rho_old (by omega)]
      refine va_ti hx hb (hSW.1 k k1 k2) hS (vin_of h0 h1 hlen) (v := .int (Int32.ofInt (h.2 k j))) ?_ hdg kk
      rw [i_clamp h0 (by omega)]
      have e2 := hsh.2 j.toNat (by omega)
      rw [show ((j.toNat : Nat) : Int) = j by omega] at e2
      rw [e2]
    · rw [hk] at q; cases q
    · rw [hk] at q; cases q
  · have hcell := arr_P hk (by decide) (hwd.2.2.2 a (by omega) ha2)
    refine W.iald (v := .int (Int32.ofInt (h.2 a j))) hx hb hcell ((hSW.2.1.2 0 _ rfl).1 _ _) (fun q => by cases q) (by rw [arrV_size]; exact i_in h0 h1 hlen) ?_ rfl rfl hdg kk
    rw [i_clamp h0 (by omega), arrV_read _ _ (by omega)]
    unfold avl
    rw [show ((j.toNat : Nat) : Int) = j by omega]
    try rfl
theorem s_lald (hx : p.tables.exec = Jvm.exec) (hb : c.code = cc) (hSW : SW D z0 oa ca L xs s) (hwd : WD D z0 oa ca h H) (hwf : WF h) (hst : STR L xs h) (hk : shK h.1 a = 1) (h0 : 0 ≤ j) (h1 : j < shN h.1 a) (hdg : decode cc pc = .ok (.laload, 1))
    (kk : W p l e R s m args below meth c H locs cells slots Q (F0 m (pc + 1) rl (.long (Int64.ofInt (h.2 a j)) :: rest))) : W p l e R s m args below meth c H locs cells slots Q (F0 m pc rl (.int (Int32.ofInt j) :: va_rf (rfo z0 oa a) :: rest)) := by
  obtain ⟨ha1, ha2⟩ := shp_valid (s := h.1) (a := a) (by rw [hk]; decide)
  have hlen := (hwf.1 a ha1 ha2).1
  unfold shN at h1
  rw [rfo_pos ha1]
  by_cases h6 : a ≤ 6
  · rcases STR_old hst ha1 h6 with ⟨k, k1, k2, rfl, q⟩ | ⟨-, q⟩ | ⟨-, q⟩ <;> rw [hk] at q <;> cases q
  · have hcell := arr_P hk (by decide) (hwd.2.2.2 a (by omega) ha2)
    refine W.lald (v := .long (Int64.ofInt (h.2 a j))) hx hb hcell ((hSW.2.1.2 1 _ rfl).1 _ _) (fun q => by cases q) (by rw [arrV_size]; exact i_in h0 h1 hlen) ?_ rfl rfl hdg kk
    rw [i_clamp h0 (by omega), arrV_read _ _ (by omega)]
    unfold avl
    rw [show ((j.toNat : Nat) : Int) = j by omega]
    try rfl
theorem KW_ok : ∀ j, j < 183 → Int32.ofInt (KWI.getD j 0) = KWB.getD j 0 := by decide +kernel
theorem s_bald (hx : p.tables.exec = Jvm.exec) (hb : c.code = cc) (hSW : SW D z0 oa ca L xs s) (hwd : WD D z0 oa ca h H) (hwf : WF h) (hst : STR L xs h) (hS : va_S (fun q => z0 ≤ q) s.heap H locs) (hk : shK h.1 a = 2) (h0 : 0 ≤ j) (h1 : j < shN h.1 a) (hdg : decode cc pc = .ok (.baload, 1))
    (kk : W p l e R s m args below meth c H locs cells slots Q (F0 m (pc + 1) rl (.int (Int32.ofInt (h.2 a j)) :: rest))) : W p l e R s m args below meth c H locs cells slots Q (F0 m pc rl (.int (Int32.ofInt j) :: va_rf (rfo z0 oa a) :: rest)) := by
  obtain ⟨ha1, ha2⟩ := shp_valid (s := h.1) (a := a) (by rw [hk]; decide)
  have hlen := (hwf.1 a ha1 ha2).1
  unfold shN at h1
  rw [rfo_pos ha1]
  by_cases h6 : a ≤ 6
  · rcases STR_old hst ha1 h6 with ⟨k, k1, k2, rfl, q⟩ | ⟨-, q⟩ | ⟨rfl, -⟩
    · rw [hk] at q; cases q
    · rw [hk] at q; cases q
    · rw [hst.2.1] at h1 hlen
      rw [show rho z0 oa 6 = oa 6 from rho_old (k := 6) (by omega)]
      have hT := (hSW.2.2.2.2.2.2.1.1 0 (by decide)).2.2.2
      refine va_tb hx hb hT hS (vin_of h0 h1 hlen) (v := .int (Int32.ofInt (h.2 6 j))) ?_ hdg kk
      have h1 : j < 183 := h1
      rw [i_clamp h0 (by omega)]
      have e2 := hst.2.2.1 j.toNat (by omega)
      rw [show ((j.toNat : Nat) : Int) = j by omega] at e2
      rw [e2, KW_ok _ (by omega)]
      rfl
  · have hcell := arr_P hk (by decide) (hwd.2.2.2 a (by omega) ha2)
    refine W.bald (v := .int (Int32.ofInt (h.2 a j))) hx hb hcell ((hSW.2.1.2 2 _ rfl).1 _ _) (fun q => by cases q) (by rw [arrV_size]; exact i_in h0 h1 hlen) ?_ rfl rfl hdg kk
    rw [i_clamp h0 (by omega), arrV_read _ _ (by omega)]
    unfold avl
    rw [show ((j.toNat : Nat) : Int) = j by omega]
    try rfl
theorem s_aald (hx : p.tables.exec = Jvm.exec) (hb : c.code = cc) (hSW : SW D z0 oa ca L xs s) (hwd : WD D z0 oa ca h H) (hwf : WF h) (hst : STR L xs h) (hk : 3 ≤ shK h.1 a ∧ shK h.1 a ≤ 5) (h0 : 0 ≤ j) (h1 : j < shN h.1 a) (hdg : decode cc pc = .ok (.aaload, 1))
    (kk : W p l e R s m args below meth c H locs cells slots Q (F0 m (pc + 1) rl (va_rf (rfo z0 oa (shR h.1 a j)) :: rest))) : W p l e R s m args below meth c H locs cells slots Q (F0 m pc rl (.int (Int32.ofInt j) :: va_rf (rfo z0 oa a) :: rest)) := by
  obtain ⟨ha1, ha2⟩ := shp_valid (s := h.1) (a := a) (by omega)
  have hlen := (hwf.1 a ha1 ha2).1
  unfold shN at h1
  rw [rfo_pos ha1]
  by_cases h6 : a ≤ 6
  · rcases STR_old hst ha1 h6 with ⟨k, k1, k2, rfl, q⟩ | ⟨-, q⟩ | ⟨-, q⟩ <;> omega
  · have hcell := arr_P rfl hk.2 (hwd.2.2.2 a (by omega) ha2)
    have harr : ∃ ty : FieldType, ty.isReference = true ∧ ∀ (n : Nat) (f : Nat → Value), s.isArrayOf (arrV (ca (shK h.1 a)) n f) ty := by
      rcases (show shK h.1 a = 3 ∨ shK h.1 a = 4 ∨ shK h.1 a = 5 by omega) with q | q | q <;> rw [q]
      · exact ⟨_, rfl, (hSW.2.1.2 3 _ rfl).1⟩
      · exact ⟨_, rfl, (hSW.2.1.2 4 _ rfl).1⟩
      · exact ⟨_, rfl, (hSW.2.1.2 5 _ rfl).1⟩
    obtain ⟨ty, hty, harr⟩ := harr
    refine W.aald (v := va_rf (rfo z0 oa (shR h.1 a j))) (ty := ty) hx hb hcell (harr _ _) hty (fun q => by cases q) (by rw [arrV_size]; exact i_in h0 h1 hlen) ?_ rfl rfl hdg kk
    rw [i_clamp h0 (by omega), arrV_read _ _ (by omega)]
    unfold avl shR
    rcases (show shK h.1 a = 3 ∨ shK h.1 a = 4 ∨ shK h.1 a = 5 by omega) with q | q | q <;> rw [q] <;> rfl
theorem s_alen (hx : p.tables.exec = Jvm.exec) (hb : c.code = cc) (hSW : SW D z0 oa ca L xs s) (hwd : WD D z0 oa ca h H) (hwf : WF h) (hst : STR L xs h) (hS : va_S (fun q => z0 ≤ q) s.heap H locs) (hk : shK h.1 a ≤ 2) (hdg : decode cc pc = .ok (.arraylength, 1))
    (kk : W p l e R s m args below meth c H locs cells slots Q (F0 m (pc + 1) rl (.int (Int32.ofInt (shN h.1 a)) :: rest))) : W p l e R s m args below meth c H locs cells slots Q (F0 m pc rl (va_rf (rfo z0 oa a) :: rest)) := by
  obtain ⟨ha1, ha2⟩ := shp_valid (s := h.1) (a := a) (by omega)
  have hlen := (hwf.1 a ha1 ha2).1
  have hof : ∀ n : Nat, Int32.ofNat n = Int32.ofInt (n : Int) := fun n => (Int32.ofInt_eq_ofNat).symm
  rw [rfo_pos ha1]
  by_cases h6 : a ≤ 6
  · rcases STR_old hst ha1 h6 with ⟨k, k1, k2, rfl, -⟩ | ⟨-, q⟩ | ⟨rfl, -⟩
    · have hsh := hst.1 k k1 k2
      rw [rho_old (by omega)]
      refine va_tlen hx hb (hSW.1 k k1 k2) hS (v := Int32.ofInt (shN h.1 k)) ?_ hdg kk
      unfold shN
      rw [hsh.1, hof]
    · omega
    · rw [show rho z0 oa 6 = oa 6 from rho_old (k := 6) (by omega)]
      have hT := (hSW.2.2.2.2.2.2.1.1 0 (by decide)).2.2.2
      refine va_tlen hx hb hT hS (v := Int32.ofInt (shN h.1 6)) ?_ hdg kk
      unfold shN
      rw [hst.2.1]; rfl
  · have hcell := arr_P rfl (by omega) (hwd.2.2.2 a (by omega) ha2)
    have harr : ∃ ty : FieldType, ∀ (n : Nat) (f : Nat → Value), s.isArrayOf (arrV (ca (shK h.1 a)) n f) ty := by
      rcases (show shK h.1 a = 0 ∨ shK h.1 a = 1 ∨ shK h.1 a = 2 by omega) with q | q | q <;> rw [q]
      · exact ⟨_, (hSW.2.1.2 0 _ rfl).1⟩
      · exact ⟨_, (hSW.2.1.2 1 _ rfl).1⟩
      · exact ⟨_, (hSW.2.1.2 2 _ rfl).1⟩
    obtain ⟨ty, harr⟩ := harr
    exact W.alen (n := Int32.ofInt (shN h.1 a)) hx hb hcell (harr _ _) (by rw [arrV_size]; unfold shN; exact hof _) rfl rfl hdg kk
/-- behind a write into a new cell -/
theorem s_iast (hx : p.tables.exec = Jvm.exec) (hb : c.code = cc) (hSW : SW D z0 oa ca L xs s) (hwd : WD D z0 oa ca h H) (hwf : WF h) (hS : va_S (fun q => z0 ≤ q) s.heap H locs) (hk : shK h.1 a = 0) (h6 : 6 < a) (h0 : 0 ≤ j) (h1 : j < shN h.1 a) (hdg : decode cc pc = .ok (.iastore, 1))
    (kk : ∀ (H1 : Heap) (locs1 : List Loc), WD D z0 oa ca (h.1, up h.2 a j v) H1 → va_S (fun q => z0 ≤ q) s.heap H1 locs1 → W p l e R s m args below meth c H1 locs1 cells slots Q (F0 m (pc + 1) rl rest)) : W p l e R s m args below meth c H locs cells slots Q (F0 m pc rl (.int (Int32.ofInt v) :: .int (Int32.ofInt j) :: va_rf (rfo z0 oa a) :: rest)) := by
  obtain ⟨ha1, ha2⟩ := shp_valid (s := h.1) (a := a) (by rw [hk]; decide)
  have hlen := (hwf.1 a ha1 ha2).1
  unfold shN at h1
  rw [rfo_pos ha1]
  have hcell := arr_P hk (by decide) (hwd.2.2.2 a h6 ha2)
  refine W.iast hx hb hcell ((hSW.2.1.2 0 _ rfl).1 _ _) (fun q => by cases q) (by rw [arrV_size]; exact i_in h0 h1 hlen) rfl rfl hdg fun H1 e1 z1 o1 => ?_
  rw [i_clamp h0 (by omega), arrV_store] at e1
  refine kk H1 _ (WD_put hwd h6 z1 rfl o1 (fun b _ hb2 => ⟨rfl, fun j' => up_ne hb2⟩) (cell_arr (h' := (h.1, up h.2 a j v)) hk (by decide) e1 (avl_up h0 (by decide) ?_))) (hS.put z1 o1 (rho_ge h6))
  unfold avl
  rw [show ((j.toNat : Nat) : Int) = j by omega, up_eq]
  try rfl
theorem s_last (hx : p.tables.exec = Jvm.exec) (hb : c.code = cc) (hSW : SW D z0 oa ca L xs s) (hwd : WD D z0 oa ca h H) (hwf : WF h) (hS : va_S (fun q => z0 ≤ q) s.heap H locs) (hk : shK h.1 a = 1) (h6 : 6 < a) (h0 : 0 ≤ j) (h1 : j < shN h.1 a) (hdg : decode cc pc = .ok (.lastore, 1))
    (kk : ∀ (H1 : Heap) (locs1 : List Loc), WD D z0 oa ca (h.1, up h.2 a j v) H1 → va_S (fun q => z0 ≤ q) s.heap H1 locs1 → W p l e R s m args below meth c H1 locs1 cells slots Q (F0 m (pc + 1) rl rest)) : W p l e R s m args below meth c H locs cells slots Q (F0 m pc rl (.long (Int64.ofInt v) :: .int (Int32.ofInt j) :: va_rf (rfo z0 oa a) :: rest)) := by
  obtain ⟨ha1, ha2⟩ := shp_valid (s := h.1) (a := a) (by rw [hk]; decide)
  have hlen := (hwf.1 a ha1 ha2).1
  unfold shN at h1
  rw [rfo_pos ha1]
  have hcell := arr_P hk (by decide) (hwd.2.2.2 a h6 ha2)
  refine W.last hx hb hcell ((hSW.2.1.2 1 _ rfl).1 _ _) (fun q => by cases q) (by rw [arrV_size]; exact i_in h0 h1 hlen) rfl rfl hdg fun H1 e1 z1 o1 => ?_
  rw [i_clamp h0 (by omega), arrV_store] at e1
  refine kk H1 _ (WD_put hwd h6 z1 rfl o1 (fun b _ hb2 => ⟨rfl, fun j' => up_ne hb2⟩) (cell_arr (h' := (h.1, up h.2 a j v)) hk (by decide) e1 (avl_up h0 (by decide) ?_))) (hS.put z1 o1 (rho_ge h6))
  unfold avl
  rw [show ((j.toNat : Nat) : Int) = j by omega, up_eq]
  try rfl
theorem s_bast (hx : p.tables.exec = Jvm.exec) (hb : c.code = cc) (hSW : SW D z0 oa ca L xs s) (hwd : WD D z0 oa ca h H) (hwf : WF h) (hS : va_S (fun q => z0 ≤ q) s.heap H locs) (hk : shK h.1 a = 2) (h6 : 6 < a) (h0 : 0 ≤ j) (h1 : j < shN h.1 a) (hdg : decode cc pc = .ok (.bastore, 1))
    (kk : ∀ (H1 : Heap) (locs1 : List Loc), WD D z0 oa ca (h.1, up h.2 a j (v.bmod 256)) H1 → va_S (fun q => z0 ≤ q) s.heap H1 locs1 → W p l e R s m args below meth c H1 locs1 cells slots Q (F0 m (pc + 1) rl rest)) : W p l e R s m args below meth c H locs cells slots Q (F0 m pc rl (.int (Int32.ofInt v) :: .int (Int32.ofInt j) :: va_rf (rfo z0 oa a) :: rest)) := by
  obtain ⟨ha1, ha2⟩ := shp_valid (s := h.1) (a := a) (by rw [hk]; decide)
  have hlen := (hwf.1 a ha1 ha2).1
  unfold shN at h1
  rw [rfo_pos ha1]
  have hcell := arr_P hk (by decide) (hwd.2.2.2 a h6 ha2)
  refine W.bast hx hb hcell ((hSW.2.1.2 2 _ rfl).1 _ _) (fun q => by cases q) (by rw [arrV_size]; exact i_in h0 h1 hlen) rfl rfl hdg fun H1 e1 z1 o1 => ?_
  rw [i_clamp h0 (by omega), arrV_store] at e1
  have hnar : narrow .byte (.int (Int32.ofInt v)) = .int (Int32.ofInt (v.bmod 256)) := by
    rw [← i_b v]; rfl
  rw [hnar] at e1
  refine kk H1 _ (WD_put hwd h6 z1 rfl o1 (fun b _ hb2 => ⟨rfl, fun j' => up_ne hb2⟩) (cell_arr (h' := (h.1, up h.2 a j (v.bmod 256))) hk (by decide) e1 (avl_up h0 (by decide) ?_))) (hS.put z1 o1 (rho_ge h6))
  unfold avl
  rw [show ((j.toNat : Nat) : Int) = j by omega, up_eq]
  try rfl
theorem s_aast {ci kk0 : Nat} (hx : p.tables.exec = Jvm.exec) (hb : c.code = cc) (hSW : SW D z0 oa ca L xs s) (hwd : WD D z0 oa ca h H) (hwf : WF h) (hS : va_S (fun q => z0 ≤ q) s.heap H locs) (hk : shK h.1 a = kk0) (hk3 : 3 ≤ kk0 ∧ kk0 ≤ 5) (hci : ci = aci kk0) (h6 : 6 < a) (hv6 : 6 < v) (hkv : shK h.1 v = 10 + ci) (h0 : 0 ≤ j) (h1 : j < shN h.1 a) (hdg : decode cc pc = .ok (.aastore, 1))
    (kk : ∀ (H1 : Heap) (locs1 : List Loc), WD D z0 oa ca (shSet h.1 a j.toNat v, h.2) H1 → va_S (fun q => z0 ≤ q) s.heap H1 locs1 → W p l e R s m args below meth c H1 locs1 cells slots Q (F0 m (pc + 1) rl rest)) : W p l e R s m args below meth c H locs cells slots Q (F0 m pc rl (va_rf (rfo z0 oa v) :: .int (Int32.ofInt j) :: va_rf (rfo z0 oa a) :: rest)) := by
  obtain ⟨ha1, ha2⟩ := shp_valid (s := h.1) (a := a) (by omega)
  have hc13 : ci < 13 := by rw [hci]; unfold aci; split <;> (try split) <;> omega
  obtain ⟨hv1, hv2⟩ := shp_valid (s := h.1) (a := v) (by omega)
  have hlen := (hwf.1 a ha1 ha2).1
  have hrl := (hwf.1 a ha1 ha2).2.2.2.1 (by omega) (by omega)
  unfold shN at h1
  rw [rfo_pos ha1, rfo_pos hv1]
  have hcell := arr_P hk (by omega) (hwd.2.2.2 a h6 ha2)
  have hcn : cN (aci kk0) = aC kk0 := by
    rcases (show kk0 = 3 ∨ kk0 = 4 ∨ kk0 = 5 by omega) with q | q | q <;> rw [q] <;> rfl
  obtain ⟨r, hr⟩ : ∃ r, mcl[ci]? = some r := ⟨_, List.getElem?_eq_getElem (by exact hc13)⟩
  obtain ⟨cell, q1, q2, q3, -⟩ := obj_P hr hkv (hwd.2.2.2 v hv6 hv2)
  obtain ⟨-, hfc, kC, hkC, hkind⟩ := hSW.2.1.1 ci _ hr
  have hty : ArrOfT s (ca kk0) (.object (aC kk0)) ∧ va_RA s (ca kk0) (.object (aC kk0)) := by
    rcases (show kk0 = 3 ∨ kk0 = 4 ∨ kk0 = 5 by omega) with q | q | q <;> rw [q]
    · exact hSW.2.1.2 3 _ rfl
    · exact hSW.2.1.2 4 _ rfl
    · exact hSW.2.1.2 5 _ rfl
  obtain ⟨kA, comp, f1, f2, f3, -⟩ := hty.2
  have ecomp : comp = D.1 ci := by
    rw [mcl_nm1 hr, hci, hcn] at hfc
    rw [← hci] at hfc
    exact Option.some.inj (f3.symm.trans hfc)
  refine W.aast hx hb (cell := arrV (ca kk0) (shp h.1 a).2.1 (avl z0 oa h.2 a kk0 (shp h.1 a).2.2)) hcell (fun _ q => by cases q) (fun q => by cases q) f1 f2 rfl (by rw [ecomp]; exact hkC) ⟨by rw [i_lt0 (by unfold r32; omega)]; omega, by rw [arrV_size, i_clamp h0 (by omega)]; omega⟩ q1 (fun _ q => by rw [q3] at q; cases q) (by rw [q2]; exact hkC) (by rw [q2, ecomp]; exact va_assign ⟨hfc, kC, hkC, hkind⟩) rfl rfl hdg fun H1 e1 z1 o1 => ?_
  rw [i_clamp h0 (by omega), arrV_store] at e1
  have hsa : shp (shSet h.1 a j.toNat v) a = ((shp h.1 a).1, (shp h.1 a).2.1, (shp h.1 a).2.2.set j.toNat v) := by rw [shp_set ha1 ha2 ha1, if_pos rfl]
  refine kk H1 _ (WD_put hwd h6 z1 (by unfold shSet; simp) o1 (fun b hb1 hb2 => ⟨by rw [shp_set ha1 ha2 hb1, if_neg hb2], fun _ => rfl⟩) (cell_arr (h' := (shSet h.1 a j.toNat v, h.2)) (k := kk0) (by unfold shK; rw [hsa]; exact hk) (by omega) (by rw [hsa]; exact e1) ?_)) (hS.put z1 o1 (rho_ge h6))
  funext i
  rw [hsa]
  have hav : ∀ rs : List Int, ∀ i : Nat, avl z0 oa h.2 a kk0 rs i = va_rf (rfo z0 oa (rs.getD i 0)) := by
    intro rs i
    rcases (show kk0 = 3 ∨ kk0 = 4 ∨ kk0 = 5 by omega) with q | q | q <;> rw [q] <;> rfl
  unfold updV
  by_cases ei : i = j.toNat
  · rw [if_pos ei, hav, ei]
    simp only
    rw [List.getD_eq_getElem?_getD, List.getElem?_set_self (by rw [hrl]; omega)]
    rw [Option.getD_some, rfo_pos hv1]
  · rw [if_neg ei, hav, hav]
    simp only
    rw [List.getD_eq_getElem?_getD, List.getD_eq_getElem?_getD, List.getElem?_set_ne (fun q => ei q.symm)]
theorem tcode_obj (ci k : Nat) : tcode (10 + ci) (k : Int) = ftc ci k := by
  unfold tcode
  rw [if_neg (by omega), if_neg (by omega), Nat.add_sub_cancel_left]
  rfl
theorem new_obj {h : MH} {a : Int} {ci : Nat} (hst : STR L xs h) (hk : shK h.1 a = 10 + ci) (hc : ci < 13) : 6 < a ∧ a ≤ h.1.length := by
  obtain ⟨ha1, ha2⟩ := shp_valid (s := h.1) (a := a) (by omega)
  refine ⟨?_, ha2⟩
  by_cases h6 : a ≤ 6
  · rcases STR_old hst ha1 h6 with ⟨k, k1, k2, -, q⟩ | ⟨-, q⟩ | ⟨-, q⟩ <;> omega
  · omega
/-- what a field's code says of its type -/
theorem fc_int {q : String × String × String × Bool} (h : fcOk q 0 = true) : parseFieldDescriptor q.2.2.1 = some .int ∧ q.2.2.2 = false := by
  unfold fcOk at h; simp only [Bool.and_eq_true, decide_eq_true_eq, Bool.not_eq_true'] at h; exact h
theorem fc_long {q : String × String × String × Bool} (h : fcOk q 1 = true) : parseFieldDescriptor q.2.2.1 = some .long ∧ q.2.2.2 = false := by
  unfold fcOk at h; simp only [Bool.and_eq_true, decide_eq_true_eq, Bool.not_eq_true'] at h; exact h
theorem fc_bool {q : String × String × String × Bool} (h : fcOk q 4 = true) : parseFieldDescriptor q.2.2.1 = some .boolean ∧ q.2.2.2 = false := by
  unfold fcOk at h; simp only [Bool.and_eq_true, decide_eq_true_eq, Bool.not_eq_true'] at h; exact h
theorem ref_fit {ty : FieldType} (h : ty.isReference = true) (r : Option Nat) : narrow ty (va_rf r) = va_rf r ∧ fits ty (va_rf r) = true := by
  cases r <;> cases ty <;> first | exact ⟨rfl, rfl⟩ | cases h
theorem fc_ref {q : String × String × String × Bool} (h : fcOk q 2 = true) : ∃ ty : FieldType, parseFieldDescriptor q.2.2.1 = some ty ∧ ty.isReference = true ∧ q.2.2.2 = false := by
  unfold fcOk at h; simp only [Bool.and_eq_true, Bool.not_eq_true'] at h
  obtain ⟨h1, h2⟩ := h
  split at h1
  · rename_i ty he; exact ⟨ty, he, h1, h2⟩
  · cases h1
theorem fc_fin {q : String × String × String × Bool} (h : fcOk q 3 = true) : ∃ ty : FieldType, parseFieldDescriptor q.2.2.1 = some ty ∧ ty.isReference = true ∧ q.2.2.2 = true := by
  unfold fcOk at h; simp only [Bool.and_eq_true] at h
  obtain ⟨h1, h2⟩ := h
  split at h1
  · rename_i ty he; exact ⟨ty, he, h1, h2⟩
  · cases h1
theorem fc_lt {q : String × String × String × Bool} {f : Nat} (h : fcOk q f = true) : f = 0 ∨ f = 1 ∨ f = 2 ∨ f = 3 ∨ f = 4 := by
  unfold fcOk at h
  split at h <;> first | omega | cases h
theorem s_put {ci k : Nat} {r : vw_C} {val : Value} {ty : FieldType} (hx : p.tables.exec = Jvm.exec) (hb : c.code = cc) (hown : s.vm.findClass own = some m.cls) (hts : ∀ w ∈ GT, w.before args s = true) (hSW : SW D z0 oa ca L xs s) (hwd : WD D z0 oa ca h H) (hst : STR L xs h) (hS : va_S (fun q => z0 ≤ q) s.heap H locs) (hc : mcl[ci]? = some r) (hk : shK h.1 a = 10 + ci) (hkr : k < r.2.2)
    (hlink : Cond.fieldLink own idx r.1 (r.2.1 k).2.1 (r.2.1 k).2.2.1 ∈ lw_tbl) (hfin : (r.2.1 k).2.2.2 = false) (hd : parseFieldDescriptor (r.2.1 k).2.2.1 = some ty) (hn : narrow ty val = val) (hfit : fits ty val = true) (hval : fvl z0 oa (up h.2 a k v) a ci (shp h.1 a).2.2 k = val) (hdg : decode cc pc = .ok (.putfield idx, 3))
    (kk : ∀ (H1 : Heap) (locs1 : List Loc), WD D z0 oa ca (h.1, up h.2 a k v) H1 → va_S (fun q => z0 ≤ q) s.heap H1 locs1 → W p l e R s m args below meth c H1 locs1 cells slots Q (F0 m (pc + 3) rl rest)) : W p l e R s m args below meth c H locs cells slots Q (F0 m pc rl (val :: va_rf (rfo z0 oa a) :: rest)) := by
  obtain ⟨h6, ha2⟩ := new_obj hst hk (mcl_lt hc)
  rw [rfo_pos (by omega)]
  refine sim_put hx hb hown hts hSW.2.1 hc hk (hwd.2.2.2 a h6 ha2) hkr hlink hfin hd hn hfit hdg fun H1 e1 z1 o1 => ?_
  exact kk H1 _ (WD_put hwd h6 z1 rfl o1 (fun b _ hb2 => ⟨rfl, fun j' => up_ne hb2⟩) (cell_fld (h := h) (h' := (h.1, up h.2 a k v)) (v := val) hc hk e1 (fun j _ => fvl_up (fun j ej => by rw [ej]; exact hval) j))) (hS.put z1 o1 (rho_ge h6))
theorem s_putF {ci k : Nat} {r : vw_C} {ty : FieldType} (hx : p.tables.exec = Jvm.exec) (hb : c.code = cc) (hown : s.vm.findClass own = some m.cls) (hts : ∀ w ∈ GT, w.before args s = true) (hSW : SW D z0 oa ca L xs s) (hwd : WD D z0 oa ca h H) (hwf : WF h) (hst : STR L xs h) (hS : va_S (fun q => z0 ≤ q) s.heap H locs) (hc : mcl[ci]? = some r) (hk : shK h.1 a = 10 + ci) (hkr : k < r.2.2)
    (hlink : Cond.fieldLink own idx r.1 (r.2.1 k).2.1 (r.2.1 k).2.2.1 ∈ lw_tbl) (hfin : (r.2.1 k).2.2.2 = true) (hin2 : meth.name = "<init>") (hdecl : r.1 = own) (hd : parseFieldDescriptor (r.2.1 k).2.2.1 = some ty) (hty : ty.isReference = true) (hf3 : ftc ci k = 3) (hdg : decode cc pc = .ok (.putfield idx, 3))
    (kk : ∀ (H1 : Heap) (locs1 : List Loc), WD D z0 oa ca (shSet h.1 a k v, h.2) H1 → va_S (fun q => z0 ≤ q) s.heap H1 locs1 → W p l e R s m args below meth c H1 locs1 cells slots Q (F0 m (pc + 3) rl rest)) : W p l e R s m args below meth c H locs cells slots Q (F0 m pc rl (va_rf (rfo z0 oa v) :: va_rf (rfo z0 oa a) :: rest)) := by
  obtain ⟨h6, ha2⟩ := new_obj hst hk (mcl_lt hc)
  have ha1 : 1 ≤ a := by omega
  have hrl := (hwf.1 a ha1 ha2).2.2.2.2 (by omega) (by have := mcl_lt hc; omega)
  rw [hk, Nat.add_sub_cancel_left, ← mcl_n hc] at hrl
  rw [rfo_pos (a := a) (by omega)]
  refine sim_putF hx hb hown hts hSW.2.1 hc hk (hwd.2.2.2 a h6 ha2) hkr hlink hfin hin2 hdecl hd (ref_fit hty _).1 (ref_fit hty _).2 hdg fun H1 e1 z1 o1 => ?_
  have hsa : shp (shSet h.1 a k v) a = ((shp h.1 a).1, (shp h.1 a).2.1, (shp h.1 a).2.2.set k v) := by rw [shp_set ha1 ha2 ha1, if_pos rfl]
  refine kk H1 _ (WD_put hwd h6 z1 (by unfold shSet; simp) o1 (fun b hb1 hb2 => ⟨by rw [shp_set ha1 ha2 hb1, if_neg hb2], fun _ => rfl⟩) (cell_fld (h := h) (h' := (shSet h.1 a k v, h.2)) hc (by unfold shK; rw [hsa]; exact hk) e1 (fun j hj => ?_))) (hS.put z1 o1 (rho_ge h6))
  rw [hsa]
  unfold updV
  by_cases ej : j = k
  · rw [if_pos ej, ej]
    unfold fvl
    rw [hf3]
    simp only
    rw [List.getD_eq_getElem?_getD, List.getElem?_set_self (by rw [hrl]; exact hkr)]
    rfl
  · rw [if_neg ej]
    unfold fvl
    simp only
    rw [List.getD_eq_getElem?_getD, List.getD_eq_getElem?_getD, List.getElem?_set_ne (fun q => ej q.symm)]
end Mem
