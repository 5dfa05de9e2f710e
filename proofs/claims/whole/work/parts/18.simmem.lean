/-! ===== the heap's instructions, in the small machine's words ===== -/
section Mem
variable {p : Program} {l : Launch} {e : Env} {R : Room} {s : State} {m : MethodId} {args : Array Value} {below : List Frame} {meth : Method} {c : Code} {H : Heap} {locs : List Loc} {cells slots : Nat} {Q : State → Prop}
variable {D : va_G} {z0 : Nat} {oa : Nat → Nat} {ca : Nat → ClassId} {L : Nat} {xs : Nat → Int} {h : MH} {a j v : Int} {cc : ByteArray} {own : String} {idx pc : Nat} {rl : Array Slot} {rest : List Value}
theorem rfo_pos (h : 1 ≤ a) : va_rf (rfo z0 oa a) = .ref (rho z0 oa a) := by unfold rfo; rw [if_neg (by omega)]; rfl
theorem rho_old {k : Nat} (h : k ≤ 6) : rho z0 oa (k : Int) = oa k := by unfold rho; rw [if_pos (by omega)]; congr 1
theorem vin_of {n : Nat} (h0 : 0 ≤ j) (h1 : j < n) (h2 : n < 2147483648) : vp_in (Int32.ofInt j) n := i_in h0 h1 h2
theorem s_iald (hx : p.tables.exec = Jvm.exec) (hb : c.code = cc) (hSW : SW D z0 oa ca L xs s) (hwd : WD D z0 oa ca h H) (hwf : WF h) (hst : STR L xs h) (hS : va_S (fun q => z0 ≤ q) s.heap H locs) (hk : shK h.1 a = 0) (h0 : 0 ≤ j) (h1 : j < shN h.1 a) (hdg : decode cc pc = .ok (.iaload, 1))
    (kk : W p l e R s m args below meth c H locs cells slots Q (F0 m (pc + 1) rl (.int (Int32.ofInt (h.2 a j)) :: rest))) : W p l e R s m args below meth c H locs cells slots Q (F0 m pc rl (.int (Int32.ofInt j) :: va_rf (rfo z0 oa a) :: rest)) := by
  obtain ⟨ha1, ha2⟩ := shp_valid (s := h.1) (a := a) (by rw [hk]; decide)
  have hlen := (hwf.1 a ha1 ha2).1
  unfold shN at h1
  rw [rfo_pos ha1]
  by_cases h6 : a ≤ 6
  · rcases STR_old hst ha1 h6 with ⟨k, k1, k2, rfl, -⟩ | ⟨-, q⟩ | ⟨-, q⟩
    · have hsh := hst.1 k k1 k2
      rw [hsh.1] at h1 hlen
      have h1 : j < (oldN L k : Nat) := h1
      have hlen : oldN L k < 2147483648 := hlen
      rw [rho_old (by omega)]
      refine va_ti hx hb (hSW.1 k k1 k2) hS (vin_of h0 h1 hlen) (v := .int (Int32.ofInt (h.2 k j))) ?_ hdg kk
      rw [i_clamp h0 (by omega)]
      have e2 := hsh.2 j.toNat (by omega)
      rw [show ((j.toNat : Nat) : Int) = j by omega] at e2
      rw [e2]
    · rw [hk] at q; cases q
    · rw [hk] at q; cases q
  · have hcell := arr_P hk (by decide) (hwd.2.2.2 a (by omega) ha2)
    refine W.iald (v := .int (Int32.ofInt (h.2 a j))) hx hb hcell ((hSW.2.1.2 0 _ rfl).1 _ _) (fun q => by cases q) (by rw [arrV_size]; exact i_in h0 h1 hlen) ?_ rfl rfl hdg kk
    rw [i_clamp h0 (by omega), arrV_read _ _ (by omega)]
    unfold avl
    rw [show ((j.toNat : Nat) : Int) = j by omega]
    try rfl
theorem s_lald (hx : p.tables.exec = Jvm.exec) (hb : c.code = cc) (hSW : SW D z0 oa ca L xs s) (hwd : WD D z0 oa ca h H) (hwf : WF h) (hst : STR L xs h) (hk : shK h.1 a = 1) (h0 : 0 ≤ j) (h1 : j < shN h.1 a) (hdg : decode cc pc = .ok (.laload, 1))
    (kk : W p l e R s m args below meth c H locs cells slots Q (F0 m (pc + 1) rl (.long (Int64.ofInt (h.2 a j)) :: rest))) : W p l e R s m args below meth c H locs cells slots Q (F0 m pc rl (.int (Int32.ofInt j) :: va_rf (rfo z0 oa a) :: rest)) := by
  obtain ⟨ha1, ha2⟩ := shp_valid (s := h.1) (a := a) (by rw [hk]; decide)
  have hlen := (hwf.1 a ha1 ha2).1
  unfold shN at h1
  rw [rfo_pos ha1]
  by_cases h6 : a ≤ 6
  · rcases STR_old hst ha1 h6 with ⟨k, k1, k2, rfl, q⟩ | ⟨-, q⟩ | ⟨-, q⟩ <;> rw [hk] at q <;> cases q
  · have hcell := arr_P hk (by decide) (hwd.2.2.2 a (by omega) ha2)
    refine W.lald (v := .long (Int64.ofInt (h.2 a j))) hx hb hcell ((hSW.2.1.2 1 _ rfl).1 _ _) (fun q => by cases q) (by rw [arrV_size]; exact i_in h0 h1 hlen) ?_ rfl rfl hdg kk
    rw [i_clamp h0 (by omega), arrV_read _ _ (by omega)]
    unfold avl
    rw [show ((j.toNat : Nat) : Int) = j by omega]
    try rfl
theorem KW_ok : ∀ j, j < 183 → Int32.ofInt (KWI.getD j 0) = KWB.getD j 0 := by decide +kernel
theorem s_bald (hx : p.tables.exec = Jvm.exec) (hb : c.code = cc) (hSW : SW D z0 oa ca L xs s) (hwd : WD D z0 oa ca h H) (hwf : WF h) (hst : STR L xs h) (hS : va_S (fun q => z0 ≤ q) s.heap H locs) (hk : shK h.1 a = 2) (h0 : 0 ≤ j) (h1 : j < shN h.1 a) (hdg : decode cc pc = .ok (.baload, 1))
    (kk : W p l e R s m args below meth c H locs cells slots Q (F0 m (pc + 1) rl (.int (Int32.ofInt (h.2 a j)) :: rest))) : W p l e R s m args below meth c H locs cells slots Q (F0 m pc rl (.int (Int32.ofInt j) :: va_rf (rfo z0 oa a) :: rest)) := by
  obtain ⟨ha1, ha2⟩ := shp_valid (s := h.1) (a := a) (by rw [hk]; decide)
  have hlen := (hwf.1 a ha1 ha2).1
  unfold shN at h1
  rw [rfo_pos ha1]
  by_cases h6 : a ≤ 6
  · rcases STR_old hst ha1 h6 with ⟨k, k1, k2, rfl, q⟩ | ⟨-, q⟩ | ⟨rfl, -⟩
    · rw [hk] at q; cases q
    · rw [hk] at q; cases q
    · rw [hst.2.1] at h1 hlen
      rw [show rho z0 oa 6 = oa 6 from rho_old (k := 6) (by omega)]
      have hT := (hSW.2.2.2.2.2.2.1.1 0 (by decide)).2.2.2
      refine va_tb hx hb hT hS (vin_of h0 h1 hlen) (v := .int (Int32.ofInt (h.2 6 j))) ?_ hdg kk
      have h1 : j < 183 := h1
      rw [i_clamp h0 (by omega)]
      have e2 := hst.2.2.1 j.toNat (by omega)
      rw [show ((j.toNat : Nat) : Int) = j by omega] at e2
      rw [e2, KW_ok _ (by omega)]
      rfl
  · have hcell := arr_P hk (by decide) (hwd.2.2.2 a (by omega) ha2)
    refine W.bald (v := .int (Int32.ofInt (h.2 a j))) hx hb hcell ((hSW.2.1.2 2 _ rfl).1 _ _) (fun q => by cases q) (by rw [arrV_size]; exact i_in h0 h1 hlen) ?_ rfl rfl hdg kk
    rw [i_clamp h0 (by omega), arrV_read _ _ (by omega)]
    unfold avl
    rw [show ((j.toNat : Nat) : Int) = j by omega]
    try rfl
theorem s_aald (hx : p.tables.exec = Jvm.exec) (hb : c.code = cc) (hSW : SW D z0 oa ca L xs s) (hwd : WD D z0 oa ca h H) (hwf : WF h) (hst : STR L xs h) (hk : 3 ≤ shK h.1 a ∧ shK h.1 a ≤ 5) (h0 : 0 ≤ j) (h1 : j < shN h.1 a) (hdg : decode cc pc = .ok (.aaload, 1))
    (kk : W p l e R s m args below meth c H locs cells slots Q (F0 m (pc + 1) rl (va_rf (rfo z0 oa (shR h.1 a j)) :: rest))) : W p l e R s m args below meth c H locs cells slots Q (F0 m pc rl (.int (Int32.ofInt j) :: va_rf (rfo z0 oa a) :: rest)) := by
  obtain ⟨ha1, ha2⟩ := shp_valid (s := h.1) (a := a) (by omega)
  have hlen := (hwf.1 a ha1 ha2).1
  unfold shN at h1
  rw [rfo_pos ha1]
  by_cases h6 : a ≤ 6
  · rcases STR_old hst ha1 h6 with ⟨k, k1, k2, rfl, q⟩ | ⟨-, q⟩ | ⟨-, q⟩ <;> omega
  · have hcell := arr_P rfl hk.2 (hwd.2.2.2 a (by omega) ha2)
    have harr : ∃ ty : FieldType, ty.isReference = true ∧ ∀ (n : Nat) (f : Nat → Value), s.isArrayOf (arrV (ca (shK h.1 a)) n f) ty := by
      rcases (show shK h.1 a = 3 ∨ shK h.1 a = 4 ∨ shK h.1 a = 5 by omega) with q | q | q <;> rw [q]
      · exact ⟨_, rfl, (hSW.2.1.2 3 _ rfl).1⟩
      · exact ⟨_, rfl, (hSW.2.1.2 4 _ rfl).1⟩
      · exact ⟨_, rfl, (hSW.2.1.2 5 _ rfl).1⟩
    obtain ⟨ty, hty, harr⟩ := harr
    refine W.aald (v := va_rf (rfo z0 oa (shR h.1 a j))) (ty := ty) hx hb hcell (harr _ _) hty (fun q => by cases q) (by rw [arrV_size]; exact i_in h0 h1 hlen) ?_ rfl rfl hdg kk
    rw [i_clamp h0 (by omega), arrV_read _ _ (by omega)]
    unfold avl shR
    rcases (show shK h.1 a = 3 ∨ shK h.1 a = 4 ∨ shK h.1 a = 5 by omega) with q | q | q <;> rw [q] <;> rfl
theorem s_alen (hx : p.tables.exec = Jvm.exec) (hb : c.code = cc) (hSW : SW D z0 oa ca L xs s) (hwd : WD D z0 oa ca h H) (hwf : WF h) (hst : STR L xs h) (hS : va_S (fun q => z0 ≤ q) s.heap H locs) (hk : shK h.1 a ≤ 2) (hdg : decode cc pc = .ok (.arraylength, 1))
    (kk : W p l e R s m args below meth c H locs cells slots Q (F0 m (pc + 1) rl (.int (Int32.ofInt (shN h.1 a)) :: rest))) : W p l e R s m args below meth c H locs cells slots Q (F0 m pc rl (va_rf (rfo z0 oa a) :: rest)) := by
  obtain ⟨ha1, ha2⟩ := shp_valid (s := h.1) (a := a) (by omega)
  have hlen := (hwf.1 a ha1 ha2).1
  have hof : ∀ n : Nat, Int32.ofNat n = Int32.ofInt (n : Int) := fun n => (Int32.ofInt_eq_ofNat).symm
  rw [rfo_pos ha1]
  by_cases h6 : a ≤ 6
  · rcases STR_old hst ha1 h6 with ⟨k, k1, k2, rfl, -⟩ | ⟨-, q⟩ | ⟨rfl, -⟩
    · have hsh := hst.1 k k1 k2
      rw [rho_old (by omega)]
      refine va_tlen hx hb (hSW.1 k k1 k2) hS (v := Int32.ofInt (shN h.1 k)) ?_ hdg kk
      unfold shN
      rw [hsh.1, hof]
    · omega
    · rw [show rho z0 oa 6 = oa 6 from rho_old (k := 6) (by omega)]
      have hT := (hSW.2.2.2.2.2.2.1.1 0 (by decide)).2.2.2
      refine va_tlen hx hb hT hS (v := Int32.ofInt (shN h.1 6)) ?_ hdg kk
      unfold shN
      rw [hst.2.1]; rfl
  · have hcell := arr_P rfl (by omega) (hwd.2.2.2 a (by omega) ha2)
    have harr : ∃ ty : FieldType, ∀ (n : Nat) (f : Nat → Value), s.isArrayOf (arrV (ca (shK h.1 a)) n f) ty := by
      rcases (show shK h.1 a = 0 ∨ shK h.1 a = 1 ∨ shK h.1 a = 2 by omega) with q | q | q <;> rw [q]
      · exact ⟨_, (hSW.2.1.2 0 _ rfl).1⟩
      · exact ⟨_, (hSW.2.1.2 1 _ rfl).1⟩
      · exact ⟨_, (hSW.2.1.2 2 _ rfl).1⟩
    obtain ⟨ty, harr⟩ := harr
    exact W.alen (n := Int32.ofInt (shN h.1 a)) hx hb hcell (harr _ _) (by rw [arrV_size]; unfold shN; exact hof _) rfl rfl hdg kk
/-- behind a write into a new cell -/
theorem s_iast (hx : p.tables.exec = Jvm.exec) (hb : c.code = cc) (hSW : SW D z0 oa ca L xs s) (hwd : WD D z0 oa ca h H) (hwf : WF h) (hS : va_S (fun q => z0 ≤ q) s.heap H locs) (hk : shK h.1 a = 0) (h6 : 6 < a) (h0 : 0 ≤ j) (h1 : j < shN h.1 a) (hdg : decode cc pc = .ok (.iastore, 1))
    (kk : ∀ (H1 : Heap) (locs1 : List Loc), WD D z0 oa ca (h.1, up h.2 a j v) H1 → va_S (fun q => z0 ≤ q) s.heap H1 locs1 → W p l e R s m args below meth c H1 locs1 cells slots Q (F0 m (pc + 1) rl rest)) : W p l e R s m args below meth c H locs cells slots Q (F0 m pc rl (.int (Int32.ofInt v) :: .int (Int32.ofInt j) :: va_rf (rfo z0 oa a) :: rest)) := by
  obtain ⟨ha1, ha2⟩ := shp_valid (s := h.1) (a := a) (by rw [hk]; decide)
  have hlen := (hwf.1 a ha1 ha2).1
  unfold shN at h1
  rw [rfo_pos ha1]
  have hcell := arr_P hk (by decide) (hwd.2.2.2 a h6 ha2)
  refine W.iast hx hb hcell ((hSW.2.1.2 0 _ rfl).1 _ _) (fun q => by cases q) (by rw [arrV_size]; exact i_in h0 h1 hlen) rfl rfl hdg fun H1 e1 z1 o1 => ?_
  rw [i_clamp h0 (by omega), arrV_store] at e1
  refine kk H1 _ (WD_put hwd h6 z1 rfl o1 (fun b _ hb2 => ⟨rfl, fun j' => up_ne hb2⟩) (cell_arr (h' := (h.1, up h.2 a j v)) hk (by decide) e1 (avl_up h0 (by decide) ?_))) (hS.put z1 o1 (rho_ge h6))
  unfold avl
  rw [show ((j.toNat : Nat) : Int) = j by omega, up_eq]
  try rfl
theorem s_last (hx : p.tables.exec = Jvm.exec) (hb : c.code = cc) (hSW : SW D z0 oa ca L xs s) (hwd : WD D z0 oa ca h H) (hwf : WF h) (hS : va_S (fun q => z0 ≤ q) s.heap H locs) (hk : shK h.1 a = 1) (h6 : 6 < a) (h0 : 0 ≤ j) (h1 : j < shN h.1 a) (hdg : decode cc pc = .ok (.lastore, 1))
    (kk : ∀ (H1 : Heap) (locs1 : List Loc), WD D z0 oa ca (h.1, up h.2 a j v) H1 → va_S (fun q => z0 ≤ q) s.heap H1 locs1 → W p l e R s m args below meth c H1 locs1 cells slots Q (F0 m (pc + 1) rl rest)) : W p l e R s m args below meth c H locs cells slots Q (F0 m pc rl (.long (Int64.ofInt v) :: .int (Int32.ofInt j) :: va_rf (rfo z0 oa a) :: rest)) := by
  obtain ⟨ha1, ha2⟩ := shp_valid (s := h.1) (a := a) (by rw [hk]; decide)
  have hlen := (hwf.1 a ha1 ha2).1
  unfold shN at h1
  rw [rfo_pos ha1]
  have hcell := arr_P hk (by decide) (hwd.2.2.2 a h6 ha2)
  refine W.last hx hb hcell ((hSW.2.1.2 1 _ rfl).1 _ _) (fun q => by cases q) (by rw [arrV_size]; exact i_in h0 h1 hlen) rfl rfl hdg fun H1 e1 z1 o1 => ?_
  rw [i_clamp h0 (by omega), arrV_store] at e1
  refine kk H1 _ (WD_put hwd h6 z1 rfl o1 (fun b _ hb2 => ⟨rfl, fun j' => up_ne hb2⟩) (cell_arr (h' := (h.1, up h.2 a j v)) hk (by decide) e1 (avl_up h0 (by decide) ?_))) (hS.put z1 o1 (rho_ge h6))
  unfold avl
  rw [show ((j.toNat : Nat) : Int) = j by omega, up_eq]
  try rfl
theorem s_bast (hx : p.tables.exec = Jvm.exec) (hb : c.code = cc) (hSW : SW D z0 oa ca L xs s) (hwd : WD D z0 oa ca h H) (hwf : WF h) (hS : va_S (fun q => z0 ≤ q) s.heap H locs) (hk : shK h.1 a = 2) (h6 : 6 < a) (h0 : 0 ≤ j) (h1 : j < shN h.1 a) (hdg : decode cc pc = .ok (.bastore, 1))
    (kk : ∀ (H1 : Heap) (locs1 : List Loc), WD D z0 oa ca (h.1, up h.2 a j (v.bmod 256)) H1 → va_S (fun q => z0 ≤ q) s.heap H1 locs1 → W p l e R s m args below meth c H1 locs1 cells slots Q (F0 m (pc + 1) rl rest)) : W p l e R s m args below meth c H locs cells slots Q (F0 m pc rl (.int (Int32.ofInt v) :: .int (Int32.ofInt j) :: va_rf (rfo z0 oa a) :: rest)) := by
  obtain ⟨ha1, ha2⟩ := shp_valid (s := h.1) (a := a) (by rw [hk]; decide)
  have hlen := (hwf.1 a ha1 ha2).1
  unfold shN at h1
  rw [rfo_pos ha1]
  have hcell := arr_P hk (by decide) (hwd.2.2.2 a h6 ha2)
  refine W.bast hx hb hcell ((hSW.2.1.2 2 _ rfl).1 _ _) (fun q => by cases q) (by rw [arrV_size]; exact i_in h0 h1 hlen) rfl rfl hdg fun H1 e1 z1 o1 => ?_
  rw [i_clamp h0 (by omega), arrV_store] at e1
  have hnar : narrow .byte (.int (Int32.ofInt v)) = .int (Int32.ofInt (v.bmod 256)) := by
    rw [← i_b v]; rfl
  rw [hnar] at e1
  refine kk H1 _ (WD_put hwd h6 z1 rfl o1 (fun b _ hb2 => ⟨rfl, fun j' => up_ne hb2⟩) (cell_arr (h' := (h.1, up h.2 a j (v.bmod 256))) hk (by decide) e1 (avl_up h0 (by decide) ?_))) (hS.put z1 o1 (rho_ge h6))
  unfold avl
  rw [show ((j.toNat : Nat) : Int) = j by omega, up_eq]
  try rfl
theorem s_aast {ci kk0 : Nat} (hx : p.tables.exec = Jvm.exec) (hb : c.code = cc) (hSW : SW D z0 oa ca L xs s) (hwd : WD D z0 oa ca h H) (hwf : WF h) (hS : va_S (fun q => z0 ≤ q) s.heap H locs) (hk : shK h.1 a = kk0) (hk3 : 3 ≤ kk0 ∧ kk0 ≤ 5) (hci : ci = aci kk0) (h6 : 6 < a) (hv6 : 6 < v) (hkv : shK h.1 v = 10 + ci) (h0 : 0 ≤ j) (h1 : j < shN h.1 a) (hdg : decode cc pc = .ok (.aastore, 1))
    (kk : ∀ (H1 : Heap) (locs1 : List Loc), WD D z0 oa ca (shSet h.1 a j.toNat v, h.2) H1 → va_S (fun q => z0 ≤ q) s.heap H1 locs1 → W p l e R s m args below meth c H1 locs1 cells slots Q (F0 m (pc + 1) rl rest)) : W p l e R s m args below meth c H locs cells slots Q (F0 m pc rl (va_rf (rfo z0 oa v) :: .int (Int32.ofInt j) :: va_rf (rfo z0 oa a) :: rest)) := by
  obtain ⟨ha1, ha2⟩ := shp_valid (s := h.1) (a := a) (by omega)
  have hc13 : ci < 13 := by rw [hci]; unfold aci; split <;> (try split) <;> omega
  obtain ⟨hv1, hv2⟩ := shp_valid (s := h.1) (a := v) (by omega)
  have hlen := (hwf.1 a ha1 ha2).1
  have hrl := (hwf.1 a ha1 ha2).2.2.2.1 (by omega) (by omega)
  unfold shN at h1
  rw [rfo_pos ha1, rfo_pos hv1]
  have hcell := arr_P hk (by omega) (hwd.2.2.2 a h6 ha2)
  have hcn : cN (aci kk0) = aC kk0 := by
    rcases (show kk0 = 3 ∨ kk0 = 4 ∨ kk0 = 5 by omega) with q | q | q <;> rw [q] <;> rfl
  obtain ⟨r, hr⟩ : ∃ r, mcl[ci]? = some r := ⟨_, List.getElem?_eq_getElem (by exact hc13)⟩
  obtain ⟨cell, q1, q2, q3, -⟩ := obj_P hr hkv (hwd.2.2.2 v hv6 hv2)
  obtain ⟨-, hfc, kC, hkC, hkind⟩ := hSW.2.1.1 ci _ hr
  have hty : ArrOfT s (ca kk0) (.object (aC kk0)) ∧ va_RA s (ca kk0) (.object (aC kk0)) := by
    rcases (show kk0 = 3 ∨ kk0 = 4 ∨ kk0 = 5 by omega) with q | q | q <;> rw [q]
    · exact hSW.2.1.2 3 _ rfl
    · exact hSW.2.1.2 4 _ rfl
    · exact hSW.2.1.2 5 _ rfl
  obtain ⟨kA, comp, f1, f2, f3, -⟩ := hty.2
  have ecomp : comp = D.1 ci := by
    rw [mcl_nm1 hr, hci, hcn] at hfc
    rw [← hci] at hfc
    exact Option.some.inj (f3.symm.trans hfc)
  refine W.aast hx hb (cell := arrV (ca kk0) (shp h.1 a).2.1 (avl z0 oa h.2 a kk0 (shp h.1 a).2.2)) hcell (fun _ q => by cases q) (fun q => by cases q) f1 f2 rfl (by rw [ecomp]; exact hkC) ⟨by rw [i_lt0 (by unfold r32; omega)]; omega, by rw [arrV_size, i_clamp h0 (by omega)]; omega⟩ q1 (fun _ q => by rw [q3] at q; cases q) (by rw [q2]; exact hkC) (by rw [q2, ecomp]; exact va_assign ⟨hfc, kC, hkC, hkind⟩) rfl rfl hdg fun H1 e1 z1 o1 => ?_
  rw [i_clamp h0 (by omega), arrV_store] at e1
  have hsa : shp (shSet h.1 a j.toNat v) a = ((shp h.1 a).1, (shp h.1 a).2.1, (shp h.1 a).2.2.set j.toNat v) := by rw [shp_set ha1 ha2 ha1, if_pos rfl]
  refine kk H1 _ (WD_put hwd h6 z1 (by unfold shSet; simp) o1 (fun b hb1 hb2 => ⟨by rw [shp_set ha1 ha2 hb1, if_neg hb2], fun _ => rfl⟩) (cell_arr (h' := (shSet h.1 a j.toNat v, h.2)) (k := kk0) (by unfold shK; rw [hsa]; exact hk) (by omega) (by rw [hsa]; exact e1) ?_)) (hS.put z1 o1 (rho_ge h6))
  funext i
  rw [hsa]
  have hav : ∀ rs : List Int, ∀ i : Nat, avl z0 oa h.2 a kk0 rs i = va_rf (rfo z0 oa (rs.getD i 0)) := by
    intro rs i
    rcases (show kk0 = 3 ∨ kk0 = 4 ∨ kk0 = 5 by omega) with q | q | q <;> rw [q] <;> rfl
  unfold updV
  by_cases ei : i = j.toNat
  · rw [if_pos ei, hav, ei]
    simp only
    rw [List.getD_eq_getElem?_getD, List.getElem?_set_self (by rw [hrl]; omega)]
    rw [Option.getD_some, rfo_pos hv1]
  · rw [if_neg ei, hav, hav]
    simp only
    rw [List.getD_eq_getElem?_getD, List.getD_eq_getElem?_getD, List.getElem?_set_ne (fun q => ei q.symm)]
theorem tcode_obj (ci k : Nat) : tcode (10 + ci) (k : Int) = ftc ci k := by
  unfold tcode
  rw [if_neg (by omega), if_neg (by omega), Nat.add_sub_cancel_left]
  rfl
theorem new_obj {h : MH} {a : Int} {ci : Nat} (hst : STR L xs h) (hk : shK h.1 a = 10 + ci) (hc : ci < 13) : 6 < a ∧ a ≤ h.1.length := by
  obtain ⟨ha1, ha2⟩ := shp_valid (s := h.1) (a := a) (by omega)
  refine ⟨?_, ha2⟩
  by_cases h6 : a ≤ 6
  · rcases STR_old hst ha1 h6 with ⟨k, k1, k2, -, q⟩ | ⟨-, q⟩ | ⟨-, q⟩ <;> omega
  · omega
/-- what a field's code says of its type -/
theorem fc_int {q : String × String × String × Bool} (h : fcOk q 0 = true) : parseFieldDescriptor q.2.2.1 = some .int ∧ q.2.2.2 = false := by
  unfold fcOk at h; simp only [Bool.and_eq_true, decide_eq_true_eq, Bool.not_eq_true'] at h; exact h
theorem fc_long {q : String × String × String × Bool} (h : fcOk q 1 = true) : parseFieldDescriptor q.2.2.1 = some .long ∧ q.2.2.2 = false := by
  unfold fcOk at h; simp only [Bool.and_eq_true, decide_eq_true_eq, Bool.not_eq_true'] at h; exact h
theorem fc_bool {q : String × String × String × Bool} (h : fcOk q 4 = true) : parseFieldDescriptor q.2.2.1 = some .boolean ∧ q.2.2.2 = false := by
  unfold fcOk at h; simp only [Bool.and_eq_true, decide_eq_true_eq, Bool.not_eq_true'] at h; exact h
theorem ref_fit {ty : FieldType} (h : ty.isReference = true) (r : Option Nat) : narrow ty (va_rf r) = va_rf r ∧ fits ty (va_rf r) = true := by
  cases r <;> cases ty <;> first | exact ⟨rfl, rfl⟩ | cases h
theorem fc_ref {q : String × String × String × Bool} (h : fcOk q 2 = true) : ∃ ty : FieldType, parseFieldDescriptor q.2.2.1 = some ty ∧ ty.isReference = true ∧ q.2.2.2 = false := by
  unfold fcOk at h; simp only [Bool.and_eq_true, Bool.not_eq_true'] at h
  obtain ⟨h1, h2⟩ := h
  split at h1
  · rename_i ty he; exact ⟨ty, he, h1, h2⟩
  · cases h1
theorem fc_fin {q : String × String × String × Bool} (h : fcOk q 3 = true) : ∃ ty : FieldType, parseFieldDescriptor q.2.2.1 = some ty ∧ ty.isReference = true ∧ q.2.2.2 = true := by
  unfold fcOk at h; simp only [Bool.and_eq_true] at h
  obtain ⟨h1, h2⟩ := h
  split at h1
  · rename_i ty he; exact ⟨ty, he, h1, h2⟩
  · cases h1
theorem fc_lt {q : String × String × String × Bool} {f : Nat} (h : fcOk q f = true) : f = 0 ∨ f = 1 ∨ f = 2 ∨ f = 3 ∨ f = 4 := by
  unfold fcOk at h
  split at h <;> first | omega | cases h
theorem s_put {ci k : Nat} {r : vw_C} {val : Value} {ty : FieldType} (hx : p.tables.exec = Jvm.exec) (hb : c.code = cc) (hown : s.vm.findClass own = some m.cls) (hts : ∀ w ∈ GT, w.before args s = true) (hSW : SW D z0 oa ca L xs s) (hwd : WD D z0 oa ca h H) (hst : STR L xs h) (hS : va_S (fun q => z0 ≤ q) s.heap H locs) (hc : mcl[ci]? = some r) (hk : shK h.1 a = 10 + ci) (hkr : k < r.2.2)
    (hlink : Cond.fieldLink own idx r.1 (r.2.1 k).2.1 (r.2.1 k).2.2.1 ∈ lw_tbl) (hfin : (r.2.1 k).2.2.2 = false) (hd : parseFieldDescriptor (r.2.1 k).2.2.1 = some ty) (hn : narrow ty val = val) (hfit : fits ty val = true) (hval : fvl z0 oa (up h.2 a k v) a ci (shp h.1 a).2.2 k = val) (hdg : decode cc pc = .ok (.putfield idx, 3))
    (kk : ∀ (H1 : Heap) (locs1 : List Loc), WD D z0 oa ca (h.1, up h.2 a k v) H1 → va_S (fun q => z0 ≤ q) s.heap H1 locs1 → W p l e R s m args below meth c H1 locs1 cells slots Q (F0 m (pc + 3) rl rest)) : W p l e R s m args below meth c H locs cells slots Q (F0 m pc rl (val :: va_rf (rfo z0 oa a) :: rest)) := by
  obtain ⟨h6, ha2⟩ := new_obj hst hk (mcl_lt hc)
  rw [rfo_pos (by omega)]
  refine sim_put hx hb hown hts hSW.2.1 hc hk (hwd.2.2.2 a h6 ha2) hkr hlink hfin hd hn hfit hdg fun H1 e1 z1 o1 => ?_
  exact kk H1 _ (WD_put hwd h6 z1 rfl o1 (fun b _ hb2 => ⟨rfl, fun j' => up_ne hb2⟩) (cell_fld (h := h) (h' := (h.1, up h.2 a k v)) (v := val) hc hk e1 (fun j _ => fvl_up (fun j ej => by rw [ej]; exact hval) j))) (hS.put z1 o1 (rho_ge h6))
theorem s_putF {ci k : Nat} {r : vw_C} {ty : FieldType} (hx : p.tables.exec = Jvm.exec) (hb : c.code = cc) (hown : s.vm.findClass own = some m.cls) (hts : ∀ w ∈ GT, w.before args s = true) (hSW : SW D z0 oa ca L xs s) (hwd : WD D z0 oa ca h H) (hwf : WF h) (hst : STR L xs h) (hS : va_S (fun q => z0 ≤ q) s.heap H locs) (hc : mcl[ci]? = some r) (hk : shK h.1 a = 10 + ci) (hkr : k < r.2.2)
    (hlink : Cond.fieldLink own idx r.1 (r.2.1 k).2.1 (r.2.1 k).2.2.1 ∈ lw_tbl) (hfin : (r.2.1 k).2.2.2 = true) (hin2 : meth.name = "<init>") (hdecl : r.1 = own) (hd : parseFieldDescriptor (r.2.1 k).2.2.1 = some ty) (hty : ty.isReference = true) (hf3 : ftc ci k = 3) (hdg : decode cc pc = .ok (.putfield idx, 3))
    (kk : ∀ (H1 : Heap) (locs1 : List Loc), WD D z0 oa ca (shSet h.1 a k v, h.2) H1 → va_S (fun q => z0 ≤ q) s.heap H1 locs1 → W p l e R s m args below meth c H1 locs1 cells slots Q (F0 m (pc + 3) rl rest)) : W p l e R s m args below meth c H locs cells slots Q (F0 m pc rl (va_rf (rfo z0 oa v) :: va_rf (rfo z0 oa a) :: rest)) := by
  obtain ⟨h6, ha2⟩ := new_obj hst hk (mcl_lt hc)
  have ha1 : 1 ≤ a := by omega
  have hrl := (hwf.1 a ha1 ha2).2.2.2.2 (by omega) (by have := mcl_lt hc; omega)
  rw [hk, Nat.add_sub_cancel_left, ← mcl_n hc] at hrl
  rw [rfo_pos (a := a) (by omega)]
  refine sim_putF hx hb hown hts hSW.2.1 hc hk (hwd.2.2.2 a h6 ha2) hkr hlink hfin hin2 hdecl hd (ref_fit hty _).1 (ref_fit hty _).2 hdg fun H1 e1 z1 o1 => ?_
  have hsa : shp (shSet h.1 a k v) a = ((shp h.1 a).1, (shp h.1 a).2.1, (shp h.1 a).2.2.set k v) := by rw [shp_set ha1 ha2 ha1, if_pos rfl]
  refine kk H1 _ (WD_put hwd h6 z1 (by unfold shSet; simp) o1 (fun b hb1 hb2 => ⟨by rw [shp_set ha1 ha2 hb1, if_neg hb2], fun _ => rfl⟩) (cell_fld (h := h) (h' := (shSet h.1 a k v, h.2)) hc (by unfold shK; rw [hsa]; exact hk) e1 (fun j hj => ?_))) (hS.put z1 o1 (rho_ge h6))
  rw [hsa]
  unfold updV
  by_cases ej : j = k
  · rw [if_pos ej, ej]
    unfold fvl
    rw [hf3]
    simp only
    rw [List.getD_eq_getElem?_getD, List.getElem?_set_self (by rw [hrl]; exact hkr)]
    rfl
  · rw [if_neg ej]
    unfold fvl
    simp only
    rw [List.getD_eq_getElem?_getD, List.getD_eq_getElem?_getD, List.getElem?_set_ne (fun q => ej q.symm)]
theorem s_new {ci : Nat} {r : vw_C} (hx : p.tables.exec = Jvm.exec) (hb : c.code = cc) (hown : s.vm.findClass own = some m.cls) (hts : ∀ w ∈ GT, w.before args s = true) (hSW : SW D z0 oa ca L xs s) (hwd : WD D z0 oa ca h H) (hwf : WF h) (hS : va_S (fun q => z0 ≤ q) s.heap H locs) (hc : mcl[ci]? = some r) (hcl : Cond.classLink own idx r.1 ∈ lw_tbl) (hins : Cond.instantiable r.1 r.2.2 ∈ lw_tbl) (hini : Cond.initialized r.1 ∈ lw_tbl)
    (hcells : cells + 1 ≤ R.cells) (hslots : slots + r.2.2 ≤ R.slots) (hdg : decode cc pc = .ok (.new idx, 3))
    (kk : ∀ (H1 : Heap), WD D z0 oa ca (h.1 ++ [(10 + ci, r.2.2, List.replicate r.2.2 0)], h.2) H1 → va_S (fun q => z0 ≤ q) s.heap H1 locs → W p l e R s m args below meth c H1 locs (cells + 1) (slots + r.2.2) Q (F0 m (pc + 3) rl (va_rf (rfo z0 oa ((h.1.length + 1 : Nat) : Int)) :: rest))) : W p l e R s m args below meth c H locs cells slots Q (F0 m pc rl rest) := by
  have hKn := hSW.2.1.1 ci _ hc
  obtain ⟨ty0, hty⟩ := mcl_ty hc
  refine W.newcK hx hb hown (hts _ (gt hcl rfl)) (hts _ (gt hins rfl)) (hts _ (gt hini rfl)) rfl hdg hcells hslots hKn.2.1 rfl fun H1 kC hkC e1 z1 o1 => ?_
  have hrn := rho_next hwd
  have hob := u_born (o := H.size) (H := H1) ty0 hts (mcl_gt hc) hKn hkC e1 hty
  refine W.eq (g2 := F0 m (pc + 3) rl (va_rf (rfo z0 oa ((h.1.length + 1 : Nat) : Int)) :: rest)) (by rw [rfo_pos (by omega), hrn]) ?_
  refine kk H1 (WD_push hwd z1 o1 ?_) ⟨by rw [z1]; have := hS.1; omega, fun q g1 g2 => by rw [o1 q (by have := hS.1; omega)]; exact hS.2.1 q g1 g2, hS.2.2⟩
  unfold cellAt
  have hsn : shp (h.1 ++ [(10 + ci, r.2.2, List.replicate r.2.2 0)]) ((h.1.length + 1 : Nat) : Int) = (10 + ci, r.2.2, List.replicate r.2.2 0) := shp_new
  have hkn : shK (h.1 ++ [(10 + ci, r.2.2, List.replicate r.2.2 0)]) ((h.1.length + 1 : Nat) : Int) = 10 + ci := by unfold shK; rw [hsn]
  simp only [hkn]
  rw [if_neg (by omega), Nat.add_sub_cancel_left, hrn, ← mcl_n hc]
  refine hob.to (fun j hj => ?_)
  have hfc := mcl_fc hc j hj
  unfold fvl
  rw [hsn]
  have hz : h.2 ((h.1.length + 1 : Nat) : Int) j = 0 := hwf.2 _ _ (by omega)
  rcases fc_lt hfc with q | q | q | q | q <;> rw [q] at hfc ⊢ <;> simp only [hz]
  · have := (fc_int hfc).1; rw [hty j hj] at this; rw [Option.some.inj this]; rfl
  · have := (fc_long hfc).1; rw [hty j hj] at this; rw [Option.some.inj this]; rfl
  · obtain ⟨ty, g1, g2, -⟩ := fc_ref hfc
    rw [hty j hj] at g1; cases g1
    revert g2; cases ty0 j <;> intro g2 <;> first | rfl | cases g2
  · obtain ⟨ty, g1, g2, -⟩ := fc_fin hfc
    rw [hty j hj] at g1; cases g1
    rw [List.getD_eq_getElem?_getD, List.getElem?_replicate, if_pos hj]
    revert g2; cases ty0 j <;> intro g2 <;> first | rfl | cases g2
  · have := (fc_bool hfc).1; rw [hty j hj] at this; rw [Option.some.inj this]; rfl
theorem s_newa {atype : ArrayType} {k : Nat} {n : Int} {ty : FieldType} (hat : newarray.typeOf atype = ty) (hkt : (k = 0 ∧ ty = .int) ∨ (k = 1 ∧ ty = .long) ∨ (k = 2 ∧ ty = .byte)) (hx : p.tables.exec = Jvm.exec) (hb : c.code = cc) (hts : ∀ w ∈ GT, w.before args s = true) (hSW : SW D z0 oa ca L xs s) (hwd : WD D z0 oa ca h H) (hwf : WF h) (hS : va_S (fun q => z0 ≤ q) s.heap H locs)
    (h0 : 0 ≤ n) (h1 : n < 100000) (hcells : cells + 1 ≤ R.cells) (hslots : slots + n.toNat ≤ R.slots) (hdg : decode cc pc = .ok (.newarray atype, 2))
    (kk : ∀ (H1 : Heap), WD D z0 oa ca (h.1 ++ [(k, n.toNat, [])], h.2) H1 → va_S (fun q => z0 ≤ q) s.heap H1 locs → W p l e R s m args below meth c H1 locs (cells + 1) (slots + n.toNat) Q (F0 m (pc + 2) rl (va_rf (rfo z0 oa ((h.1.length + 1 : Nat) : Int)) :: rest))) : W p l e R s m args below meth c H locs cells slots Q (F0 m pc rl (.int (Int32.ofInt n) :: rest)) := by
  have harr : Cond.arrayClass ty ∈ lw_tbl := by
    rcases hkt with ⟨-, q⟩ | ⟨-, q⟩ | ⟨-, q⟩ <;> rw [q]
    · exact arr_int
    · exact arr_long
    · exact arr_byte
  have hbyt : n.toNat * componentBytes ty ≤ 536870912 := by
    have : componentBytes ty ≤ 8 := by rcases hkt with ⟨-, q⟩ | ⟨-, q⟩ | ⟨-, q⟩ <;> rw [q] <;> decide
    calc n.toNat * componentBytes ty ≤ n.toNat * 8 := Nat.mul_le_mul_left _ this
      _ ≤ 536870912 := by omega
  subst hat
  refine va_newaK hx hb (hts _ (gt harr rfl)) rfl hdg rfl (by rw [i_lt0 (by unfold r32; omega)]; omega) (i_clamp h0 (by omega)) hbyt hcells hslots rfl fun H1 cA e1 z1 o1 hAr hNm => ?_
  have hrn := rho_next hwd
  refine W.eq (g2 := F0 m (pc + 2) rl (va_rf (rfo z0 oa ((h.1.length + 1 : Nat) : Int)) :: rest)) (by rw [rfo_pos (by omega), hrn]) ?_
  refine kk H1 (WD_push hwd z1 o1 ?_) ⟨by rw [z1]; have := hS.1; omega, fun q g1 g2 => by rw [o1 q (by have := hS.1; omega)]; exact hS.2.1 q g1 g2, hS.2.2⟩
  have hsn : shp (h.1 ++ [(k, n.toNat, [])]) ((h.1.length + 1 : Nat) : Int) = (k, n.toNat, []) := shp_new
  have hcA : cA = ca k := by
    rcases hkt with ⟨rfl, q⟩ | ⟨rfl, q⟩ | ⟨rfl, q⟩
    · have := (hSW.2.1.2 0 _ rfl).2; rw [q] at hNm; exact Option.some.inj (hNm.symm.trans this)
    · have := (hSW.2.1.2 1 _ rfl).2; rw [q] at hNm; exact Option.some.inj (hNm.symm.trans this)
    · have := (hSW.2.1.2 2 _ rfl).2; rw [q] at hNm; exact Option.some.inj (hNm.symm.trans this)
  refine cell_arr (h' := (h.1 ++ [(k, n.toNat, [])], h.2)) (k := k) (by unfold shK; rw [hsn]) (by omega) (by rw [hsn, hrn, ← hcA]; exact e1) ?_
  funext i
  have hz : h.2 ((h.1.length + 1 : Nat) : Int) i = 0 := hwf.2 _ _ (by omega)
  unfold avl
  rcases hkt with ⟨rfl, q⟩ | ⟨rfl, q⟩ | ⟨rfl, q⟩ <;> rw [q] <;> simp only [hz] <;> rfl
theorem s_anew {k : Nat} {n : Int} (hk : 3 ≤ k ∧ k ≤ 5) (hx : p.tables.exec = Jvm.exec) (hb : c.code = cc) (hown : s.vm.findClass own = some m.cls) (hts : ∀ w ∈ GT, w.before args s = true) (hSW : SW D z0 oa ca L xs s) (hwd : WD D z0 oa ca h H) (hS : va_S (fun q => z0 ≤ q) s.heap H locs) (hcl : Cond.classLink own idx (aC k) ∈ lw_tbl)
    (h0 : 0 ≤ n) (h1 : n < 100000) (hcells : cells + 1 ≤ R.cells) (hslots : slots + n.toNat ≤ R.slots) (hdg : decode cc pc = .ok (.anewarray idx, 3))
    (kk : ∀ (H1 : Heap), WD D z0 oa ca (h.1 ++ [(k, n.toNat, List.replicate n.toNat 0)], h.2) H1 → va_S (fun q => z0 ≤ q) s.heap H1 locs → W p l e R s m args below meth c H1 locs (cells + 1) (slots + n.toNat) Q (F0 m (pc + 3) rl (va_rf (rfo z0 oa ((h.1.length + 1 : Nat) : Int)) :: rest))) : W p l e R s m args below meth c H locs cells slots Q (F0 m pc rl (.int (Int32.ofInt n) :: rest)) := by
  have hcla := i_clamp h0 (show n < 2147483648 by omega)
  refine W.anew hx hb hown (hts _ (gt hcl rfl)) (va_AO.use (hSW.2.2.2.2.1 k hk.1 hk.2)) rfl hdg rfl (by rw [i_lt0 (by unfold r32; omega)]; omega) (by rw [hcla]; omega) hcells (by rw [hcla]; exact hslots) fun cA kA comp f1 f2 f3 f4 => ?_
  rw [hcla]
  generalize hH1 : H.push ({ cls := cA, slots := Array.replicate n.toNat .null, vm := .none } : Cell) = H1
  have z1 : H1.size = H.size + 1 := by rw [← hH1, Array.size_push]
  have e1 : H1[H.size]? = some (arrV cA n.toNat (fun _ => .null)) := by rw [← hH1, Array.getElem?_push_size, ← arrV_new]
  have o1 : ∀ q : Nat, q < H.size → H1[q]? = H[q]? := fun q hq => by rw [← hH1, Array.getElem?_push, if_neg (Nat.ne_of_lt hq)]
  have hrn := rho_next hwd
  refine W.eq (g2 := F0 m (pc + 3) rl (va_rf (rfo z0 oa ((h.1.length + 1 : Nat) : Int)) :: rest)) (by rw [rfo_pos (by omega), hrn]) ?_
  refine kk H1 (WD_push hwd z1 o1 ?_) ⟨by rw [z1]; have := hS.1; omega, fun q g1 g2 => by rw [o1 q (by have := hS.1; omega)]; exact hS.2.1 q g1 g2, hS.2.2⟩
  have hsn : shp (h.1 ++ [(k, n.toNat, List.replicate n.toNat 0)]) ((h.1.length + 1 : Nat) : Int) = (k, n.toNat, List.replicate n.toNat 0) := shp_new
  have hcA : cA = ca k := by
    rcases (show k = 3 ∨ k = 4 ∨ k = 5 by omega) with q | q | q
    · obtain ⟨_, _, -, -, -, g4⟩ := (hSW.2.1.2 3 _ rfl).2; rw [q] at f1 ⊢; exact Option.some.inj (f1.symm.trans g4)
    · obtain ⟨_, _, -, -, -, g4⟩ := (hSW.2.1.2 4 _ rfl).2; rw [q] at f1 ⊢; exact Option.some.inj (f1.symm.trans g4)
    · obtain ⟨_, _, -, -, -, g4⟩ := (hSW.2.1.2 5 _ rfl).2; rw [q] at f1 ⊢; exact Option.some.inj (f1.symm.trans g4)
  refine cell_arr (h' := (h.1 ++ [(k, n.toNat, List.replicate n.toNat 0)], h.2)) (k := k) (by unfold shK; rw [hsn]) (by omega) (by rw [hsn, hrn, ← hcA]; exact e1) ?_
  funext i
  rw [hsn]
  have hrep : (List.replicate n.toNat (0 : Int)).getD i 0 = 0 := by
    rw [List.getD_eq_getElem?_getD, List.getElem?_replicate]; split <;> rfl
  unfold avl
  rcases (show k = 3 ∨ k = 4 ∨ k = 5 by omega) with q | q | q <;> rw [q] <;> simp only [hrep] <;> rfl
theorem s_gets {k : Nat} (hk : 1 ≤ k ∧ k ≤ 3) (hx : p.tables.exec = Jvm.exec) (hb : c.code = cc) (hown : s.vm.findClass own = some m.cls) (hts : ∀ w ∈ GT, w.before args s = true) (hSW : SW D z0 oa ca L xs s) (hS : va_S (fun q => z0 ≤ q) s.heap H locs)
    (hl : Cond.fieldLink own idx "EmptyChairs" (stN k) "[I" ∈ lw_tbl ∨ Cond.fieldLinkNest own idx "EmptyChairs" (stN k) "[I" "EmptyChairs" ∈ nstL) (hdg : decode cc pc = .ok (.getstatic idx, 3))
    (kk : W p l e R s m args below meth c H locs cells slots Q (F0 m (pc + 3) rl (va_rf (rfo z0 oa (k : Int)) :: rest))) : W p l e R s m args below meth c H locs cells slots Q (F0 m pc rl rest) := by
  rw [rfo_pos (by omega), rho_old (by omega)] at kk
  rcases hl with hl | hl
  · exact va_gets hx hb (hSW.2.2.1 k hk.1 hk.2) hS hown (hts _ (gt hl rfl)) (fun _ q => q) hdg kk
  · exact va_getsN hx hb (hSW.2.2.1 k hk.1 hk.2) hS hown (va_Nw.use (nst_tab _ hl) (hSW.2.2.2.1 _ hl)) (fun _ q => q) hdg kk
theorem s_copy {src sp dst dp n : Int} (hx : p.tables.exec = Jvm.exec) (hb : c.code = cc) (hml : c.maxLocals = rl.size) (hown : s.vm.findClass own = some m.cls) (hts : ∀ w ∈ GT, w.before args s = true) (hlink : Cond.methodLink own idx arraycopyName ∈ lw_tbl) (hSW : SW D z0 oa ca L xs s) (hwd : WD D z0 oa ca h H) (hwf : WF h) (hst : STR L xs h) (hS : va_S (fun q => z0 ≤ q) s.heap H locs)
    (hk1 : shK h.1 src ≤ 1) (hk2 : shK h.1 dst = shK h.1 src) (h6 : 6 < dst) (g1 : 0 ≤ sp) (g2 : 0 ≤ dp) (g3 : 0 ≤ n) (g4 : sp + n ≤ shN h.1 src) (g5 : dp + n ≤ shN h.1 dst) (hrest : (rest.map fun v => v.category).sum ≤ 8) (hframes : 1 ≤ R.frames) (hlocals : 60 ≤ R.locals) (hdg : decode cc pc = .ok (.invokestatic idx, 3))
    (kk : ∀ (H1 : Heap) (locs1 : List Loc), WD D z0 oa ca (h.1, cpy h.2 src sp dst dp n) H1 → va_S (fun q => z0 ≤ q) s.heap H1 locs1 → W p l e R s m args below meth c H1 locs1 cells slots Q (F0 m (pc + 3) rl rest)) : W p l e R s m args below meth c H locs cells slots Q (F0 m pc rl (.int (Int32.ofInt n) :: .int (Int32.ofInt dp) :: va_rf (rfo z0 oa dst) :: .int (Int32.ofInt sp) :: va_rf (rfo z0 oa src) :: rest)) := by
  obtain ⟨hs1, hs2⟩ := shp_valid (s := h.1) (a := src) (by omega)
  obtain ⟨hd1, hd2⟩ := shp_valid (s := h.1) (a := dst) (by omega)
  have hls := (hwf.1 src hs1 hs2).1
  have hld := (hwf.1 dst hd1 hd2).1
  unfold shN at g4 g5
  have hnw : nativeFrameWords "java/lang/System" "arraycopy" 5 + 11 ≤ 50 := by decide +kernel
  have nl : ∀ z : Int, 0 ≤ z → z < 2147483648 → ¬ Int32.ofInt z < 0 := fun z q1 q2 => by rw [i_lt0 (by unfold r32; omega)]; omega
  have cl : ∀ z : Int, 0 ≤ z → z < 2147483648 → (Int32.ofInt z).toNatClampNeg = z.toNat := fun z q1 q2 => i_clamp q1 q2
  have hdc := arr_P rfl (by omega) (hwd.2.2.2 dst h6 hd2)
  rw [rfo_pos hs1, rfo_pos hd1]
  have fin : ∀ (H1 : Heap) (locs1 : List Loc), H1[rho z0 oa dst]? = some (arrV (ca (shK h.1 dst)) (shp h.1 dst).2.1 (avl z0 oa (cpy h.2 src sp dst dp n) dst (shK h.1 dst) (shp h.1 dst).2.2)) → H1.size = H.size → (∀ q, q ≠ rho z0 oa dst → H1[q]? = H[q]?) → (∀ q ∈ locs1, q ∈ locs ∨ q.base = rho z0 oa dst) → W p l e R s m args below meth c H1 locs1 cells slots Q (F0 m (pc + 3) rl rest) := by
    intro H1 locs1 e1 z1 o1 l1
    refine kk H1 locs1 (WD_put hwd h6 z1 rfl o1 (fun b _ hb2 => ⟨rfl, fun j' => cpy_ne hb2⟩) (cell_arr (h' := (h.1, cpy h.2 src sp dst dp n)) rfl (by show shK h.1 dst ≤ 5; omega) e1 rfl)) ⟨by rw [z1]; exact hS.1, fun q q1 q2 => ?_, fun q hq => ?_⟩
    · rw [o1 q (fun eq => q2 (by rw [eq]; exact rho_ge h6))]; exact hS.2.1 q q1 q2
    · rcases l1 q hq with q1 | q1
      · exact hS.2.2 q q1
      · show z0 ≤ q.base; rw [q1]; exact rho_ge h6
  have cpe : ∀ i : Nat, cpy h.2 src sp dst dp n dst i = if dp.toNat ≤ i ∧ i < dp.toNat + n.toNat then h.2 src ((sp.toNat + (i - dp.toNat) : Nat) : Int) else h.2 dst i := by
    intro i
    unfold cpy
    by_cases q : dp.toNat ≤ i ∧ i < dp.toNat + n.toNat
    · rw [if_pos q, if_pos ⟨rfl, by omega, by omega⟩, show sp + ((i : Int) - dp) = ((sp.toNat + (i - dp.toNat) : Nat) : Int) by omega]
    · rw [if_neg q, if_neg (fun k => q ⟨by omega, by omega⟩)]
  rcases (show shK h.1 src = 0 ∨ shK h.1 src = 1 by omega) with ks | ks
  · have kd : shK h.1 dst = 0 := by omega
    rw [kd] at hdc fin
    have hsrc : ∃ cs : Cell, H[rho z0 oa src]? = some cs ∧ s.isArrayOf cs .int ∧ cs.vm ≠ .unknown ∧ (shp h.1 src).2.1 ≤ cs.slots.size ∧ ∀ i, i < (shp h.1 src).2.1 → cs.slots[i]? = some (.int (Int32.ofInt (h.2 src i))) := by
      by_cases s6 : src ≤ 6
      · rcases STR_old hst hs1 s6 with ⟨k, k1, k2, rfl, -⟩ | ⟨-, q⟩ | ⟨-, q⟩
        · obtain ⟨cell, t1, t2, t3, t4, t5, t6, t7⟩ := hSW.1 k k1 k2
          have hsh := hst.1 k k1 k2
          rw [hsh.1, rho_old (by omega)]
          exact ⟨cell, by rw [hS.2.1 _ (Array.getElem?_eq_some_iff.mp t1).1 t7]; exact t1, t2, t3, t4, fun i hi => by rw [t6 i hi, hsh.2 i hi]⟩
        · omega
        · omega
      · have := arr_P ks (by decide) (hwd.2.2.2 src (by omega) hs2)
        exact ⟨_, this, (hSW.2.1.2 0 _ rfl).1 _ _, (fun q => by cases q), by rw [arrV_size]; exact Nat.le_refl _, fun i hi => by rw [arrV_read _ _ hi]; rfl⟩
    obtain ⟨cs, c1, c2, c3, c4, c5⟩ := hsrc
    refine sim_copy_int (cA := ca 0) (g := fun i => Int32.ofInt (h.2 dst i)) hx hb hml hown hts hlink hSW.2.1 0 rfl c1 c2 c3 c4 c5 hdc (nl sp g1 (by omega)) (nl dp g2 (by omega)) (nl n g3 (by omega)) (by rw [cl sp g1 (by omega), cl n g3 (by omega)]; omega) (by rw [cl dp g2 (by omega), cl n g3 (by omega)]; omega) hframes (by omega) hdg fun H1 locs1 e1 z1 o1 l1 => ?_
    refine fin H1 locs1 ?_ z1 o1 l1
    rw [e1, cl sp g1 (by omega), cl dp g2 (by omega), cl n g3 (by omega)]
    congr 2
    funext i
    show _ = Value.int (Int32.ofInt (cpy h.2 src sp dst dp n dst i))
    rw [cpe i]
    unfold va_cpy
    split <;> rfl
  · have kd : shK h.1 dst = 1 := by omega
    rw [kd] at hdc fin
    have s6 : 6 < src := by
      by_cases s6 : src ≤ 6
      · rcases STR_old hst hs1 s6 with ⟨k, k1, k2, rfl, q⟩ | ⟨-, q⟩ | ⟨-, q⟩ <;> omega
      · omega
    have hsc := arr_P ks (by decide) (hwd.2.2.2 src s6 hs2)
    refine sim_copy_long (cA := ca 1) (f := fun i => Int64.ofInt (h.2 src i)) (g := fun i => Int64.ofInt (h.2 dst i)) hx hb hml hown hts hlink hSW.2.1 1 rfl hsc ((hSW.2.1.2 1 _ rfl).1 _ _) (fun q => by cases q) (by rw [arrV_size]; exact Nat.le_refl _) (fun i hi => by rw [arrV_read _ _ hi]; rfl) hdc (nl sp g1 (by omega)) (nl dp g2 (by omega)) (nl n g3 (by omega)) (by rw [cl sp g1 (by omega), cl n g3 (by omega)]; omega) (by rw [cl dp g2 (by omega), cl n g3 (by omega)]; omega) hframes (by omega) hdg fun H1 locs1 e1 z1 o1 l1 => ?_
    refine fin H1 locs1 ?_ z1 o1 l1
    rw [e1, cl sp g1 (by omega), cl dp g2 (by omega), cl n g3 (by omega)]
    congr 2
    funext i
    show _ = Value.long (Int64.ofInt (cpy h.2 src sp dst dp n dst i))
    rw [cpe i]
    unfold va_cpy
    split <;> rfl
end Mem
