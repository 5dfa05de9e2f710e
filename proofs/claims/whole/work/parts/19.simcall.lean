/-! ===== calls ===== -/
theorem rmd_f (d a b : Nat) : (rmd d a b).frames = d + 8 := rfl
theorem rmd_l (d a b : Nat) : (rmd d a b).locals = 60 * (d + 8) := rfl
set_option maxRecDepth 10000 in
theorem room_l {x d Rl : Nat} (h : x ≤ 20) (h2 : 60 * (d + 9) ≤ Rl) : 8 + (x + 11) + 60 * (d + 8) ≤ Rl := by omega
def inits : List Nat := (List.range 372).filter (fun mi => decide ((yN mi).name = "<init>"))
def okV (e : MI) : Bool := match e.2.1 with
  | .invokevirtual _ => decide (e.2.2.2.1.1 ≥ 900) || !decide ((yN e.2.2.2.1.1).name = "<init>")
  | .invokespecial _ => decide (e.2.2.2.1.1 = 901) || decide ((yN e.2.2.2.1.1).name = "<init>")
  | _ => true
theorem cat_sum (l : List Value) : (l.map fun v => v.category).sum ≤ 2 * l.length := by
  induction l with
  | nil => simp
  | cons a r ih =>
    simp only [List.map_cons, List.sum_cons, List.length_cons]
    have : a.category ≤ 2 := by cases a <;> simp [Value.category]
    omega
theorem split_args {f : MV → Value} {st : List MV} {y : Nat} {b : MV} {av' : List MV} (he : (st.take y).reverse = b :: av') : st.map f = (av'.map f).reverse ++ f b :: (st.drop y).map f := by
  have h1 : st.take y = av'.reverse ++ [b] := by
    have := congrArg List.reverse he
    simpa using this
  conv => lhs; rw [← List.take_append_drop y st, h1]
  simp
theorem split_args0 {f : MV → Value} {st : List MV} {y : Nat} {av : List MV} (he : (st.take y).reverse = av) : st.map f = (av.map f).reverse ++ (st.drop y).map f := by
  have h1 : st.take y = av.reverse := by
    have := congrArg List.reverse he
    simpa using this
  conv => lhs; rw [← List.take_append_drop y st, h1]
  simp
section Call
variable {p : Program} {l : Launch} {e : Env} {R : Room} {s : State} {m : MethodId} {args : Array Value} {below : List Frame} {meth : Method} {c : Code} {H : Heap} {locs : List Loc} {cells slots : Nat} {Q : State → Prop}
variable {D : va_G} {z0 : Nat} {oa : Nat → Nat} {ca : Nat → ClassId} {L : Nat} {xs : Nat → Int} {h h1 : MH} {cc : ByteArray} {oc idx pc mi d' : Nat} {rl : Array Slot} {rest : List Value} {v : Option MV} {av : List MV}
theorem good_ws (hmi : mi < 372) : GoodIn GT (Cond.code (yN mi) (yB mi) (mtab mi).2 (yR mi) :: GT) := by
  intro w hw
  rcases List.mem_cons.mp hw with rfl | hw
  · exact ⟨gt (yok_all mi hmi).1 rfl, good_of_word rfl⟩
  · exact ⟨hw, good_of_word (List.mem_filter.mp hw).2⟩
theorem Pw_pre (hSW : SW D z0 oa ca L xs s) (hwd : WD D z0 oa ca h H) (hS : va_S (fun q => z0 ≤ q) s.heap H locs) {a : Array Value} (ha : a = (av.map (trv z0 oa)).toArray) : ∀ U : State, U.heap = H → s.WarmedH U.vm → Pw D z0 oa ca L xs av h a U :=
  fun U hU hW => ⟨ha, by rw [hU]; exact hwd, SW.warm hW (fun q q1 q2 => by rw [hU]; exact hS.2.1 q q1 q2) hSW⟩
theorem s_runV {b : Int} {av' : List MV} (hmi : mi < 372) (hy0 : yS mi = false) (hsel : Cond.selects (yN mi).cls (yN mi) (yN mi) ∈ lw_tbl) (hlink : Cond.methodLink (cN oc) idx (yN mi) ∈ lw_tbl) (hyO : yO mi < 13) (hk : shK h.1 b = 10 + yO mi) (hlenA : av'.length = yA mi) (hmx : (mtab mi).2 ≤ 20)
    (hM : Met l (yN mi) (Cond.code (yN mi) (yB mi) (mtab mi).2 (yR mi) :: GT) (rmd d' (h1.1.length - h.1.length) (sls h1.1 - sls h.1)) (Pw D z0 oa ca L xs (vr b :: av') h) (fun a st o t => Qw D z0 oa ca v h1 a st o t ∧ WF h1 ∧ STR L xs h1 ∧ RVo v) (h1.1.length - h.1.length) (sls h1.1 - sls h.1) (fun q => z0 ≤ q))
    (hx : p.tables.exec = Jvm.exec) (hb : c.code = cc) (hml : c.maxLocals = rl.size) (hown : s.vm.findClass (cN oc) = some m.cls) (hts : ∀ w ∈ GT, w.before args s = true) (hSW : SW D z0 oa ca L xs s) (hwd : WD D z0 oa ca h H) (hst : STR L xs h) (hS : va_S (fun q => z0 ≤ q) s.heap H locs)
    (hrest : rest.length ≤ 4) (hR1 : d' + 9 ≤ R.frames) (hR2 : 60 * (d' + 9) ≤ R.locals) (hcells : cells + (h1.1.length - h.1.length) ≤ R.cells) (hslots : slots + (sls h1.1 - sls h.1) ≤ R.slots) (hdg : decode cc pc = .ok (.invokevirtual idx, 3)) :
    va_Run p l e R s m args below meth c H locs cells slots (h1.1.length - h.1.length) (sls h1.1 - sls h.1) (F0 m pc rl ((av'.map (trv z0 oa)).reverse ++ .ref (rho z0 oa b) :: rest)) rest (fun st o t => Qw D z0 oa ca v h1 ((vr b :: av').map (trv z0 oa)).toArray st o t ∧ WF h1 ∧ STR L xs h1 ∧ RVo v) (fun q => z0 ≤ q) := by
  obtain ⟨y1, y2, y3, y4, y5, y6, y7⟩ := yok_all mi hmi
  obtain ⟨yi, -⟩ := y7 hy0
  obtain ⟨h6, hb2⟩ := new_obj hst hk hyO
  obtain ⟨r, hr⟩ : ∃ r, mcl[yO mi]? = some r := ⟨_, List.getElem?_eq_getElem (by exact hyO)⟩
  obtain ⟨cell, q1, q2, q3, -⟩ := obj_P hr hk (hwd.2.2.2 b h6 hb2)
  obtain ⟨-, hfc, -⟩ := hSW.2.1.1 _ _ hr
  have harg : ((vr b :: av').map (trv z0 oa)).toArray = (Value.ref (rho z0 oa b) :: av'.map (trv z0 oa)).toArray := by
    simp only [List.map_cons]
    rw [show trv z0 oa (vr b) = .ref (rho z0 oa b) from rfo_pos (by omega)]
  have hcb := callB_of (R := R) (rm := rmd d' (h1.1.length - h.1.length) (sls h1.1 - sls h.1)) (own := cN oc) (index := idx) (yA mi) hts (good_ws hmi) rfl rfl rfl (hts _ (gt y5 rfl)) (hts _ (gt hlink rfl)) y4 ⟨by rw [rmd_f]; exact hR1, by rw [rmd_l]; exact room_l hmx hR2⟩
  have := va_runV (b := rho z0 oa b) (C := (yN mi).cls) (As := av'.map (trv z0 oa)) (rest := rest) (g := F0 m pc rl ((av'.map (trv z0 oa)).reverse ++ .ref (rho z0 oa b) :: rest)) (locs := locs) (cells := cells) (slots := slots) (H := H) (e := e) (below := below) (meth := meth) (nL := rl.size)
    ⟨hx, hb, hml, hown, hts⟩ hM ⟨hcb, hts _ (gt yi rfl), hts _ (gt hsel rfl)⟩
    ⟨Pw_blind, ⟨cell, q1, by rw [q3]; rfl, by rw [y2, ← mcl_nm1 hr, q2]; exact hfc⟩, fun U hU hW => Pw_pre hSW hwd hS harg.symm U hU hW⟩ rfl (by rw [List.length_map]; exact hlenA) rfl rfl (lv_room (Nat.le_trans (cat_sum rest) (by omega))) hdg ⟨hcells, hslots⟩
  rw [harg]
  exact this
theorem s_runS (hmi : mi < 372) (hy1 : yS mi = true) (hlink : Cond.methodLink (cN oc) idx (yN mi) ∈ lw_tbl) (hlenA : av.length = yA mi) (hmx : (mtab mi).2 ≤ 20)
    (hM : Met l (yN mi) (Cond.code (yN mi) (yB mi) (mtab mi).2 (yR mi) :: GT) (rmd d' (h1.1.length - h.1.length) (sls h1.1 - sls h.1)) (Pw D z0 oa ca L xs av h) (fun a st o t => Qw D z0 oa ca v h1 a st o t ∧ WF h1 ∧ STR L xs h1 ∧ RVo v) (h1.1.length - h.1.length) (sls h1.1 - sls h.1) (fun q => z0 ≤ q))
    (hx : p.tables.exec = Jvm.exec) (hb : c.code = cc) (hml : c.maxLocals = rl.size) (hown : s.vm.findClass (cN oc) = some m.cls) (hts : ∀ w ∈ GT, w.before args s = true) (hSW : SW D z0 oa ca L xs s) (hwd : WD D z0 oa ca h H) (hS : va_S (fun q => z0 ≤ q) s.heap H locs)
    (hrest : rest.length ≤ 4) (hR1 : d' + 9 ≤ R.frames) (hR2 : 60 * (d' + 9) ≤ R.locals) (hcells : cells + (h1.1.length - h.1.length) ≤ R.cells) (hslots : slots + (sls h1.1 - sls h.1) ≤ R.slots) (hdg : decode cc pc = .ok (.invokestatic idx, 3)) :
    va_Run p l e R s m args below meth c H locs cells slots (h1.1.length - h.1.length) (sls h1.1 - sls h.1) (F0 m pc rl ((av.map (trv z0 oa)).reverse ++ rest)) rest (fun st o t => Qw D z0 oa ca v h1 (av.map (trv z0 oa)).toArray st o t ∧ WF h1 ∧ STR L xs h1 ∧ RVo v) (fun q => z0 ≤ q) := by
  obtain ⟨y1, y2, y3, y4, y5, y6, y7⟩ := yok_all mi hmi
  have hcb := callB_of (R := R) (rm := rmd d' (h1.1.length - h.1.length) (sls h1.1 - sls h.1)) (own := cN oc) (index := idx) (yA mi) hts (good_ws hmi) rfl rfl rfl (hts _ (gt y5 rfl)) (hts _ (gt hlink rfl)) y4 ⟨by rw [rmd_f]; exact hR1, by rw [rmd_l]; exact room_l hmx hR2⟩
  exact va_runS (As := av.map (trv z0 oa)) (rest := rest) (g := F0 m pc rl ((av.map (trv z0 oa)).reverse ++ rest)) (locs := locs) (cells := cells) (slots := slots) (H := H) (e := e) (below := below) (meth := meth) (nL := rl.size)
    ⟨hx, hb, hml, hown, hts⟩ hM ⟨hcb, hts _ (gt (y6 hy1) rfl)⟩ ⟨Pw_blind, fun U hU hW => Pw_pre hSW hwd hS rfl U hU hW⟩ rfl (by rw [List.length_map]; exact hlenA) rfl rfl (lv_room (Nat.le_trans (cat_sum rest) (by omega))) hdg ⟨hcells, hslots⟩
theorem s_runI {b : Int} {av' : List MV} (hmi : mi < 372) (hy0 : yS mi = false) (hnm : (yN mi).name = "<init>") (hlink : Cond.methodLink (cN oc) idx (yN mi) ∈ lw_tbl ∨ Cond.methodLinkNest (cN oc) idx (yN mi) "EmptyChairs" ∈ nstL) (hret0 : yR mi = none) (h6 : 6 < b) (hlenA : av'.length = yA mi) (hmx : (mtab mi).2 ≤ 20)
    (hM : Met l (yN mi) (Cond.code (yN mi) (yB mi) (mtab mi).2 (yR mi) :: GT) (rmd d' (h1.1.length - h.1.length) (sls h1.1 - sls h.1)) (Pw D z0 oa ca L xs (vr b :: av') h) (fun a st o t => Qw D z0 oa ca v h1 a st o t ∧ WF h1 ∧ STR L xs h1 ∧ RVo v) (h1.1.length - h.1.length) (sls h1.1 - sls h.1) (fun q => z0 ≤ q))
    (hx : p.tables.exec = Jvm.exec) (hb : c.code = cc) (hml : c.maxLocals = rl.size) (hown : s.vm.findClass (cN oc) = some m.cls) (hts : ∀ w ∈ GT, w.before args s = true) (hSW : SW D z0 oa ca L xs s) (hwd : WD D z0 oa ca h H) (hS : va_S (fun q => z0 ≤ q) s.heap H locs)
    (hrest : rest.length ≤ 4) (hR1 : d' + 9 ≤ R.frames) (hR2 : 60 * (d' + 9) ≤ R.locals) (hcells : cells + (h1.1.length - h.1.length) ≤ R.cells) (hslots : slots + (sls h1.1 - sls h.1) ≤ R.slots) (hdg : decode cc pc = .ok (.invokespecial idx, 3)) :
    va_Run p l e R s m args below meth c H locs cells slots (h1.1.length - h.1.length) (sls h1.1 - sls h.1) (F0 m pc rl ((av'.map (trv z0 oa)).reverse ++ .ref (rho z0 oa b) :: rest)) rest (fun st o t => Qw D z0 oa ca v h1 ((vr b :: av').map (trv z0 oa)).toArray st o t ∧ WF h1 ∧ STR L xs h1 ∧ RVo v) (fun q => z0 ≤ q) := by
  obtain ⟨y1, y2, y3, y4, y5, y6, y7⟩ := yok_all mi hmi
  obtain ⟨yi, -⟩ := y7 hy0
  have harg : ((vr b :: av').map (trv z0 oa)).toArray = (Value.ref (rho z0 oa b) :: av'.map (trv z0 oa)).toArray := by
    simp only [List.map_cons]
    rw [show trv z0 oa (vr b) = .ref (rho z0 oa b) from rfo_pos (by omega)]
  have hRR : (rmd d' (h1.1.length - h.1.length) (sls h1.1 - sls h.1)).frames + 1 ≤ R.frames ∧ 8 + ((mtab mi).2 + 11) + (rmd d' (h1.1.length - h.1.length) (sls h1.1 - sls h.1)).locals ≤ R.locals := ⟨by rw [rmd_f]; exact hR1, by rw [rmd_l]; exact room_l hmx hR2⟩
  have hpre : ∀ U : State, U.heap = H → s.WarmedH U.vm → Pw D z0 oa ca L xs (vr b :: av') h (Value.ref (rho z0 oa b) :: av'.map (trv z0 oa)).toArray U := fun U hU hW => Pw_pre hSW hwd hS harg.symm U hU hW
  have hg := good_ws hmi
  rw [hret0] at hM hg
  rw [harg]
  rcases hlink with hlink | hlink
  · have hcb := callB_of (R := R) (rm := rmd d' (h1.1.length - h.1.length) (sls h1.1 - sls h.1)) (own := cN oc) (index := idx) (yA mi) hts hg rfl rfl rfl (hts _ (gt y5 rfl)) (hts _ (gt hlink rfl)) y4 hRR
    exact va_runI (b := rho z0 oa b) (As := av'.map (trv z0 oa)) (rest := rest) (g := F0 m pc rl ((av'.map (trv z0 oa)).reverse ++ .ref (rho z0 oa b) :: rest)) (locs := locs) (cells := cells) (slots := slots) (H := H) (e := e) (below := below) (meth := meth) (nL := rl.size)
      ⟨hx, hb, hml, hown, hts⟩ hM ⟨hcb, hnm, hts _ (gt yi rfl)⟩ ⟨Pw_blind, hpre⟩ rfl (by rw [List.length_map]; exact hlenA) rfl rfl (lv_room (Nat.le_trans (cat_sum rest) (by omega))) hdg ⟨hcells, hslots⟩
  · have hcb := va_cnB (R := R) (rm := rmd d' (h1.1.length - h.1.length) (sls h1.1 - sls h.1)) (own := cN oc) (index := idx) (args := args) (yA mi) hts hg rfl rfl rfl (hSW.2.2.2.1 _ hlink) (hts _ (gt y5 rfl)) y4 hRR
    exact va_runIN (b := rho z0 oa b) (As := av'.map (trv z0 oa)) (rest := rest) (g := F0 m pc rl ((av'.map (trv z0 oa)).reverse ++ .ref (rho z0 oa b) :: rest)) (locs := locs) (cells := cells) (slots := slots) (H := H) (e := e) (below := below) (meth := meth) (nL := rl.size)
      ⟨hx, hb, hml, hown, hts⟩ hM ⟨hcb, hnm, hts _ (gt yi rfl)⟩ ⟨Pw_blind, hpre⟩ rfl (by rw [List.length_map]; exact hlenA) rfl rfl (lv_room (Nat.le_trans (cat_sum rest) (by omega))) hdg ⟨hcells, hslots⟩
end Call
theorem swf_inv {u : Int} {k : Nat → MR} {dflt : Nat} {z : Option MV × MH} : ∀ {ts : List (Int × Nat)}, swf (fun c dc a b => @ite _ c dc a b) u k dflt ts = some z → (∃ (j : Nat) (q : Int × Nat), ts[j]? = some q ∧ q.1 = u ∧ k q.2 = some z) ∨ ((∀ q ∈ ts, q.1 ≠ u) ∧ k dflt = some z)
  | [], h => Or.inr ⟨fun _ hq => absurd hq List.not_mem_nil, h⟩
  | q :: r, h => by
    unfold swf at h
    by_cases e : u = q.1
    · rw [if_pos e] at h
      exact Or.inl ⟨0, q, rfl, e.symm, h⟩
    · rw [if_neg e] at h
      rcases swf_inv h with ⟨j, q', h1, h2, h3⟩ | ⟨h1, h2⟩
      · exact Or.inl ⟨j + 1, q', h1, h2, h3⟩
      · refine Or.inr ⟨fun q' hq' => ?_, h2⟩
        rcases List.mem_cons.mp hq' with rfl | hq'
        · exact fun k => e k.symm
        · exact h1 q' hq'
theorem swf_look {code : List MI} {u pc dof : Int} {k : Nat → MR} {dflt : Nat} {z : Option MV × MH} (hd : okT code dflt (pc + dof) = true) : ∀ {ts : List (Int × Nat)} {ps : List (Int × Int)}, ts.length = ps.length → (∀ j, j < ps.length → (ts.getD j (0, 0)).1 = (ps.getD j (0, 0)).1 ∧ okT code (ts.getD j (0, 0)).2 (pc + (ps.getD j (0, 0)).2) = true) → swf (fun c dc a b => @ite _ c dc a b) u k dflt ts = some z → ∃ t, k t = some z ∧ okT code t (pc + Op.lookupswitch.offset ps dof u) = true
  | [], [], _, _, h => ⟨dflt, h, hd⟩
  | [], _ :: _, hl, _, _ => by cases hl
  | _ :: _, [], hl, _, _ => by cases hl
  | q :: r, (a, o) :: ps, hl, hj, h => by
    have h0 := hj 0 (by simp)
    simp only [List.getD_cons_zero] at h0
    unfold swf at h
    rw [Op.lookupswitch.offset_cons]
    by_cases e : u = q.1
    · rw [if_pos e] at h
      exact ⟨q.2, h, by rw [if_pos (by rw [e, h0.1])]; exact h0.2⟩
    · rw [if_neg e] at h
      rw [if_neg (fun k => e (by rw [h0.1]; exact k.symm))]
      refine swf_look hd (by simpa using hl) (fun j hjl => ?_) h
      have := hj (j + 1) (by simpa using hjl)
      simpa using this
theorem WF_set {h : MH} {a : Int} {k : Nat} {v : Int} (hw : WF h) (ha1 : 1 ≤ a) (ha2 : a ≤ h.1.length) (hv : 0 ≤ v) : WF (shSet h.1 a k v, h.2) := by
  have hll : (shSet h.1 a k v).length = h.1.length := by unfold shSet; simp
  refine ⟨fun b hb1 hb2 => ?_, fun b j hb => hw.2 b j (by rw [← hll]; exact hb)⟩
  have hb3 : b ≤ h.1.length := by rw [← hll]; exact hb2
  have hsh : shp (shSet h.1 a k v) b = if b = a then ((shp h.1 a).1, (shp h.1 a).2.1, (shp h.1 a).2.2.set k v) else shp h.1 b := shp_set ha1 ha2 hb1
  unfold shK
  simp only [hsh]
  by_cases e : b = a
  · subst e
    simp only [if_pos]
    obtain ⟨w1, w2, w3, w4, w5⟩ := hw.1 b hb1 hb3
    refine ⟨w1, w2, fun k' => ?_, fun q1 q2 => by rw [List.length_set]; exact w4 q1 q2, fun q1 q2 => by rw [List.length_set]; exact w5 q1 q2⟩
    rw [List.getD_eq_getElem?_getD, List.getElem?_set]
    split
    · split
      · exact hv
      · simp
    · have := w3 k'; rw [List.getD_eq_getElem?_getD] at this; exact this
  · simp only [if_neg e]
    exact hw.1 b hb1 hb3
theorem WF_cpy {h : MH} {src sp dst dp n : Int} (hw : WF h) (hk1 : shK h.1 src ≤ 1) (hk2 : shK h.1 dst = shK h.1 src) : WF (h.1, cpy h.2 src sp dst dp n) := by
  obtain ⟨hs1, hs2⟩ := shp_valid (s := h.1) (a := src) (by omega)
  obtain ⟨hd1, hd2⟩ := shp_valid (s := h.1) (a := dst) (by omega)
  have hcode : ∀ j j' : Int, tcode (shK h.1 dst) j = tcode (shK h.1 src) j' := by
    intro j j'
    unfold tcode
    rw [hk2]
    split
    · rfl
    · rw [if_pos (by omega), if_pos (by omega)]
  refine ⟨fun b hb1 hb2 => ?_, fun b j hb => ?_⟩
  · obtain ⟨w1, w2, w3⟩ := hw.1 b hb1 hb2
    refine ⟨w1, fun j => ?_, w3⟩
    show rgx _ (cpy h.2 src sp dst dp n b j)
    unfold cpy
    split
    · rename_i q
      rw [q.1, show ∀ x, shK (h.1, x).1 dst = shK h.1 dst from fun _ => rfl, hcode j (sp + (j - dp))]
      exact (hw.1 src hs1 hs2).2.1 _
    · exact w2 j
  · show cpy h.2 src sp dst dp n b j = 0
    have hb : (h.1.length : Int) < b := hb
    rw [cpy_ne (by omega)]
    exact hw.2 b j hb
theorem rcv_inv {l : List MV} (h : 0 < rcv l) : ∃ b l', l = vr b :: l' ∧ rcv l = b := by
  unfold rcv at h ⊢
  split at h
  · exact ⟨_, _, rfl, rfl⟩
  · exact absurd h (by omega)
theorem imax {u v : Int} (hu : r32 u) (hv : r32 v) : (if Int32.ofInt u < Int32.ofInt v then Int32.ofInt v else Int32.ofInt u) = Int32.ofInt (max u v) := by
  by_cases h : u < v
  · rw [if_pos ((i_lt hu hv).mpr h), Int.max_eq_right (by omega)]
  · rw [if_neg (fun k => h ((i_lt hu hv).mp k)), Int.max_eq_left (by omega)]
theorem imin {u v : Int} (hu : r32 u) (hv : r32 v) : (if Int32.ofInt v < Int32.ofInt u then Int32.ofInt v else Int32.ofInt u) = Int32.ofInt (min u v) := by
  by_cases h : v < u
  · rw [if_pos ((i_lt hv hu).mpr h), Int.min_eq_right (by omega)]
  · rw [if_neg (fun k => h ((i_lt hv hu).mp k)), Int.min_eq_left (by omega)]
theorem labs {u : Int} (hu : r64 u) : (if 0 < Int64.ofInt u then Int64.ofInt u else - Int64.ofInt u) = Int64.ofInt (q64 (if u < 0 then -u else u)) := by
  have h0 : (0 < Int64.ofInt u) ↔ 0 < u := by rw [show (0 : Int64) = Int64.ofInt 0 from rfl, l_lt (by unfold r64; omega) hu]
  by_cases h : 0 < u
  · rw [if_pos (h0.mpr h), if_neg (by omega), l_q]
  · rw [if_neg (fun k => h (h0.mp k))]
    by_cases h2 : u < 0
    · rw [if_pos h2, l_neg]
    · have : u = 0 := by omega
      subst this; rfl
theorem r32_max {u v : Int} (hu : r32 u) (hv : r32 v) : r32 (max u v) := by
  rcases Int.le_total u v with h | h
  · rw [Int.max_eq_right h]; exact hv
  · rw [Int.max_eq_left h]; exact hu
theorem r32_min {u v : Int} (hu : r32 u) (hv : r32 v) : r32 (min u v) := by
  rcases Int.le_total u v with h | h
  · rw [Int.min_eq_left h]; exact hu
  · rw [Int.min_eq_right h]; exact hv
