/-! ===== every method, at every depth ===== -/
theorem spr_len {z0 : Nat} {oa : Nat → Nat} : ∀ av : List MV, (lg_sl (av.map (trv z0 oa))).length = (spr av).length
  | [] => rfl
  | v :: r => by
    have ih := spr_len (z0 := z0) (oa := oa) r
    unfold lg_sl at ih ⊢
    match v with
    | .inl x => simp only [List.map_cons, List.flatMap_cons, List.length_append, spr, List.length_cons, ih]; simp [trv, Value.category]; omega
    | .inr (.inl x) => simp only [List.map_cons, List.flatMap_cons, List.length_append, spr, List.length_cons, ih]; simp [trv, Value.category]; omega
    | .inr (.inr (.inl a)) =>
      have hcat : (trv z0 oa (vr a)).category = 1 := cat1 (Or.inr ⟨a, rfl⟩)
      simp only [List.map_cons, List.flatMap_cons, List.length_append, spr, List.length_cons, ih]
      rw [if_neg (by rw [hcat]; decide)]
      simp; omega
    | .inr (.inr (.inr u)) => simp only [List.map_cons, List.flatMap_cons, List.length_append, spr, List.length_cons, ih]; simp [trv, Value.category]; omega
theorem spr_args {z0 : Nat} {oa : Nat → Nat} : ∀ (av : List MV) (k i : Nat) (v : MV), (spr av)[i]? = some v → v ≠ vj → (k + i, trv z0 oa v) ∈ lv_args k (av.map (trv z0 oa))
  | [], _, _, _, h, _ => by simp [spr] at h
  | w :: r, k, i, v, h, hv => by
    simp only [List.map_cons, lv_args]
    match w, h with
    | .inr (.inl x), h =>
      simp only [spr] at h
      match i, h with
      | 0, h => cases h; exact List.mem_cons_self
      | 1, h => exact absurd (Option.some.inj h).symm hv
      | i + 2, h =>
        refine List.mem_cons_of_mem _ ?_
        rw [if_pos (show (trv z0 oa (Sum.inr (Sum.inl x))).category = 2 from rfl), show k + (i + 2) = (k + 2) + i by omega]
        exact spr_args r (k + 2) i v h hv
    | .inl x, h =>
      simp only [spr] at h
      match i, h with
      | 0, h => cases h; exact List.mem_cons_self
      | i + 1, h =>
        refine List.mem_cons_of_mem _ ?_
        rw [if_neg (by simp [trv, Value.category]), show k + (i + 1) = (k + 1) + i by omega]
        exact spr_args r (k + 1) i v h hv
    | .inr (.inr (.inl a)), h =>
      simp only [spr] at h
      match i, h with
      | 0, h => cases h; exact List.mem_cons_self
      | i + 1, h =>
        refine List.mem_cons_of_mem _ ?_
        rw [if_neg (by rw [show (trv z0 oa (vr a)).category = 1 from cat1 (Or.inr ⟨a, rfl⟩)]; decide), show k + (i + 1) = (k + 1) + i by omega]
        exact spr_args r (k + 1) i v h hv
    | .inr (.inr (.inr u)), h =>
      simp only [spr] at h
      match i, h with
      | 0, h => exact absurd (Option.some.inj h).symm hv
      | i + 1, h =>
        refine List.mem_cons_of_mem _ ?_
        rw [if_neg (by simp [trv, Value.category]), show k + (i + 1) = (k + 1) + i by omega]
        exact spr_args r (k + 1) i v h hv
theorem ent_len {av : List MV} {n : Nat} (h : (spr av).length ≤ n) : (ent av n).length = n := by
  unfold ent; simp; omega
theorem ent_LR {z0 : Nat} {oa : Nat → Nat} {av : List MV} {n : Nat} {rl : Array Slot} (h : (spr av).length ≤ n) (hl : lv_has rl n (lv_args 0 (av.map (trv z0 oa)))) : LR z0 oa (ent av n) rl := by
  refine ⟨by rw [ent_len h]; exact hl.1, hl.2.1, fun i v hi hv => ?_⟩
  unfold ent at hi
  by_cases q : i < (spr av).length
  · rw [List.getElem?_append_left q] at hi
    have := hl.2.2 _ (spr_args (z0 := z0) (oa := oa) av 0 i v hi hv)
    simpa using this
  · rw [List.getElem?_append_right (by omega), List.getElem?_replicate] at hi
    split at hi
    · exact absurd (Option.some.inj hi).symm hv
    · cases hi
theorem spr_rv : ∀ (av : List MV), (∀ x ∈ av, RV x) → ∀ x ∈ spr av, RV x
  | [], _, x, hx => absurd hx List.not_mem_nil
  | w :: r, h, x, hx => by
    obtain ⟨h1, h2⟩ := List.forall_mem_cons.mp h
    match w, h1, hx with
    | .inr (.inl y), h1, hx =>
      simp only [spr] at hx
      rcases List.mem_cons.mp hx with rfl | hx
      · exact h1
      · rcases List.mem_cons.mp hx with rfl | hx
        · exact trivial
        · exact spr_rv r h2 x hx
    | .inl y, h1, hx =>
      simp only [spr] at hx
      rcases List.mem_cons.mp hx with rfl | hx
      · exact h1
      · exact spr_rv r h2 x hx
    | .inr (.inr (.inl y)), h1, hx =>
      simp only [spr] at hx
      rcases List.mem_cons.mp hx with rfl | hx
      · exact h1
      · exact spr_rv r h2 x hx
    | .inr (.inr (.inr y)), h1, hx =>
      simp only [spr] at hx
      rcases List.mem_cons.mp hx with rfl | hx
      · exact h1
      · exact spr_rv r h2 x hx
theorem ent_rv {av : List MV} {n : Nat} (h : ∀ x ∈ av, RV x) : ∀ x ∈ ent av n, RV x := by
  intro x hx
  unfold ent at hx
  rcases List.mem_append.mp hx with hx | hx
  · exact spr_rv av h x hx
  · rw [List.eq_of_mem_replicate hx]; exact trivial
theorem rcc_lt {r : Option FieldType} (h : rcc r < 4) : ∃ ty, r = some ty ∧ ((rcc r = 0 ∧ ty = .int) ∨ (rcc r = 1 ∧ ty = .boolean) ∨ (rcc r = 2 ∧ ty = .char) ∨ (rcc r = 3 ∧ ty = .byte)) := by
  match r, h with
  | some .int, _ => exact ⟨_, rfl, Or.inl ⟨rfl, rfl⟩⟩
  | some .boolean, _ => exact ⟨_, rfl, Or.inr (Or.inl ⟨rfl, rfl⟩)⟩
  | some .char, _ => exact ⟨_, rfl, Or.inr (Or.inr (Or.inl ⟨rfl, rfl⟩))⟩
  | some .byte, _ => exact ⟨_, rfl, Or.inr (Or.inr (Or.inr ⟨rfl, rfl⟩))⟩
  | none, h => exact absurd h (by decide)
  | some .long, h => exact absurd h (by decide)
  | some .short, h => exact absurd h (by decide)
  | some .float, h => exact absurd h (by decide)
  | some .double, h => exact absurd h (by decide)
  | some (.object _), h => exact absurd h (by simp [rcc])
  | some (.array _), h => exact absurd h (by simp [rcc])
theorem rcc_4 {r : Option FieldType} (h : rcc r = 4) : r = some .long := by
  match r, h with
  | some .long, _ => rfl
  | some .int, h => exact absurd h (by decide)
  | some .boolean, h => exact absurd h (by decide)
  | some .char, h => exact absurd h (by decide)
  | some .byte, h => exact absurd h (by decide)
  | none, h => exact absurd h (by decide)
  | some .short, h => exact absurd h (by decide)
  | some .float, h => exact absurd h (by decide)
  | some .double, h => exact absurd h (by decide)
  | some (.object _), h => exact absurd h (by simp [rcc])
  | some (.array _), h => exact absurd h (by simp [rcc])
theorem rcc_5 {r : Option FieldType} (h : rcc r = 5) : r = none := by
  match r, h with
  | none, _ => rfl
  | some .long, h => exact absurd h (by decide)
  | some .int, h => exact absurd h (by decide)
  | some .boolean, h => exact absurd h (by decide)
  | some .char, h => exact absurd h (by decide)
  | some .byte, h => exact absurd h (by decide)
  | some .short, h => exact absurd h (by decide)
  | some .float, h => exact absurd h (by decide)
  | some .double, h => exact absurd h (by decide)
  | some (.object _), h => exact absurd h (by simp [rcc])
  | some (.array _), h => exact absurd h (by simp [rcc])
theorem nar_of {ty : FieldType} {rc : Nat} {x : Int} (h : (rc = 0 ∧ ty = .int) ∨ (rc = 1 ∧ ty = .boolean) ∨ (rc = 2 ∧ ty = .char) ∨ (rc = 3 ∧ ty = .byte)) (hn : rcn rc x) : narrow ty (.int (Int32.ofInt x)) = .int (Int32.ofInt x) := by
  rcases h with ⟨rfl, rfl⟩ | ⟨rfl, rfl⟩ | ⟨rfl, rfl⟩ | ⟨rfl, rfl⟩
  · rfl
  · rcases hn.1 rfl with q | q <;> rw [q] <;> rfl
  · obtain ⟨q1, q2⟩ := hn.2.1 rfl
    have e : Int32.ofInt x = nI x.toNat := by
      apply Int32.toInt_inj.mp
      rw [i_of (by unfold r32; omega), nI_toInt (by omega)]; omega
    rw [e]; exact (pk_charN (by omega)).1
  · obtain ⟨q1, q2⟩ := hn.2.2 rfl
    have e : (Int32.ofInt x).toInt8.toInt32 = Int32.ofInt x := by rw [i_b, Int.bmod_eq_of_le (by omega) (by omega)]
    show Value.int (Int32.ofInt x).toInt8.toInt32 = _
    rw [e]
theorem okV_all : mtabL.all (fun q => q.1.all okV) = true := by decide +kernel
theorem okV_at (mi : Nat) (h : mi < 372) : ∀ e ∈ (mtab mi).1, okV e = true := by
  have hl : mtabL.length = 372 := by decide +kernel
  have hm : mtab mi = mtabL[mi]'(by rw [hl]; exact h) := by unfold mtab; rw [List.getD_eq_getElem?_getD, List.getElem?_eq_getElem (by rw [hl]; exact h)]; rfl
  have h1 := List.all_eq_true.mp okV_all (mtab mi) (by rw [hm]; exact List.getElem_mem _)
  exact List.all_eq_true.mp h1
theorem pc0_all : (List.range 372).all (fun mi => pcO (mtab mi).1 0 == 0) = true := by decide +kernel
theorem pc0 (mi : Nat) (h : mi < 372) : pcO (mtab mi).1 0 = 0 := by
  have := List.all_eq_true.mp pc0_all mi (List.mem_range.mpr h)
  simpa using this
set_option maxHeartbeats 4000000 in
theorem sim_step (l : Launch) (D : va_G) (z0 : Nat) (oa : Nat → Nat) (ca : Nat → ClassId) (L : Nat) (xs : Nat → Int) (d : Nat) (IH : ∀ d', d = d' + 1 → SimOK l D z0 oa ca L xs d') : SimOK l D z0 oa ca L xs d := by
  intro mi hmi n av h h' v hex hsp hRS hwf hst
  obtain ⟨y1, y2, y3, y4, y5, y6, y7⟩ := yok_all mi hmi
  obtain ⟨k1, k2⟩ := mck_all mi hmi
  refine Met.ofW (cc := yB mi) (maxL := (mtab mi).2) (ret := yR mi) y3 rfl ?_
  intro p e s m args below meth c s₁ B hml hv
  obtain ⟨rfl, hwd, hSW⟩ := hv
  have hx := B.exec
  have hb := B.bytes
  have hr := B.returns
  have hts : ∀ w ∈ GT, w.before _ s = true := fun w hw => atoms_spec (ws := Cond.code (yN mi) (yB mi) (mtab mi).2 (yR mi) :: GT) B.pre w (List.mem_cons_of_mem _ hw)
  have hown : s.vm.findClass (cN (yO mi)) = some m.cls := by rw [← y2]; exact findClass_of_methodNamed B.named
  have hlocks := B.notSynchronized
  have hin : (yN mi).name = meth.name := ((name_of_methodNamed B.named B.method).1).symm
  have hl := lv_entry (av.map (trv z0 oa)) (n := (mtab mi).2) (by rw [spr_len]; exact hsp)
  rw [lg_entry_eq]
  generalize (lg_sl (av.map (trv z0 oa)) ++ List.replicate ((mtab mi).2 - (lg_sl (av.map (trv z0 oa))).length) Slot.unset).toArray = rl at hl ⊢
  have hgr := exec_gr _ _ _ _ _ _ _ _ hex
  have key := simI (p := p) (l := l) (ev := e) (R := (headSpec (Cond.code (yN mi) (yB mi) (mtab mi).2 (yR mi) :: GT) (rmd d (h'.1.length - h.1.length) (sls h'.1 - sls h.1))).room) (s := s) (m := m) (below := below) (meth := meth) (c := c) (Q := MQ below (fun a st o t => Qw D z0 oa ca v h' a st o t ∧ WF h' ∧ STR L xs h' ∧ RVo v) (av.map (trv z0 oa)).toArray s (h'.1.length - h.1.length) (sls h'.1 - sls h.1) (fun q => z0 ≤ q))
    d IH (cok_of k1) (okV_at mi hmi) hx hb hml hown hts hSW (fun q => by rw [← hin]; exact k2 q) (Nat.le_refl _) (Nat.le_refl _) h.1.length (sls h.1) (v, h') (by show h'.1.length ≤ h.1.length + (h'.1.length - h.1.length); have := hgr.1; omega) (by show sls h'.1 ≤ sls h.1 + (sls h'.1 - sls h.1); have := hgr.2; omega)
    (fun H locs pc rl w1 w2 w3 w4 w5 w6 => by
      have hq : ∀ (t : State), t.heap = H → Qw D z0 oa ca v h' (av.map (trv z0 oa)).toArray s (.returned (v.map (trv z0 oa))) t ∧ WF h' ∧ STR L xs h' ∧ RVo v := fun t ht => ⟨⟨rfl, by rw [ht]; exact w1, w2.F ht⟩, w3, w4, w5⟩
      rcases w6 with ⟨q1, q2, q3⟩ | ⟨x, q1, q2, q3, q4⟩ | ⟨x, q1, q2, q3⟩
      · have q1 : v = none := q1
        subst q1
        rw [rcc_5 q2] at hr
        exact W.vret hx hb hr (fun t ht _ => hq t ht) (fun q hq => w2.2.2 q hq) q3
      · have q1 : v = some (vi x) := q1
        subst q1
        obtain ⟨ty, t1, t2⟩ := rcc_lt q2
        rw [t1] at hr
        exact W.zret (ty := ty) hx hb hr (nar_of t2 q3) (fun t ht _ => hq t ht) (fun q hq => w2.2.2 q hq) q4
      · have q1 : v = some (vl x) := q1
        subst q1
        rw [rcc_4 q2] at hr
        exact W.lret hx hb hr (fun t ht _ => hq t ht) (fun q hq => w2.2.2 q hq) q3)
    n 0 (ent av (mtab mi).2) [] h rl s.heap [] hex (ent_LR hsp hl) (ent_len hsp) (ent_rv (fun x hx => (hRS x hx).1)) (fun x hx => absurd hx List.not_mem_nil) hwf hst hwd va_S.rf (Nat.le_refl _) (Nat.le_refl _)
  have hp0 : pcO (mtab mi).1 0 = 0 := pc0 mi hmi
  rw [Nat.sub_self, Nat.sub_self, hp0] at key
  exact key
theorem simAll (l : Launch) (D : va_G) (z0 : Nat) (oa : Nat → Nat) (ca : Nat → ClassId) (L : Nat) (xs : Nat → Int) : ∀ d, SimOK l D z0 oa ca L xs d := by
  intro d
  induction d with
  | zero => exact sim_step l D z0 oa ca L xs 0 (fun d' h => by cases h)
  | succ d ih => exact sim_step l D z0 oa ca L xs (d + 1) (fun d' h => by cases h; exact ih)
