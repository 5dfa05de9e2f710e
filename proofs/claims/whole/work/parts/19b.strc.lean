/-! ===== the contracts of the text's members (text laid by genstr2.py) ===== -/
def rms (d mc ms : Nat) : Room := { frames := d + 1, cells := mc, slots := ms, locals := 60 * (d + 1) }
theorem rms_f (d a b : Nat) : (rms d a b).frames = d + 1 := rfl
theorem rms_l (d a b : Nat) : (rms d a b).locals = 60 * (d + 1) := rfl
set_option maxRecDepth 10000 in
theorem rms_ok {x d d2 : Nat} (hx : x ≤ 20) (hd : d + 1 ≤ d2) : (rms d 0 0).frames + 1 ≤ (rms d2 0 0).frames ∧ 8 + (x + 11) + (rms d 0 0).locals ≤ (rms d2 0 0).locals := ⟨by show d + 1 + 1 ≤ d2 + 1; omega, by show 8 + (x + 11) + 60 * (d + 1) ≤ 60 * (d2 + 1); omega⟩
def Pr (D : va_G) (z0 : Nat) (oa : Nat → Nat) (ca : Nat → ClassId) (L : Nat) (xs : Nat → Int) (vs : List Value) (H0 : Heap) : Array Value → State → Prop := fun a U => a = vs.toArray ∧ U.heap = H0 ∧ SW D z0 oa ca L xs U
def Qr (v : Option Value) : Array Value → State → Outcome → State → Prop := fun _ st o t => o = .returned v ∧ t.heap = st.heap
theorem Pr_blind {D : va_G} {z0 : Nat} {oa : Nat → Nat} {ca : Nat → ClassId} {L : Nat} {xs : Nat → Int} {vs : List Value} {H0 : Heap} : FrameBlind (Pr D z0 oa ca L xs vs H0) := fun _ U _ _ hp => ⟨hp.1, hp.2.1, SW.same (s := U) rfl rfl hp.2.2⟩
theorem good_ws2 {y : MethodName} {b : ByteArray} {n : Nat} {r : Option FieldType} (h : Cond.code y b n r ∈ lw_tbl) : GoodIn GT (Cond.code y b n r :: GT) := by
  intro w hw
  rcases List.mem_cons.mp hw with rfl | hw
  · exact ⟨gt h rfl, good_of_word rfl⟩
  · exact ⟨hw, good_of_word (List.mem_filter.mp hw).2⟩
theorem KW_and : ∀ j, j < 183 → KWB.getD j 0 &&& 255 = KWB.getD j 0 ∧ ((KWB.getD j 0).toUInt32 % 65536).toInt32 = KWB.getD j 0 ∧ narrow .char (.int (KWB.getD j 0)) = .int (KWB.getD j 0) := by decide +kernel
section RoCall
variable {p : Program} {l : Launch} {e : Env} {R : Room} {s : State} {m : MethodId} {args : Array Value} {below : List Frame} {meth : Method} {c : Code} {H : Heap} {locs : List Loc} {cells slots : Nat} {Q : State → Prop}
theorem ro_call {v : Option Value} {a : Array Value} {pc : Nat} {rl : Array Slot} {st0 rest : List Value} (hr : va_Run p l e R s m args below meth c H locs cells slots 0 0 (F0 m pc rl st0) rest (Qr v a) (fun _ => False)) (kk : W p l e R s m args below meth c H locs cells slots Q (F0 m (pc + 3) rl (v.toList ++ rest))) : W p l e R s m args below meth c H locs cells slots Q (F0 m pc rl st0) := by
  intro T hT X
  obtain ⟨v', st₀, t, T', LL, h0, X', hL, e1, e2, ⟨hv, hh⟩, st⟩ := hr T hT X
  cases hv
  have hLn : LL = [] := by
    cases LL with
    | nil => rfl
    | cons q r => exact (hL q List.mem_cons_self).elim
  subst hLn
  have hH : T'.heap = H := by rw [e1, hh, h0]
  rw [List.append_nil] at X'
  obtain ⟨t2, a1, b1⟩ := kk T' hH X'
  exact ⟨t2, st t2 a1, b1⟩
end RoCall
section StrC
variable {D : va_G} {z0 : Nat} {oa : Nat → Nat} {ca : Nat → ClassId} {L : Nat} {xs : Nat → Int}
set_option maxHeartbeats 4000000 in
theorem mt_cod (l : Launch) (d : Nat) (H0 : Heap) : Met l sy_cod (Cond.code sy_cod sb_cod 1 (some .byte) :: GT) (rms (d) 0 0) (Pr D z0 oa ca L xs [.ref (oa 5)] H0) (Qr (some (.int 0))) 0 0 (fun _ => False) := by
  refine Met.ofW (cc := sb_cod) (maxL := 1) (ret := some .byte) sp_cod rfl ?_
  intro p e s m args below meth c s₁ B hml hv
  obtain ⟨rfl, hH, hSW⟩ := hv
  have hx := B.exec
  have hb := B.bytes
  have hr := B.returns
  have hts : ∀ w ∈ GT, w.before _ s = true := fun w hw => atoms_spec (ws := Cond.code sy_cod sb_cod 1 (some .byte) :: GT) B.pre w (List.mem_cons_of_mem _ hw)
  have hown : s.vm.findClass "java/lang/String" = some m.cls := findClass_of_methodNamed B.named
  have hlocks := B.notSynchronized
  have hS : va_S (fun q => z0 ≤ q) s.heap s.heap [] := va_S.rf
  have hvk := hSW.2.2.2.2.2.2.1
  have hl := lv_entry ([.ref (oa 5)]) (n := 1) (Nat.le_of_ble_eq_true rfl)
  rw [lg_entry_eq]
  generalize (lg_sl ([.ref (oa 5)]) ++ List.replicate (1 - (lg_sl ([.ref (oa 5)])).length) Slot.unset).toArray = ls at hl ⊢
  have hl : lv_has ls 1 [(0, .ref (oa 5))] := hl
  refine va_gets hx hb hSW.2.2.2.2.2.2.2.1 hS hown (hts _ (gt sf_String_38 rfl)) (fun _ q => q) sd_cod_0 ?_
  refine lv_if_eq (tgt := 13) hx hb sd_cod_3 (by decide) (fun q => absurd q (by decide)) (fun _ => ?_)
  refine lv_aload_n hx hb sd_cod_6 rfl (lv_at hl 0 rfl) ?_
  refine vk_getf hx hb (hvk.1 0 (by decide)).2.1 hS hown (hts _ (gt sf_String_15 rfl)) (fun _ q => q) sd_cod_7 ?_
  refine lv_goto (tgt := 14) hx hb sd_cod_10 (by decide) ?_
  exact W.zret (ty := .byte) hx hb hr (by first | rfl | exact hnar) (fun t ht hW => ⟨rfl, ht⟩) (fun q hq => absurd hq List.not_mem_nil) sd_cod_14
set_option maxHeartbeats 4000000 in
theorem mt_lat (l : Launch) (d : Nat) (H0 : Heap) : Met l sy_lat (Cond.code sy_lat sb_lat 1 (some .boolean) :: GT) (rms (d) 0 0) (Pr D z0 oa ca L xs [.ref (oa 5)] H0) (Qr (some (.int 1))) 0 0 (fun _ => False) := by
  refine Met.ofW (cc := sb_lat) (maxL := 1) (ret := some .boolean) sp_lat rfl ?_
  intro p e s m args below meth c s₁ B hml hv
  obtain ⟨rfl, hH, hSW⟩ := hv
  have hx := B.exec
  have hb := B.bytes
  have hr := B.returns
  have hts : ∀ w ∈ GT, w.before _ s = true := fun w hw => atoms_spec (ws := Cond.code sy_lat sb_lat 1 (some .boolean) :: GT) B.pre w (List.mem_cons_of_mem _ hw)
  have hown : s.vm.findClass "java/lang/String" = some m.cls := findClass_of_methodNamed B.named
  have hlocks := B.notSynchronized
  have hS : va_S (fun q => z0 ≤ q) s.heap s.heap [] := va_S.rf
  have hvk := hSW.2.2.2.2.2.2.1
  have hl := lv_entry ([.ref (oa 5)]) (n := 1) (Nat.le_of_ble_eq_true rfl)
  rw [lg_entry_eq]
  generalize (lg_sl ([.ref (oa 5)]) ++ List.replicate (1 - (lg_sl ([.ref (oa 5)])).length) Slot.unset).toArray = ls at hl ⊢
  have hl : lv_has ls 1 [(0, .ref (oa 5))] := hl
  refine va_gets hx hb hSW.2.2.2.2.2.2.2.1 hS hown (hts _ (gt sf_String_38 rfl)) (fun _ q => q) sd_lat_0 ?_
  refine lv_if_eq (tgt := 17) hx hb sd_lat_3 (by decide) (fun q => absurd q (by decide)) (fun _ => ?_)
  refine lv_aload_n hx hb sd_lat_6 rfl (lv_at hl 0 rfl) ?_
  refine vk_getf hx hb (hvk.1 0 (by decide)).2.1 hS hown (hts _ (gt sf_String_15 rfl)) (fun _ q => q) sd_lat_7 ?_
  refine lv_if_ne (tgt := 17) hx hb sd_lat_10 (by decide) (fun q => absurd rfl q) (fun _ => ?_)
  refine lv_iconst (v := 1) hx hb sd_lat_13 (by decide) ?_
  refine lv_goto (tgt := 18) hx hb sd_lat_14 (by decide) ?_
  exact W.zret (ty := .boolean) hx hb hr (by first | rfl | exact hnar) (fun t ht hW => ⟨rfl, ht⟩) (fun q hq => absurd hq List.not_mem_nil) sd_lat_18
set_option maxHeartbeats 4000000 in
theorem mt_len (l : Launch) (d : Nat) (H0 : Heap) : Met l sy_len (Cond.code sy_len sb_len 1 (some .int) :: GT) (rms (d + 1) 0 0) (Pr D z0 oa ca L xs [.ref (oa 5)] H0) (Qr (some (.int 183))) 0 0 (fun _ => False) := by
  refine Met.ofW (cc := sb_len) (maxL := 1) (ret := some .int) sp_len rfl ?_
  intro p e s m args below meth c s₁ B hml hv
  obtain ⟨rfl, hH, hSW⟩ := hv
  have hx := B.exec
  have hb := B.bytes
  have hr := B.returns
  have hts : ∀ w ∈ GT, w.before _ s = true := fun w hw => atoms_spec (ws := Cond.code sy_len sb_len 1 (some .int) :: GT) B.pre w (List.mem_cons_of_mem _ hw)
  have hown : s.vm.findClass "java/lang/String" = some m.cls := findClass_of_methodNamed B.named
  have hlocks := B.notSynchronized
  have hS : va_S (fun q => z0 ≤ q) s.heap s.heap [] := va_S.rf
  have hvk := hSW.2.2.2.2.2.2.1
  have hl := lv_entry ([.ref (oa 5)]) (n := 1) (Nat.le_of_ble_eq_true rfl)
  rw [lg_entry_eq]
  generalize (lg_sl ([.ref (oa 5)]) ++ List.replicate (1 - (lg_sl ([.ref (oa 5)])).length) Slot.unset).toArray = ls at hl ⊢
  have hl : lv_has ls 1 [(0, .ref (oa 5))] := hl
  refine lv_aload_n hx hb sd_len_0 rfl (lv_at hl 0 rfl) ?_
  refine vk_getf hx hb (hvk.1 0 (by decide)).2.2.1 hS hown (hts _ (gt sf_String_9 rfl)) (fun _ q => q) sd_len_1 ?_
  refine va_tlen (v := 183) hx hb (hvk.1 0 (by decide)).2.2.2 hS (by decide) sd_len_4 ?_
  refine lv_aload_n hx hb sd_len_5 rfl (lv_at hl 0 rfl) ?_
  refine ro_call (va_runV (b := oa 5) (C := "java/lang/String") (As := []) (rest := [.int 183]) ⟨hx, hb, hml, hown, hts⟩ (mt_cod l d s.heap) ⟨callB_of (R := (headSpec _ (rms (d + 1) 0 0)).room) (rm := rms d 0 0) (own := "java/lang/String") (index := 335) 0 hts (good_ws2 sc_cod) rfl rfl rfl (hts _ (gt sini_s rfl)) (hts _ (gt sm_String_335 rfl)) sn_cod (rms_ok (by decide) (Nat.le_refl _)), hts _ (gt si_cod rfl), hts _ (gt sv_cod rfl)⟩ ⟨Pr_blind, vk_recv (i := 0) hvk (by decide) hS, fun U hU hW => ⟨rfl, hU, SW.warm hW (fun q q1 q2 => by rw [hU]) hSW⟩⟩ rfl rfl hl.1 rfl (lv_room (by decide)) sd_len_6 ⟨Nat.le_refl _, Nat.le_refl _⟩) ?_
  refine lv_ishr hx hb sd_len_9 ?_
  refine W.eq (g2 := F0 m 10 ls [.int 183]) (by rfl) ?_
  exact W.zret (ty := .int) hx hb hr (by first | rfl | exact hnar) (fun t ht hW => ⟨rfl, ht⟩) (fun q hq => absurd hq List.not_mem_nil) sd_len_10
set_option maxHeartbeats 4000000 in
theorem mt_chp (l : Launch) (d : Nat) (H0 : Heap) (i n : Int32) (r : Option Nat) (h0 : ¬ i < 0) (h1 : i < n) : Met l sy_chp (Cond.code sy_chp sb_chp 3 (some .int) :: GT) (rms (d) 0 0) (Pr D z0 oa ca L xs [.int i, .int n, va_rf r] H0) (Qr (some (.int i))) 0 0 (fun _ => False) := by
  refine Met.ofW (cc := sb_chp) (maxL := 3) (ret := some .int) sp_chp rfl ?_
  intro p e s m args below meth c s₁ B hml hv
  obtain ⟨rfl, hH, hSW⟩ := hv
  have hx := B.exec
  have hb := B.bytes
  have hr := B.returns
  have hts : ∀ w ∈ GT, w.before _ s = true := fun w hw => atoms_spec (ws := Cond.code sy_chp sb_chp 3 (some .int) :: GT) B.pre w (List.mem_cons_of_mem _ hw)
  have hown : s.vm.findClass "jdk/internal/util/Preconditions" = some m.cls := findClass_of_methodNamed B.named
  have hlocks := B.notSynchronized
  have hS : va_S (fun q => z0 ≤ q) s.heap s.heap [] := va_S.rf
  have hvk := hSW.2.2.2.2.2.2.1
  have hl := lv_entry ([.int i, .int n, va_rf r]) (n := 3) (by cases r <;> exact Nat.le_of_ble_eq_true rfl)
  rw [lg_entry_eq]
  generalize (lg_sl ([.int i, .int n, va_rf r]) ++ List.replicate (3 - (lg_sl ([.int i, .int n, va_rf r])).length) Slot.unset).toArray = ls at hl ⊢
  have hl : lv_has ls 3 [(0, .int i), (1, .int n), (2, va_rf r)] := hl
  refine lv_iload_n hx hb sd_chp_0 rfl (lv_at hl 0 rfl) ?_
  refine lv_if_lt (tgt := 9) hx hb sd_chp_1 (by decide) (fun q => absurd q h0) (fun _ => ?_)
  refine lv_iload_n hx hb sd_chp_4 rfl (lv_at hl 0 rfl) ?_
  refine lv_iload_n hx hb sd_chp_5 rfl (lv_at hl 1 rfl) ?_
  refine lv_icmp_lt (tgt := 16) hx hb sd_chp_6 (by decide) (fun _ => ?_) (fun q => absurd h1 q)
  refine lv_iload_n hx hb sd_chp_16 rfl (lv_at hl 0 rfl) ?_
  exact W.zret (ty := .int) hx hb hr (by first | rfl | exact hnar) (fun t ht hW => ⟨rfl, ht⟩) (fun q hq => absurd hq List.not_mem_nil) sd_chp_17
set_option maxHeartbeats 4000000 in
theorem mt_chk (l : Launch) (d : Nat) (H0 : Heap) (i n : Int32) (h0 : ¬ i < 0) (h1 : i < n) : Met l sy_chk (Cond.code sy_chk sb_chk 2 (none) :: GT) (rms (d + 1) 0 0) (Pr D z0 oa ca L xs [.int i, .int n] H0) (Qr (none)) 0 0 (fun _ => False) := by
  refine Met.ofW (cc := sb_chk) (maxL := 2) (ret := none) sp_chk rfl ?_
  intro p e s m args below meth c s₁ B hml hv
  obtain ⟨rfl, hH, hSW⟩ := hv
  have hx := B.exec
  have hb := B.bytes
  have hr := B.returns
  have hts : ∀ w ∈ GT, w.before _ s = true := fun w hw => atoms_spec (ws := Cond.code sy_chk sb_chk 2 (none) :: GT) B.pre w (List.mem_cons_of_mem _ hw)
  have hown : s.vm.findClass "java/lang/String" = some m.cls := findClass_of_methodNamed B.named
  have hlocks := B.notSynchronized
  have hS : va_S (fun q => z0 ≤ q) s.heap s.heap [] := va_S.rf
  have hvk := hSW.2.2.2.2.2.2.1
  have hl := lv_entry ([.int i, .int n]) (n := 2) (Nat.le_of_ble_eq_true rfl)
  rw [lg_entry_eq]
  generalize (lg_sl ([.int i, .int n]) ++ List.replicate (2 - (lg_sl ([.int i, .int n])).length) Slot.unset).toArray = ls at hl ⊢
  have hl : lv_has ls 2 [(0, .int i), (1, .int n)] := hl
  refine lv_iload_n hx hb sd_chk_0 rfl (lv_at hl 0 rfl) ?_
  refine lv_iload_n hx hb sd_chk_1 rfl (lv_at hl 1 rfl) ?_
  obtain ⟨r, hZ⟩ : ∃ r : Option Nat, va_Z "jdk/internal/util/Preconditions" "SIOOBE_FORMATTER" "Ljava/util/function/BiFunction;" (va_rf r) (fun q => z0 ≤ q) s s.heap := by rcases hSW.2.2.2.2.2.2.2.2 with q | ⟨t, q⟩; exact ⟨none, q⟩; exact ⟨some t, q⟩
  refine va_gets hx hb hZ hS hown (hts _ (gt sf_String_1053 rfl)) (fun _ q => q) sd_chk_2 ?_
  refine ro_call (va_runS (As := [.int i, .int n, va_rf r]) (rest := []) ⟨hx, hb, hml, hown, hts⟩ (mt_chp l d s.heap i n r h0 h1) ⟨callB_of (R := (headSpec _ (rms (d + 1) 0 0)).room) (rm := rms d 0 0) (own := "java/lang/String") (index := 1059) 3 hts (good_ws2 sc_chp) rfl rfl rfl (hts _ (gt sini_p rfl)) (hts _ (gt sm_String_1059 rfl)) sn_chp (rms_ok (by decide) (Nat.le_refl _)), hts _ (gt ss_chp rfl)⟩ ⟨Pr_blind, fun U hU hW => ⟨rfl, hU, SW.warm hW (fun q q1 q2 => by rw [hU]) hSW⟩⟩ rfl rfl hl.1 rfl (lv_room (by decide)) sd_chk_5 ⟨Nat.le_refl _, Nat.le_refl _⟩) ?_
  refine lv_pop (va := .int i) hx hb sd_chk_8 rfl ?_
  exact W.vret hx hb hr (fun t ht hW => ⟨rfl, ht⟩) (fun q hq => absurd hq List.not_mem_nil) sd_chk_9
set_option maxHeartbeats 4000000 in
theorem mt_ch1 (l : Launch) (d : Nat) (H0 : Heap) (j : Nat) (hj : j < 183) : Met l sy_ch1 (Cond.code sy_ch1 sb_ch1 2 (some .char) :: GT) (rms (d + 1 + 1) 0 0) (Pr D z0 oa ca L xs [.ref (oa 6), .int (Int32.ofInt j)] H0) (Qr (some (.int (KWB.getD j 0)))) 0 0 (fun _ => False) := by
  refine Met.ofW (cc := sb_ch1) (maxL := 2) (ret := some .char) sp_ch1 rfl ?_
  intro p e s m args below meth c s₁ B hml hv
  obtain ⟨rfl, hH, hSW⟩ := hv
  have hx := B.exec
  have hb := B.bytes
  have hr := B.returns
  have hts : ∀ w ∈ GT, w.before _ s = true := fun w hw => atoms_spec (ws := Cond.code sy_ch1 sb_ch1 2 (some .char) :: GT) B.pre w (List.mem_cons_of_mem _ hw)
  have hown : s.vm.findClass "java/lang/StringLatin1" = some m.cls := findClass_of_methodNamed B.named
  have hlocks := B.notSynchronized
  have hS : va_S (fun q => z0 ≤ q) s.heap s.heap [] := va_S.rf
  have hvk := hSW.2.2.2.2.2.2.1
  have hl := lv_entry ([.ref (oa 6), .int (Int32.ofInt j)]) (n := 2) (Nat.le_of_ble_eq_true rfl)
  rw [lg_entry_eq]
  generalize (lg_sl ([.ref (oa 6), .int (Int32.ofInt j)]) ++ List.replicate (2 - (lg_sl ([.ref (oa 6), .int (Int32.ofInt j)])).length) Slot.unset).toArray = ls at hl ⊢
  have hl : lv_has ls 2 [(0, .ref (oa 6)), (1, .int (Int32.ofInt j))] := hl
  have h0 : ¬ Int32.ofInt (j : Int) < 0 := by rw [i_lt0 (by unfold r32; omega)]; omega
  have h1 : Int32.ofInt (j : Int) < 183 := by rw [show (183 : Int32) = Int32.ofInt 183 from rfl, i_lt (by unfold r32; omega) (by unfold r32; omega)]; omega
  refine lv_iload_n hx hb sd_ch1_0 rfl (lv_at hl 1 rfl) ?_
  refine lv_aload_n hx hb sd_ch1_1 rfl (lv_at hl 0 rfl) ?_
  refine va_tlen (v := 183) hx hb (hvk.1 0 (by decide)).2.2.2 hS (by decide) sd_ch1_2 ?_
  refine ro_call (va_runS (As := [.int (Int32.ofInt j), .int 183]) (rest := []) ⟨hx, hb, hml, hown, hts⟩ (mt_chk l d s.heap (Int32.ofInt j) 183 h0 h1) ⟨callB_of (R := (headSpec _ (rms (d + 1 + 1) 0 0)).room) (rm := rms (d + 1) 0 0) (own := "java/lang/StringLatin1") (index := 9) 2 hts (good_ws2 sc_chk) rfl rfl rfl (hts _ (gt sini_s rfl)) (hts _ (gt sm_StringLatin1_9 rfl)) sn_chk (rms_ok (by decide) (Nat.le_refl _)), hts _ (gt ss_chk rfl)⟩ ⟨Pr_blind, fun U hU hW => ⟨rfl, hU, SW.warm hW (fun q q1 q2 => by rw [hU]) hSW⟩⟩ rfl rfl hl.1 rfl (lv_room (by decide)) sd_ch1_3 ⟨Nat.le_refl _, Nat.le_refl _⟩) ?_
  refine lv_aload_n hx hb sd_ch1_6 rfl (lv_at hl 0 rfl) ?_
  refine lv_iload_n hx hb sd_ch1_7 rfl (lv_at hl 1 rfl) ?_
  refine va_tb (v := .int (KWB.getD j 0)) hx hb (hvk.1 0 (by decide)).2.2.2 hS (show vp_in _ 183 from i_in (by omega) (by omega) (by decide)) (by rw [i_clamp (by omega) (by omega)]; rfl) sd_ch1_8 ?_
  refine lv_sipush (v := 255) hx hb sd_ch1_9 (by decide) ?_
  refine lv_iand hx hb sd_ch1_12 ?_
  have hkw := KW_and j hj
  refine lv_i2c (v := KWB.getD j 0) hx hb sd_ch1_13 (by rw [hkw.1]; exact hkw.2.1) ?_
  have hnar := hkw.2.2
  exact W.zret (ty := .char) hx hb hr (by first | rfl | exact hnar) (fun t ht hW => ⟨rfl, ht⟩) (fun q hq => absurd hq List.not_mem_nil) sd_ch1_14
set_option maxHeartbeats 4000000 in
theorem mt_chr (l : Launch) (d : Nat) (H0 : Heap) (j : Nat) (hj : j < 183) : Met l sy_chr (Cond.code sy_chr sb_chr 2 (some .char) :: GT) (rms (d + 3) 0 0) (Pr D z0 oa ca L xs [.ref (oa 5), .int (Int32.ofInt j)] H0) (Qr (some (.int (KWB.getD j 0)))) 0 0 (fun _ => False) := by
  refine Met.ofW (cc := sb_chr) (maxL := 2) (ret := some .char) sp_chr rfl ?_
  intro p e s m args below meth c s₁ B hml hv
  obtain ⟨rfl, hH, hSW⟩ := hv
  have hx := B.exec
  have hb := B.bytes
  have hr := B.returns
  have hts : ∀ w ∈ GT, w.before _ s = true := fun w hw => atoms_spec (ws := Cond.code sy_chr sb_chr 2 (some .char) :: GT) B.pre w (List.mem_cons_of_mem _ hw)
  have hown : s.vm.findClass "java/lang/String" = some m.cls := findClass_of_methodNamed B.named
  have hlocks := B.notSynchronized
  have hS : va_S (fun q => z0 ≤ q) s.heap s.heap [] := va_S.rf
  have hvk := hSW.2.2.2.2.2.2.1
  have hl := lv_entry ([.ref (oa 5), .int (Int32.ofInt j)]) (n := 2) (Nat.le_of_ble_eq_true rfl)
  rw [lg_entry_eq]
  generalize (lg_sl ([.ref (oa 5), .int (Int32.ofInt j)]) ++ List.replicate (2 - (lg_sl ([.ref (oa 5), .int (Int32.ofInt j)])).length) Slot.unset).toArray = ls at hl ⊢
  have hl : lv_has ls 2 [(0, .ref (oa 5)), (1, .int (Int32.ofInt j))] := hl
  refine lv_aload_n hx hb sd_chr_0 rfl (lv_at hl 0 rfl) ?_
  refine ro_call (va_runV (b := oa 5) (C := "java/lang/String") (As := []) (rest := []) ⟨hx, hb, hml, hown, hts⟩ (mt_lat l d s.heap) ⟨callB_of (R := (headSpec _ (rms (d + 3) 0 0)).room) (rm := rms d 0 0) (own := "java/lang/String") (index := 492) 0 hts (good_ws2 sc_lat) rfl rfl rfl (hts _ (gt sini_s rfl)) (hts _ (gt sm_String_492 rfl)) sn_lat (rms_ok (by decide) (Nat.le_add_right (d + 1) 2)), hts _ (gt si_lat rfl), hts _ (gt sv_lat rfl)⟩ ⟨Pr_blind, vk_recv (i := 0) hvk (by decide) hS, fun U hU hW => ⟨rfl, hU, SW.warm hW (fun q q1 q2 => by rw [hU]) hSW⟩⟩ rfl rfl hl.1 rfl (lv_room (by decide)) sd_chr_1 ⟨Nat.le_refl _, Nat.le_refl _⟩) ?_
  refine lv_if_eq (tgt := 16) hx hb sd_chr_4 (by decide) (fun q => absurd q (by decide)) (fun _ => ?_)
  refine lv_aload_n hx hb sd_chr_7 rfl (lv_at hl 0 rfl) ?_
  refine vk_getf hx hb (hvk.1 0 (by decide)).2.2.1 hS hown (hts _ (gt sf_String_9 rfl)) (fun _ q => q) sd_chr_8 ?_
  refine lv_iload_n hx hb sd_chr_11 rfl (lv_at hl 1 rfl) ?_
  refine ro_call (va_runS (As := [.ref (oa 6), .int (Int32.ofInt j)]) (rest := []) ⟨hx, hb, hml, hown, hts⟩ (mt_ch1 l d s.heap j hj) ⟨callB_of (R := (headSpec _ (rms (d + 3) 0 0)).room) (rm := rms (d + 1 + 1) 0 0) (own := "java/lang/String") (index := 495) 2 hts (good_ws2 sc_ch1) rfl rfl rfl (hts _ (gt sini_l rfl)) (hts _ (gt sm_String_495 rfl)) sn_ch1 (rms_ok (by decide) (Nat.le_refl _)), hts _ (gt ss_ch1 rfl)⟩ ⟨Pr_blind, fun U hU hW => ⟨rfl, hU, SW.warm hW (fun q q1 q2 => by rw [hU]) hSW⟩⟩ rfl rfl hl.1 rfl (lv_room (by decide)) sd_chr_12 ⟨Nat.le_refl _, Nat.le_refl _⟩) ?_
  have hnar := (KW_and j hj).2.2
  exact W.zret (ty := .char) hx hb hr (by first | rfl | exact hnar) (fun t ht hW => ⟨rfl, ht⟩) (fun q hq => absurd hq List.not_mem_nil) sd_chr_15
end StrC
section Str
variable {p : Program} {l : Launch} {e : Env} {R : Room} {s : State} {m : MethodId} {args : Array Value} {below : List Frame} {meth : Method} {c : Code} {H : Heap} {locs : List Loc} {cells slots : Nat} {Q : State → Prop}
variable {D : va_G} {z0 : Nat} {oa : Nat → Nat} {ca : Nat → ClassId} {L : Nat} {xs : Nat → Int} {cc : ByteArray} {pc : Nat} {rl : Array Slot} {rest : List Value}
theorem s_strlen (hx : p.tables.exec = Jvm.exec) (hb : c.code = cc) (hml : c.maxLocals = rl.size) (hown : s.vm.findClass (cN 9) = some m.cls) (hts : ∀ w ∈ GT, w.before args s = true) (hSW : SW D z0 oa ca L xs s) (hS : va_S (fun q => z0 ≤ q) s.heap H locs) (hrest : rest.length ≤ 4) (hR1 : 8 ≤ R.frames) (hR2 : 480 ≤ R.locals) (hcells : cells ≤ R.cells) (hslots : slots ≤ R.slots) (hdg : decode cc pc = .ok (.invokevirtual 31, 3))
    (kk : W p l e R s m args below meth c H locs cells slots Q (F0 m (pc + 3) rl (.int 183 :: rest))) : W p l e R s m args below meth c H locs cells slots Q (F0 m pc rl (.ref (oa 5) :: rest)) := by
  have hcb := callB_of (R := R) (rm := rms (0 + 1) 0 0) (own := cN 9) (index := 31) 0 hts (good_ws2 sc_len) rfl rfl rfl (hts _ (gt sini_s rfl)) (hts _ (gt sm_Tape_31 rfl)) sn_len ⟨by show _ ≤ _; exact Nat.le_trans (by decide) hR1, Nat.le_trans (by decide) hR2⟩
  exact ro_call (v := some (.int 183)) (va_runV (b := oa 5) (C := "java/lang/String") (As := []) (rest := rest) (nL := rl.size) ⟨hx, hb, hml, hown, hts⟩ (mt_len (D := D) (z0 := z0) (oa := oa) (ca := ca) (L := L) (xs := xs) l 0 H) ⟨hcb, hts _ (gt si_len rfl), hts _ (gt sv_len rfl)⟩ ⟨Pr_blind, vk_recv (i := 0) hSW.2.2.2.2.2.2.1 (by decide) hS, fun U hU hW => ⟨rfl, hU, SW.warm hW (fun q q1 q2 => by rw [hU]; exact hS.2.1 q q1 q2) hSW⟩⟩ rfl rfl rfl rfl (lv_room (Nat.le_trans (cat_sum rest) (by omega))) hdg ⟨hcells, hslots⟩) kk
theorem s_charAt {j : Int} (h0 : 0 ≤ j) (h1 : j < 183) (hx : p.tables.exec = Jvm.exec) (hb : c.code = cc) (hml : c.maxLocals = rl.size) (hown : s.vm.findClass (cN 9) = some m.cls) (hts : ∀ w ∈ GT, w.before args s = true) (hSW : SW D z0 oa ca L xs s) (hS : va_S (fun q => z0 ≤ q) s.heap H locs) (hrest : rest.length ≤ 4) (hR1 : 8 ≤ R.frames) (hR2 : 480 ≤ R.locals) (hcells : cells ≤ R.cells) (hslots : slots ≤ R.slots) (hdg : decode cc pc = .ok (.invokevirtual 37, 3))
    (kk : W p l e R s m args below meth c H locs cells slots Q (F0 m (pc + 3) rl (.int (Int32.ofInt (KWI.getD j.toNat 0)) :: rest))) : W p l e R s m args below meth c H locs cells slots Q (F0 m pc rl (.int (Int32.ofInt j) :: .ref (oa 5) :: rest)) := by
  have hcb := callB_of (R := R) (rm := rms (0 + 3) 0 0) (own := cN 9) (index := 37) 1 hts (good_ws2 sc_chr) rfl rfl rfl (hts _ (gt sini_s rfl)) (hts _ (gt sm_Tape_37 rfl)) sn_chr ⟨by show _ ≤ _; exact Nat.le_trans (by decide) hR1, Nat.le_trans (by decide) hR2⟩
  rw [KW_ok _ (by omega)] at kk
  have hj : ((j.toNat : Nat) : Int) = j := by omega
  have hM := mt_chr (D := D) (z0 := z0) (oa := oa) (ca := ca) (L := L) (xs := xs) l 0 H j.toNat (by omega)
  rw [hj] at hM
  exact ro_call (v := some (.int (KWB.getD j.toNat 0))) (va_runV (b := oa 5) (C := "java/lang/String") (As := [.int (Int32.ofInt j)]) (rest := rest) (nL := rl.size) ⟨hx, hb, hml, hown, hts⟩ hM ⟨hcb, hts _ (gt si_chr rfl), hts _ (gt sv_chr rfl)⟩ ⟨Pr_blind, vk_recv (i := 0) hSW.2.2.2.2.2.2.1 (by decide) hS, fun U hU hW => ⟨rfl, hU, SW.warm hW (fun q q1 q2 => by rw [hU]; exact hS.2.1 q q1 q2) hSW⟩⟩ rfl rfl rfl rfl (lv_room (Nat.le_trans (cat_sum rest) (by omega))) hdg ⟨hcells, hslots⟩) kk
theorem KWI_all : ∀ j, j < 183 → 0 ≤ KWI.getD j 0 ∧ KWI.getD j 0 < 256 := by decide +kernel
theorem KWI_r (j : Nat) : 0 ≤ KWI.getD j 0 ∧ KWI.getD j 0 < 256 := by
  by_cases h : j < 183
  · exact KWI_all j h
  · rw [List.getD_eq_getElem?_getD, List.getElem?_eq_none (by rw [show KWI.length = 183 from by decide +kernel]; omega)]; decide
end Str
