/-! ===== the machine follows the small one: every instruction (text laid by gensim4.py) ===== -/
theorem sim_call {p : Program} {l : Launch} {e : Env} {R : Room} {s : State} {m : MethodId} {args : Array Value} {below : List Frame} {meth : Method} {c : Code} {H : Heap} {locs : List Loc} {cells slots : Nat} {Q : State → Prop} {D : va_G} {z0 : Nat} {oa : Nat → Nat} {ca : Nat → ClassId} {L : Nat} {xs : Nat → Int} {v : Option MV} {h1 : MH} {a : Array Value} {mc ms pc : Nat} {rl : Array Slot} {st0 rest : List Value}
    (hr : va_Run p l e R s m args below meth c H locs cells slots mc ms (F0 m pc rl st0) rest (fun st o t => Qw D z0 oa ca v h1 a st o t ∧ WF h1 ∧ STR L xs h1 ∧ RVo v) (fun q => z0 ≤ q)) (hS : va_S (fun q => z0 ≤ q) s.heap H locs)
    (kk : ∀ (H1 : Heap) (locs1 : List Loc), WD D z0 oa ca h1 H1 → va_S (fun q => z0 ≤ q) s.heap H1 locs1 → WF h1 → STR L xs h1 → RVo v → W p l e R s m args below meth c H1 locs1 (cells + mc) (slots + ms) Q (F0 m (pc + 3) rl ((v.map (trv z0 oa)).toList ++ rest))) : W p l e R s m args below meth c H locs cells slots Q (F0 m pc rl st0) := by
  intro T hT X
  obtain ⟨v', st₀, t, T', L, h0, X', hL, e1, e2, ⟨⟨hv, hwd, hz, hk⟩, hwf, hst, hrv⟩, st⟩ := hr T hT X
  cases hv
  rw [h0] at hz hk
  obtain ⟨t2, a1, b1⟩ := kk T'.heap (locs ++ L) (by rw [e1]; exact hwd) ⟨Nat.le_trans hS.1 (by rw [e1]; exact hz), fun q h1 h2 => by rw [e1, hk q (Nat.lt_of_lt_of_le h1 hS.1) h2]; exact hS.2.1 q h1 h2, fun q hq => by
      rcases List.mem_append.mp hq with h | h
      · exact hS.2.2 q h
      · exact hL q h⟩ hwf hst hrv T' rfl X'
  exact ⟨t2, st t2 a1, b1⟩
theorem b8_32 {n : Int} (h : -128 ≤ n ∧ n < 128) : (Int8.ofInt n).toInt32 = Int32.ofInt n := by
  apply Int32.toInt_inj.mp
  rw [Int8.toInt_toInt32, Int8.toInt_ofInt, i_of (by unfold r32; omega)]
  show n.bmod 256 = n
  exact Int.bmod_eq_of_le (by omega) (by omega)
theorem b16_32 {n : Int} (h : -32768 ≤ n ∧ n < 32768) : (Int16.ofInt n).toInt32 = Int32.ofInt n := by
  apply Int32.toInt_inj.mp
  rw [Int16.toInt_toInt32, Int16.toInt_ofInt, i_of (by unfold r32; omega)]
  show n.bmod 65536 = n
  exact Int.bmod_eq_of_le (by omega) (by omega)
theorem cmp_of {u v : Int} (hu : r64 u) (hv : r64 v) : lg_cmp (Int64.ofInt u) (Int64.ofInt v) = Int32.ofInt (j_cmp u v) := by
  unfold lg_cmp j_cmp
  simp only [gt_iff_lt, l_lt hv hu, l_eq hu hv]
  by_cases h1 : v < u
  · rw [if_pos h1, if_neg (by omega), if_neg (by omega)]; rfl
  · rw [if_neg h1]
    by_cases h2 : u = v
    · rw [if_pos h2, if_pos h2]; rfl
    · rw [if_neg h2, if_neg h2, if_pos (by omega)]; rfl
theorem c16_32 {n : Int} (h : 0 ≤ n ∧ n < 65536) : ((Int32.ofInt n).toUInt32 % 65536).toInt32 = Int32.ofInt n := by
  rw [pk_char]
  have e : Int32.ofInt n = nI n.toNat := by
    apply Int32.toInt_inj.mp
    rw [i_of (by unfold r32; omega), nI_toInt (by omega)]; omega
  rw [e, pk_tn (by omega), Nat.mod_eq_of_lt (by omega)]
theorem nfl_le (ci : Nat) : nfl ci ≤ 42 := by
  by_cases h : ci < 13
  · rcases (show ci = 0 ∨ ci = 1 ∨ ci = 2 ∨ ci = 3 ∨ ci = 4 ∨ ci = 5 ∨ ci = 6 ∨ ci = 7 ∨ ci = 8 ∨ ci = 9 ∨ ci = 10 ∨ ci = 11 ∨ ci = 12 by omega) with rfl | rfl | rfl | rfl | rfl | rfl | rfl | rfl | rfl | rfl | rfl | rfl | rfl <;> decide
  · unfold nfl; rw [List.getD_eq_getElem?_getD, List.getElem?_eq_none (by simpa using h)]; simp
theorem look_in {α : Type} {idx : Nat} {q : α} : ∀ {L : List (Nat × α)}, L.lookup idx = some q → (idx, q) ∈ L
  | [], h => by cases h
  | (a, b) :: r, h => by
    rw [List.lookup_cons] at h
    by_cases e : idx = a
    · subst e
      simp only [beq_self_eq_true] at h
      cases h; exact List.mem_cons_self
    · rw [show (idx == a) = false from beq_eq_false_iff_ne.mpr e] at h
      exact List.mem_cons_of_mem _ (look_in h)
theorem tab_all {α : Type} {P : Nat → α → Prop} : ∀ (Ts : List (List α)), (∀ (j : Nat) (L : List α), Ts[j]? = some L → ∀ q ∈ L, P j q) → ∀ oc, ∀ q ∈ Ts.getD oc [], P oc q := by
  intro Ts h oc q hq
  cases ht : Ts[oc]? with
  | none => rw [List.getD_eq_getElem?_getD, ht] at hq; cases hq
  | some L => rw [List.getD_eq_getElem?_getD, ht] at hq; exact h oc L ht q hq
theorem kl_all : ∀ oc, ∀ q ∈ klT.getD oc [], KLok oc q.1 q.2 := tab_all (P := fun oc q => KLok oc q.1 q.2) klT (by
  intro j L hj
  have hl : j < 16 := (List.getElem?_eq_some_iff.mp hj).1
  rcases (show j = 0 ∨ j = 1 ∨ j = 2 ∨ j = 3 ∨ j = 4 ∨ j = 5 ∨ j = 6 ∨ j = 7 ∨ j = 8 ∨ j = 9 ∨ j = 10 ∨ j = 11 ∨ j = 12 ∨ j = 13 ∨ j = 14 ∨ j = 15 by omega) with rfl | rfl | rfl | rfl | rfl | rfl | rfl | rfl | rfl | rfl | rfl | rfl | rfl | rfl | rfl | rfl <;> cases hj
  · exact kl0_ok
  · exact kl1_ok
  · exact kl2_ok
  · exact kl3_ok
  · exact kl4_ok
  · exact kl5_ok
  · exact kl6_ok
  · exact kl7_ok
  · exact kl8_ok
  · exact kl9_ok
  · exact kl10_ok
  · exact kl11_ok
  · exact kl12_ok
  · exact kl13_ok
  · exact kl14_ok
  · exact kl15_ok)
theorem jl_all : ∀ oc, ∀ q ∈ jlT.getD oc [], JLok oc q.1 q.2 := tab_all (P := fun oc q => JLok oc q.1 q.2) jlT (by
  intro j L hj
  have hl : j < 16 := (List.getElem?_eq_some_iff.mp hj).1
  rcases (show j = 0 ∨ j = 1 ∨ j = 2 ∨ j = 3 ∨ j = 4 ∨ j = 5 ∨ j = 6 ∨ j = 7 ∨ j = 8 ∨ j = 9 ∨ j = 10 ∨ j = 11 ∨ j = 12 ∨ j = 13 ∨ j = 14 ∨ j = 15 by omega) with rfl | rfl | rfl | rfl | rfl | rfl | rfl | rfl | rfl | rfl | rfl | rfl | rfl | rfl | rfl | rfl <;> cases hj
  · exact jl0_ok
  · exact jl1_ok
  · exact jl2_ok
  · exact jl3_ok
  · exact jl4_ok
  · exact jl5_ok
  · exact jl6_ok
  · exact jl7_ok
  · exact jl8_ok
  · exact jl9_ok
  · exact jl10_ok
  · exact jl11_ok
  · exact jl12_ok
  · exact jl13_ok
  · exact jl14_ok
  · exact jl15_ok)
theorem fl_all : ∀ oc, ∀ q ∈ flT.getD oc [], FLok oc q.1 q.2.1 q.2.2 := tab_all (P := fun oc q => FLok oc q.1 q.2.1 q.2.2) flT (by
  intro j L hj
  have hl : j < 16 := (List.getElem?_eq_some_iff.mp hj).1
  rcases (show j = 0 ∨ j = 1 ∨ j = 2 ∨ j = 3 ∨ j = 4 ∨ j = 5 ∨ j = 6 ∨ j = 7 ∨ j = 8 ∨ j = 9 ∨ j = 10 ∨ j = 11 ∨ j = 12 ∨ j = 13 ∨ j = 14 ∨ j = 15 by omega) with rfl | rfl | rfl | rfl | rfl | rfl | rfl | rfl | rfl | rfl | rfl | rfl | rfl | rfl | rfl | rfl <;> cases hj
  · exact fl0_ok
  · exact fl1_ok
  · exact fl2_ok
  · exact fl3_ok
  · exact fl4_ok
  · exact fl5_ok
  · exact fl6_ok
  · exact fl7_ok
  · exact fl8_ok
  · exact fl9_ok
  · exact fl10_ok
  · exact fl11_ok
  · exact fl12_ok
  · exact fl13_ok
  · exact fl14_ok
  · exact fl15_ok)
theorem ml_all : ∀ oc, ∀ q ∈ mlT.getD oc [], MLok oc q.1 q.2 := tab_all (P := fun oc q => MLok oc q.1 q.2) mlT (by
  intro j L hj
  have hl : j < 16 := (List.getElem?_eq_some_iff.mp hj).1
  rcases (show j = 0 ∨ j = 1 ∨ j = 2 ∨ j = 3 ∨ j = 4 ∨ j = 5 ∨ j = 6 ∨ j = 7 ∨ j = 8 ∨ j = 9 ∨ j = 10 ∨ j = 11 ∨ j = 12 ∨ j = 13 ∨ j = 14 ∨ j = 15 by omega) with rfl | rfl | rfl | rfl | rfl | rfl | rfl | rfl | rfl | rfl | rfl | rfl | rfl | rfl | rfl | rfl <;> cases hj
  · exact ml0_ok
  · exact ml1_ok
  · exact ml2_ok
  · exact ml3_ok
  · exact ml4_ok
  · exact ml5_ok
  · exact ml6_ok
  · exact ml7_ok
  · exact ml8_ok
  · exact ml9_ok
  · exact ml10_ok
  · exact ml11_ok
  · exact ml12_ok
  · exact ml13_ok
  · exact ml14_ok
  · exact ml15_ok)
theorem nl_all : ∀ oc, ∀ q ∈ nlT.getD oc [], NLok oc q.1 q.2 := tab_all (P := fun oc q => NLok oc q.1 q.2) nlT (by
  intro j L hj
  have hl : j < 16 := (List.getElem?_eq_some_iff.mp hj).1
  rcases (show j = 0 ∨ j = 1 ∨ j = 2 ∨ j = 3 ∨ j = 4 ∨ j = 5 ∨ j = 6 ∨ j = 7 ∨ j = 8 ∨ j = 9 ∨ j = 10 ∨ j = 11 ∨ j = 12 ∨ j = 13 ∨ j = 14 ∨ j = 15 by omega) with rfl | rfl | rfl | rfl | rfl | rfl | rfl | rfl | rfl | rfl | rfl | rfl | rfl | rfl | rfl | rfl <;> cases hj
  · exact nl0_ok
  · exact nl1_ok
  · exact nl2_ok
  · exact nl3_ok
  · exact nl4_ok
  · exact nl5_ok
  · exact nl6_ok
  · exact nl7_ok
  · exact nl8_ok
  · exact nl9_ok
  · exact nl10_ok
  · exact nl11_ok
  · exact nl12_ok
  · exact nl13_ok
  · exact nl14_ok
  · exact nl15_ok)
theorem cl_all : ∀ oc, ∀ q ∈ clT.getD oc [], CLok oc q.1 q.2 := tab_all (P := fun oc q => CLok oc q.1 q.2) clT (by
  intro j L hj
  have hl : j < 16 := (List.getElem?_eq_some_iff.mp hj).1
  rcases (show j = 0 ∨ j = 1 ∨ j = 2 ∨ j = 3 ∨ j = 4 ∨ j = 5 ∨ j = 6 ∨ j = 7 ∨ j = 8 ∨ j = 9 ∨ j = 10 ∨ j = 11 ∨ j = 12 ∨ j = 13 ∨ j = 14 ∨ j = 15 by omega) with rfl | rfl | rfl | rfl | rfl | rfl | rfl | rfl | rfl | rfl | rfl | rfl | rfl | rfl | rfl | rfl <;> cases hj
  · exact cl0_ok
  · exact cl1_ok
  · exact cl2_ok
  · exact cl3_ok
  · exact cl4_ok
  · exact cl5_ok
  · exact cl6_ok
  · exact cl7_ok
  · exact cl8_ok
  · exact cl9_ok
  · exact cl10_ok
  · exact cl11_ok
  · exact cl12_ok
  · exact cl13_ok
  · exact cl14_ok
  · exact cl15_ok)
theorem stl_all : ∀ oc, ∀ q ∈ stlT.getD oc [], SLok oc q.1 q.2 := tab_all (P := fun oc q => SLok oc q.1 q.2) stlT (by
  intro j L hj
  have hl : j < 16 := (List.getElem?_eq_some_iff.mp hj).1
  rcases (show j = 0 ∨ j = 1 ∨ j = 2 ∨ j = 3 ∨ j = 4 ∨ j = 5 ∨ j = 6 ∨ j = 7 ∨ j = 8 ∨ j = 9 ∨ j = 10 ∨ j = 11 ∨ j = 12 ∨ j = 13 ∨ j = 14 ∨ j = 15 by omega) with rfl | rfl | rfl | rfl | rfl | rfl | rfl | rfl | rfl | rfl | rfl | rfl | rfl | rfl | rfl | rfl <;> cases hj
  · exact stl0_ok
  · exact stl1_ok
  · exact stl2_ok
  · exact stl3_ok
  · exact stl4_ok
  · exact stl5_ok
  · exact stl6_ok
  · exact stl7_ok
  · exact stl8_ok
  · exact stl9_ok
  · exact stl10_ok
  · exact stl11_ok
  · exact stl12_ok
  · exact stl13_ok
  · exact stl14_ok
  · exact stl15_ok)
theorem ol_all : ∀ oc, ∀ q ∈ olT.getD oc [], OLok oc q := tab_all (P := fun oc q => OLok oc q) olT (by
  intro j L hj
  have hl : j < 16 := (List.getElem?_eq_some_iff.mp hj).1
  rcases (show j = 0 ∨ j = 1 ∨ j = 2 ∨ j = 3 ∨ j = 4 ∨ j = 5 ∨ j = 6 ∨ j = 7 ∨ j = 8 ∨ j = 9 ∨ j = 10 ∨ j = 11 ∨ j = 12 ∨ j = 13 ∨ j = 14 ∨ j = 15 by omega) with rfl | rfl | rfl | rfl | rfl | rfl | rfl | rfl | rfl | rfl | rfl | rfl | rfl | rfl | rfl | rfl <;> cases hj
  · exact ol0_ok
  · exact ol1_ok
  · exact ol2_ok
  · exact ol3_ok
  · exact ol4_ok
  · exact ol5_ok
  · exact ol6_ok
  · exact ol7_ok
  · exact ol8_ok
  · exact ol9_ok
  · exact ol10_ok
  · exact ol11_ok
  · exact ol12_ok
  · exact ol13_ok
  · exact ol14_ok
  · exact ol15_ok)
theorem al_all : ∀ oc, ∀ q ∈ alT.getD oc [], ALok oc q := tab_all (P := fun oc q => ALok oc q) alT (by
  intro j L hj
  have hl : j < 16 := (List.getElem?_eq_some_iff.mp hj).1
  rcases (show j = 0 ∨ j = 1 ∨ j = 2 ∨ j = 3 ∨ j = 4 ∨ j = 5 ∨ j = 6 ∨ j = 7 ∨ j = 8 ∨ j = 9 ∨ j = 10 ∨ j = 11 ∨ j = 12 ∨ j = 13 ∨ j = 14 ∨ j = 15 by omega) with rfl | rfl | rfl | rfl | rfl | rfl | rfl | rfl | rfl | rfl | rfl | rfl | rfl | rfl | rfl | rfl <;> cases hj
  · exact al0_ok
  · exact al1_ok
  · exact al2_ok
  · exact al3_ok
  · exact al4_ok
  · exact al5_ok
  · exact al6_ok
  · exact al7_ok
  · exact al8_ok
  · exact al9_ok
  · exact al10_ok
  · exact al11_ok
  · exact al12_ok
  · exact al13_ok
  · exact al14_ok
  · exact al15_ok)
theorem hl_all : ∀ oc, ∀ q ∈ hlT.getD oc [], HLok oc q.1 q.2 := tab_all (P := fun oc q => HLok oc q.1 q.2) hlT (by
  intro j L hj
  have hl : j < 16 := (List.getElem?_eq_some_iff.mp hj).1
  rcases (show j = 0 ∨ j = 1 ∨ j = 2 ∨ j = 3 ∨ j = 4 ∨ j = 5 ∨ j = 6 ∨ j = 7 ∨ j = 8 ∨ j = 9 ∨ j = 10 ∨ j = 11 ∨ j = 12 ∨ j = 13 ∨ j = 14 ∨ j = 15 by omega) with rfl | rfl | rfl | rfl | rfl | rfl | rfl | rfl | rfl | rfl | rfl | rfl | rfl | rfl | rfl | rfl <;> cases hj
  · exact hl0_ok
  · exact hl1_ok
  · exact hl2_ok
  · exact hl3_ok
  · exact hl4_ok
  · exact hl5_ok
  · exact hl6_ok
  · exact hl7_ok
  · exact hl8_ok
  · exact hl9_ok
  · exact hl10_ok
  · exact hl11_ok
  · exact hl12_ok
  · exact hl13_ok
  · exact hl14_ok
  · exact hl15_ok)
theorem cat1 {z0 : Nat} {oa : Nat → Nat} {v : MV} (h : (∃ x, v = vi x) ∨ ∃ a, v = vr a) : (trv z0 oa v).category = 1 := by
  rcases h with ⟨x, rfl⟩ | ⟨a, rfl⟩
  · rfl
  · unfold trv rfo
    simp only
    split <;> rfl
theorem look_mem {α : Type} {T : List (List (Nat × α))} {oc idx : Nat} {q : α} (h : fnd T oc idx = some q) : (idx, q) ∈ T.getD oc [] := by
  unfold fnd at h
  exact look_in h
theorem kl_fnd {oc idx : Nat} {v : Int} (h : fnd klT oc idx = some v) : Cond.constant (cN oc) idx (Int32.ofInt v) ∈ lw_tbl := kl_all oc _ (look_mem h)
theorem jl_fnd {oc idx : Nat} {v : Int} (h : fnd jlT oc idx = some v) : Cond.constantLong (cN oc) idx (Int64.ofInt v) ∈ lw_tbl := jl_all oc _ (look_mem h)
abbrev RS (v : MV) : Prop := RV v ∧ v ≠ vj
theorem br_pos {c : Prop} {dc : Decidable c} {a b : MR} {z : Option MV × MH} (hc : c) (h : @ite _ c dc a b = some z) : a = some z := by rw [if_pos hc] at h; exact h
theorem br_neg {c : Prop} {dc : Decidable c} {a b : MR} {z : Option MV × MH} (hc : ¬ c) (h : @ite _ c dc a b = some z) : b = some z := by rw [if_neg hc] at h; exact h
set_option maxHeartbeats 20000000 in
set_option maxRecDepth 10000 in
theorem simI {p : Program} {l : Launch} {ev : Env} {R : Room} {s : State} {m : MethodId} {args : Array Value} {below : List Frame} {meth : Method} {c : Code} {Q : State → Prop} {D : va_G} {z0 : Nat} {oa : Nat → Nat} {ca : Nat → ClassId} {L : Nat} {xs : Nat → Int}
    (d : Nat) (IH : ∀ d', d = d' + 1 → SimOK l D z0 oa ca L xs d') {oc nL rc : Nat} {ini : Bool} {code : List MI} {cc : ByteArray} (hc : COK cc oc nL rc ini code) (hcv : ∀ e ∈ code, okV e = true)
    (hx : p.tables.exec = Jvm.exec) (hb : c.code = cc) (hml : c.maxLocals = nL) (hown : s.vm.findClass (cN oc) = some m.cls) (hts : ∀ w ∈ GT, w.before args s = true) (hSW : SW D z0 oa ca L xs s) (hini : ini = true → meth.name = "<init>") (hR1 : d + 8 ≤ R.frames) (hR2 : 60 * (d + 8) ≤ R.locals)
    (n0 s0 : Nat) (z : Option MV × MH) (hRc : z.2.1.length ≤ n0 + R.cells) (hRs : sls z.2.1 ≤ s0 + R.slots)
    (hret : ∀ (H : Heap) (locs : List Loc) (pc : Nat) (rl : Array Slot), WD D z0 oa ca z.2 H → va_S (fun q => z0 ≤ q) s.heap H locs → WF z.2 → STR L xs z.2 → RVo z.1 → RetOK cc rc z.1 pc → W p l ev R s m args below meth c H locs (z.2.1.length - n0) (sls z.2.1 - s0) Q (F0 m pc rl (z.1.map (trv z0 oa)).toList)) :
    ∀ (n i : Nat) (ls st : List MV) (h : MH) (rl : Array Slot) (H : Heap) (locs : List Loc), exec n d code i ls st h = some z → LR z0 oa ls rl → ls.length = nL → (∀ v ∈ ls, RV v) → (∀ v ∈ st, RS v) → WF h → STR L xs h → WD D z0 oa ca h H → va_S (fun q => z0 ≤ q) s.heap H locs → n0 ≤ h.1.length → s0 ≤ sls h.1 → W p l ev R s m args below meth c H locs (h.1.length - n0) (sls h.1 - s0) Q (F0 m (pcO code i) rl (st.map (trv z0 oa))) := by
  intro n
  induction n with
  | zero => intro i ls st h rl H locs hex; cases hex
  | succ n ih =>
    intro i ls st h rl H locs hex hL hlen hrl hrs hwf hst hwd hS hn hs
    rw [exec] at hex
    cases he : code[i]? with
    | none => rw [he] at hex; cases hex
    | some e =>
    rw [he] at hex
    dsimp only at hex
    obtain ⟨hok, hnx, hdc⟩ := hc i e he
    have hpc : pcO code i = e.1 := by unfold pcO; rw [he]
    rw [hpc]
    have next : ∀ (ls' st' : List MV) (h' : MH) (rl' : Array Slot) (H' : Heap) (locs' : List Loc), exec n d code (i + 1) ls' st' h' = some z → LR z0 oa ls' rl' → ls'.length = nL → (∀ v ∈ ls', RV v) → (∀ v ∈ st', RS v) → WF h' → STR L xs h' → WD D z0 oa ca h' H' → va_S (fun q => z0 ≤ q) s.heap H' locs' → n0 ≤ h'.1.length → s0 ≤ sls h'.1 → W p l ev R s m args below meth c H' locs' (h'.1.length - n0) (sls h'.1 - s0) Q (F0 m (e.1 + e.2.2.1) rl' (st'.map (trv z0 oa))) := by
      intro ls' st' h' rl' H' locs' hex' g1 g2 g3 g4 g5 g6 g7 g8 g9 g10
      have h2 : pcO code (i + 1) = e.1 + e.2.2.1 := by
        cases n with
        | zero => cases hex'
        | succ n =>
          rw [exec] at hex'
          cases he' : code[i + 1]? with
          | none => rw [he'] at hex'; cases hex'
          | some e' =>
            unfold nxI at hnx
            rw [he'] at hnx
            unfold pcO
            rw [he']
            exact of_decide_eq_true hnx
      rw [← h2]
      exact ih (i + 1) ls' st' h' rl' H' locs' hex' g1 g2 g3 g4 g5 g6 g7 g8 g9 g10
    have jump : ∀ (t : Nat) (tgt : Int), okT code t tgt = true → ∃ pc' : Nat, tgt = (pc' : Int) ∧ ∀ (ls' st' : List MV) (h' : MH) (rl' : Array Slot) (H' : Heap) (locs' : List Loc), exec n d code t ls' st' h' = some z → LR z0 oa ls' rl' → ls'.length = nL → (∀ v ∈ ls', RV v) → (∀ v ∈ st', RS v) → WF h' → STR L xs h' → WD D z0 oa ca h' H' → va_S (fun q => z0 ≤ q) s.heap H' locs' → n0 ≤ h'.1.length → s0 ≤ sls h'.1 → W p l ev R s m args below meth c H' locs' (h'.1.length - n0) (sls h'.1 - s0) Q (F0 m pc' rl' (st'.map (trv z0 oa))) := by
      intro t tgt ht
      unfold okT at ht
      simp only [Bool.and_eq_true, decide_eq_true_eq] at ht
      exact ⟨pcO code t, ht.2.symm, fun ls' st' h' rl' H' locs' hex' g1 g2 g3 g4 g5 g6 g7 g8 g9 g10 => ih t ls' st' h' rl' H' locs' hex' g1 g2 g3 g4 g5 g6 g7 g8 g9 g10⟩
    have hdec : ∀ ins, e.2.1 = ins → ins ≠ .athrow → decode cc e.1 = .ok (ins, e.2.2.1) := by
      intro ins h1 h2
      unfold dcI at hdc
      split at hdc
      · rename_i h3; exact absurd (h1.symm.trans h3) h2
      · rw [← h1]; exact of_decide_eq_true hdc
    have hrc := hwd.2.1
    unfold okI at hok
    unfold xop at hex
    split at hex
    · rename_i k heq
      rw [heq] at hok
      simp only [Bool.and_eq_true, beq_iff_eq, decide_eq_true_eq, b32] at hok
      have hd := hdec _ heq (fun q => by cases q)
      rw [hok] at hd next
      obtain ⟨u, hg, hex⟩ := gI_inv hex
      have hv := hL.2.2 _ _ hg (fun q => by cases q)
      refine lv_iload hx hb hd hv ?_
      exact next ls (vi u :: st) h rl H locs hex hL hlen hrl (List.forall_mem_cons.mpr ⟨⟨hrl _ (List.mem_of_getElem? hg), fun q => by cases q⟩, hrs⟩) hwf hst hwd hS hn hs
    · rename_i k heq
      rw [heq] at hok
      simp only [Bool.and_eq_true, beq_iff_eq, decide_eq_true_eq, b32] at hok
      have hd := hdec _ heq (fun q => by cases q)
      rw [hok] at hd next
      obtain ⟨u, hg, hex⟩ := gI_inv hex
      have hv := hL.2.2 _ _ hg (fun q => by cases q)
      refine lv_iload_n hx hb hd rfl hv ?_
      exact next ls (vi u :: st) h rl H locs hex hL hlen hrl (List.forall_mem_cons.mpr ⟨⟨hrl _ (List.mem_of_getElem? hg), fun q => by cases q⟩, hrs⟩) hwf hst hwd hS hn hs
    · rename_i k heq
      rw [heq] at hok
      simp only [Bool.and_eq_true, beq_iff_eq, decide_eq_true_eq, b32] at hok
      have hd := hdec _ heq (fun q => by cases q)
      rw [hok] at hd next
      obtain ⟨u, hg, hex⟩ := gL_inv hex
      have hv := hL.2.2 _ _ hg (fun q => by cases q)
      refine lv_lload hx hb hd hv ?_
      exact next ls (vl u :: st) h rl H locs hex hL hlen hrl (List.forall_mem_cons.mpr ⟨⟨hrl _ (List.mem_of_getElem? hg), fun q => by cases q⟩, hrs⟩) hwf hst hwd hS hn hs
    · rename_i k heq
      rw [heq] at hok
      simp only [Bool.and_eq_true, beq_iff_eq, decide_eq_true_eq, b32] at hok
      have hd := hdec _ heq (fun q => by cases q)
      rw [hok] at hd next
      obtain ⟨u, hg, hex⟩ := gL_inv hex
      have hv := hL.2.2 _ _ hg (fun q => by cases q)
      refine lv_lload_n hx hb hd rfl hv ?_
      exact next ls (vl u :: st) h rl H locs hex hL hlen hrl (List.forall_mem_cons.mpr ⟨⟨hrl _ (List.mem_of_getElem? hg), fun q => by cases q⟩, hrs⟩) hwf hst hwd hS hn hs
    · rename_i k heq
      rw [heq] at hok
      simp only [Bool.and_eq_true, beq_iff_eq, decide_eq_true_eq, b32] at hok
      have hd := hdec _ heq (fun q => by cases q)
      rw [hok] at hd next
      obtain ⟨u, hg, hex⟩ := gR_inv hex
      have hv := hL.2.2 _ _ hg (fun q => by cases q)
      refine q_aload hx hb hd hv ?_
      exact next ls (vr u :: st) h rl H locs hex hL hlen hrl (List.forall_mem_cons.mpr ⟨⟨hrl _ (List.mem_of_getElem? hg), fun q => by cases q⟩, hrs⟩) hwf hst hwd hS hn hs
    · rename_i k heq
      rw [heq] at hok
      simp only [Bool.and_eq_true, beq_iff_eq, decide_eq_true_eq, b32] at hok
      have hd := hdec _ heq (fun q => by cases q)
      rw [hok] at hd next
      obtain ⟨u, hg, hex⟩ := gR_inv hex
      have hv := hL.2.2 _ _ hg (fun q => by cases q)
      refine q_aload_n hx hb hd hv ?_
      exact next ls (vr u :: st) h rl H locs hex hL hlen hrl (List.forall_mem_cons.mpr ⟨⟨hrl _ (List.mem_of_getElem? hg), fun q => by cases q⟩, hrs⟩) hwf hst hwd hS hn hs
    · rename_i k heq
      rw [heq] at hok
      simp only [Bool.and_eq_true, beq_iff_eq, decide_eq_true_eq, b32] at hok
      have hd := hdec _ heq (fun q => by cases q)
      rw [hok.1] at hd next
      obtain ⟨u, r, rfl, hex⟩ := k1_inv hex
      obtain ⟨hu, hr⟩ := List.forall_mem_cons.mp hrs
      have hk : k < ls.length := by rw [hlen]; exact hok.2
      refine lv_istore hx hb hd hL.has hk rfl (fun rl2 hl2 => ?_)
      exact next (sl ls k (vi u)) r h rl2 H locs hex (LR.put1 hk hl2) (by rw [sl_len]; exact hlen) (sl_rv hrl hu.1) hr hwf hst hwd hS hn hs
    · rename_i k heq
      rw [heq] at hok
      simp only [Bool.and_eq_true, beq_iff_eq, decide_eq_true_eq, b32] at hok
      have hd := hdec _ heq (fun q => by cases q)
      rw [hok.1] at hd next
      obtain ⟨u, r, rfl, hex⟩ := k1_inv hex
      obtain ⟨hu, hr⟩ := List.forall_mem_cons.mp hrs
      have hk : k.val < ls.length := by rw [hlen]; exact hok.2
      refine lv_istore_n hx hb hd rfl hL.has hk rfl (fun rl2 hl2 => ?_)
      exact next (sl ls k.val (vi u)) r h rl2 H locs hex (LR.put1 hk hl2) (by rw [sl_len]; exact hlen) (sl_rv hrl hu.1) hr hwf hst hwd hS hn hs
    · rename_i k heq
      rw [heq] at hok
      simp only [Bool.and_eq_true, beq_iff_eq, decide_eq_true_eq, b32] at hok
      have hd := hdec _ heq (fun q => by cases q)
      rw [hok.1] at hd next
      obtain ⟨u, r, rfl, hex⟩ := l1_inv hex
      obtain ⟨hu, hr⟩ := List.forall_mem_cons.mp hrs
      have hk : k + 1 < ls.length := by rw [hlen]; exact hok.2
      refine lv_lstore hx hb hd hL.has hk rfl (fun rl2 hl2 => ?_)
      exact next (sl2 ls k (vl u)) r h rl2 H locs hex (LR.put2 hk hl2) (by rw [sl2_len]; exact hlen) (sl2_rv hrl hu.1) hr hwf hst hwd hS hn hs
    · rename_i k heq
      rw [heq] at hok
      simp only [Bool.and_eq_true, beq_iff_eq, decide_eq_true_eq, b32] at hok
      have hd := hdec _ heq (fun q => by cases q)
      rw [hok.1] at hd next
      obtain ⟨u, r, rfl, hex⟩ := l1_inv hex
      obtain ⟨hu, hr⟩ := List.forall_mem_cons.mp hrs
      have hk : k.val + 1 < ls.length := by rw [hlen]; exact hok.2
      refine lv_lstore_n hx hb hd rfl hL.has hk rfl (fun rl2 hl2 => ?_)
      exact next (sl2 ls k.val (vl u)) r h rl2 H locs hex (LR.put2 hk hl2) (by rw [sl2_len]; exact hlen) (sl2_rv hrl hu.1) hr hwf hst hwd hS hn hs
    · rename_i k heq
      rw [heq] at hok
      simp only [Bool.and_eq_true, beq_iff_eq, decide_eq_true_eq, b32] at hok
      have hd := hdec _ heq (fun q => by cases q)
      rw [hok.1] at hd next
      obtain ⟨u, r, rfl, hex⟩ := r1_inv hex
      obtain ⟨hu, hr⟩ := List.forall_mem_cons.mp hrs
      have hk : k < ls.length := by rw [hlen]; exact hok.2
      refine q_astore hx hb hd hL.has hk (fun rl2 hl2 => ?_)
      exact next (sl ls k (vr u)) r h rl2 H locs hex (LR.put1 hk hl2) (by rw [sl_len]; exact hlen) (sl_rv hrl hu.1) hr hwf hst hwd hS hn hs
    · rename_i k heq
      rw [heq] at hok
      simp only [Bool.and_eq_true, beq_iff_eq, decide_eq_true_eq, b32] at hok
      have hd := hdec _ heq (fun q => by cases q)
      rw [hok.1] at hd next
      obtain ⟨u, r, rfl, hex⟩ := r1_inv hex
      obtain ⟨hu, hr⟩ := List.forall_mem_cons.mp hrs
      have hk : k.val < ls.length := by rw [hlen]; exact hok.2
      refine q_astore_n hx hb hd hL.has hk (fun rl2 hl2 => ?_)
      exact next (sl ls k.val (vr u)) r h rl2 H locs hex (LR.put1 hk hl2) (by rw [sl_len]; exact hlen) (sl_rv hrl hu.1) hr hwf hst hwd hS hn hs
    · rename_i u heq
      rw [heq] at hok
      simp only [Bool.and_eq_true, beq_iff_eq, decide_eq_true_eq, b32] at hok
      have hd := hdec _ heq (fun q => by cases q)
      rw [hok.1] at hd next
      refine lv_iconst (v := Int32.ofInt u) hx hb hd rfl ?_
      exact next ls (vi u :: st) h rl H locs hex hL hlen hrl (List.forall_mem_cons.mpr ⟨⟨hok.2, fun q => by cases q⟩, hrs⟩) hwf hst hwd hS hn hs
    · rename_i u heq
      rw [heq] at hok
      simp only [Bool.and_eq_true, beq_iff_eq, decide_eq_true_eq, b32] at hok
      have hd := hdec _ heq (fun q => by cases q)
      rw [hok.1] at hd next
      refine lv_bipush (v := Int32.ofInt u) hx hb hd (b8_32 hok.2) ?_
      exact next ls (vi u :: st) h rl H locs hex hL hlen hrl (List.forall_mem_cons.mpr ⟨⟨by show r32 u; unfold r32; omega, fun q => by cases q⟩, hrs⟩) hwf hst hwd hS hn hs
    · rename_i u heq
      rw [heq] at hok
      simp only [Bool.and_eq_true, beq_iff_eq, decide_eq_true_eq, b32] at hok
      have hd := hdec _ heq (fun q => by cases q)
      rw [hok.1] at hd next
      refine lv_sipush (v := Int32.ofInt u) hx hb hd (b16_32 hok.2) ?_
      exact next ls (vi u :: st) h rl H locs hex hL hlen hrl (List.forall_mem_cons.mpr ⟨⟨by show r32 u; unfold r32; omega, fun q => by cases q⟩, hrs⟩) hwf hst hwd hS hn hs
    · rename_i u heq
      rw [heq] at hok
      simp only [Bool.and_eq_true, beq_iff_eq, decide_eq_true_eq, b32] at hok
      have hd := hdec _ heq (fun q => by cases q)
      rw [hok] at hd next
      refine lv_lconst (v := Int64.ofInt (u.val : Int)) hx hb hd (Int64.ofInt_eq_ofNat).symm ?_
      exact next ls (vl (u.val : Int) :: st) h rl H locs hex hL hlen hrl (List.forall_mem_cons.mpr ⟨⟨by show r64 _; unfold r64; omega, fun q => by cases q⟩, hrs⟩) hwf hst hwd hS hn hs
    · rename_i u heq
      rw [heq] at hok
      simp only [Bool.and_eq_true, beq_iff_eq, decide_eq_true_eq, b32] at hok
      have hd := hdec _ heq (fun q => by cases q)
      rw [hok.1] at hd next
      split at hex
      · rename_i hx0
        rw [hx0] at hok
        simp only [Bool.and_eq_true, beq_iff_eq, decide_eq_true_eq, b32] at hok
        refine lv_ldc hx hb hown (hts _ (gt (kl_fnd hok.2.1) rfl)) hd ?_
        exact next ls (vi _ :: st) h rl H locs hex hL hlen hrl (List.forall_mem_cons.mpr ⟨⟨hok.2.2, fun q => by cases q⟩, hrs⟩) hwf hst hwd hS hn hs
      · rename_i hx0
        have hok2 := hok.2
        split at hok2
        · rename_i q; exact absurd q hx0
        · simp only [Bool.and_eq_true, beq_iff_eq] at hok2
          obtain ⟨rfl, rfl⟩ := hok2
          refine va_ldcS hx hb (own := cN 9) (tx := KWT) hown hSW.2.2.2.2.2.1 hd ?_
          refine W.eq (g2 := F0 m (e.1 + 2) rl ((vr 5 :: st).map (trv z0 oa))) ?_ (next ls (vr 5 :: st) h rl H locs hex hL hlen hrl (List.forall_mem_cons.mpr ⟨⟨by show (0 : Int) ≤ 5; omega, fun q => by cases q⟩, hrs⟩) hwf hst hwd hS hn hs)
          show _ = F0 m (e.1 + 2) rl (va_rf (rfo z0 oa 5) :: st.map (trv z0 oa))
          rw [rfo_pos (by omega), show rho z0 oa 5 = oa 5 from rho_old (k := 5) (by omega)]
    · rename_i u heq
      rw [heq] at hok
      simp only [Bool.and_eq_true, beq_iff_eq, decide_eq_true_eq, b32] at hok
      have hd := hdec _ heq (fun q => by cases q)
      rw [hok.1.1] at hd next
      refine lv_ldcw hx hb hown (hts _ (gt (kl_fnd hok.1.2) rfl)) hd ?_
      exact next ls (vi _ :: st) h rl H locs hex hL hlen hrl (List.forall_mem_cons.mpr ⟨⟨hok.2, fun q => by cases q⟩, hrs⟩) hwf hst hwd hS hn hs
    · rename_i u heq
      rw [heq] at hok
      simp only [Bool.and_eq_true, beq_iff_eq, decide_eq_true_eq, b32] at hok
      have hd := hdec _ heq (fun q => by cases q)
      rw [hok.1.1] at hd next
      refine lv_ldc2 hx hb hown (hts _ (gt (jl_fnd hok.1.2) rfl)) hd ?_
      exact next ls (vl _ :: st) h rl H locs hex hL hlen hrl (List.forall_mem_cons.mpr ⟨⟨hok.2, fun q => by cases q⟩, hrs⟩) hwf hst hwd hS hn hs
    · rename_i heq
      rw [heq] at hok
      simp only [Bool.and_eq_true, beq_iff_eq, decide_eq_true_eq, b32] at hok
      have hd := hdec _ heq (fun q => by cases q)
      rw [hok] at hd next
      obtain ⟨u, v, r, rfl, hex⟩ := k2_inv hex
      obtain ⟨hv, hr⟩ := List.forall_mem_cons.mp hrs
      obtain ⟨hu, hr⟩ := List.forall_mem_cons.mp hr
      refine lv_iadd hx hb hd ?_
      rw [← i_add u v]
      exact next ls (vi (q32 (u + v)) :: r) h rl H locs hex hL hlen hrl (List.forall_mem_cons.mpr ⟨⟨r32_q32 _, fun q => by cases q⟩, hr⟩) hwf hst hwd hS hn hs
    · rename_i heq
      rw [heq] at hok
      simp only [Bool.and_eq_true, beq_iff_eq, decide_eq_true_eq, b32] at hok
      have hd := hdec _ heq (fun q => by cases q)
      rw [hok] at hd next
      obtain ⟨u, v, r, rfl, hex⟩ := k2_inv hex
      obtain ⟨hv, hr⟩ := List.forall_mem_cons.mp hrs
      obtain ⟨hu, hr⟩ := List.forall_mem_cons.mp hr
      refine lv_isub hx hb hd ?_
      rw [← i_sub u v]
      exact next ls (vi (q32 (u - v)) :: r) h rl H locs hex hL hlen hrl (List.forall_mem_cons.mpr ⟨⟨r32_q32 _, fun q => by cases q⟩, hr⟩) hwf hst hwd hS hn hs
    · rename_i heq
      rw [heq] at hok
      simp only [Bool.and_eq_true, beq_iff_eq, decide_eq_true_eq, b32] at hok
      have hd := hdec _ heq (fun q => by cases q)
      rw [hok] at hd next
      obtain ⟨u, v, r, rfl, hex⟩ := k2_inv hex
      obtain ⟨hv, hr⟩ := List.forall_mem_cons.mp hrs
      obtain ⟨hu, hr⟩ := List.forall_mem_cons.mp hr
      refine lv_imul hx hb hd ?_
      rw [← i_mul u v]
      exact next ls (vi (q32 (u * v)) :: r) h rl H locs hex hL hlen hrl (List.forall_mem_cons.mpr ⟨⟨r32_q32 _, fun q => by cases q⟩, hr⟩) hwf hst hwd hS hn hs
    · rename_i heq
      rw [heq] at hok
      simp only [Bool.and_eq_true, beq_iff_eq, decide_eq_true_eq, b32] at hok
      have hd := hdec _ heq (fun q => by cases q)
      rw [hok] at hd next
      obtain ⟨u, v, r, rfl, hex⟩ := k2_inv hex
      obtain ⟨hv, hr⟩ := List.forall_mem_cons.mp hrs
      obtain ⟨hu, hr⟩ := List.forall_mem_cons.mp hr
      obtain ⟨hne, hex⟩ := gd_inv hex
      refine lv_idiv hx hb hd (fun q => hne ((i_eq0 hv.1).mp q)) ?_
      rw [← i_div hu.1 hv.1]
      exact next ls (vi (q32 (u.tdiv v)) :: r) h rl H locs hex hL hlen hrl (List.forall_mem_cons.mpr ⟨⟨r32_q32 _, fun q => by cases q⟩, hr⟩) hwf hst hwd hS hn hs
    · rename_i heq
      rw [heq] at hok
      simp only [Bool.and_eq_true, beq_iff_eq, decide_eq_true_eq, b32] at hok
      have hd := hdec _ heq (fun q => by cases q)
      rw [hok] at hd next
      obtain ⟨u, v, r, rfl, hex⟩ := k2_inv hex
      obtain ⟨hv, hr⟩ := List.forall_mem_cons.mp hrs
      obtain ⟨hu, hr⟩ := List.forall_mem_cons.mp hr
      obtain ⟨hne, hex⟩ := gd_inv hex
      refine lv_irem hx hb hd (fun q => hne ((i_eq0 hv.1).mp q)) ?_
      rw [← i_rem hu.1 hv.1]
      exact next ls (vi (u.tmod v) :: r) h rl H locs hex hL hlen hrl (List.forall_mem_cons.mpr ⟨⟨r32_tmod _ hu.1, fun q => by cases q⟩, hr⟩) hwf hst hwd hS hn hs
    · rename_i heq
      rw [heq] at hok
      simp only [Bool.and_eq_true, beq_iff_eq, decide_eq_true_eq, b32] at hok
      have hd := hdec _ heq (fun q => by cases q)
      rw [hok] at hd next
      obtain ⟨u, v, r, rfl, hex⟩ := k2_inv hex
      obtain ⟨hv, hr⟩ := List.forall_mem_cons.mp hrs
      obtain ⟨hu, hr⟩ := List.forall_mem_cons.mp hr
      refine lv_iand hx hb hd ?_
      rw [← i_back (Int32.ofInt u &&& Int32.ofInt v)]
      exact next ls (vi (z_and u v) :: r) h rl H locs hex hL hlen hrl (List.forall_mem_cons.mpr ⟨⟨r32_to _, fun q => by cases q⟩, hr⟩) hwf hst hwd hS hn hs
    · rename_i heq
      rw [heq] at hok
      simp only [Bool.and_eq_true, beq_iff_eq, decide_eq_true_eq, b32] at hok
      have hd := hdec _ heq (fun q => by cases q)
      rw [hok] at hd next
      obtain ⟨u, v, r, rfl, hex⟩ := k2_inv hex
      obtain ⟨hv, hr⟩ := List.forall_mem_cons.mp hrs
      obtain ⟨hu, hr⟩ := List.forall_mem_cons.mp hr
      refine lv_ior hx hb hd ?_
      rw [← i_back (Int32.ofInt u ||| Int32.ofInt v)]
      exact next ls (vi (z_or u v) :: r) h rl H locs hex hL hlen hrl (List.forall_mem_cons.mpr ⟨⟨r32_to _, fun q => by cases q⟩, hr⟩) hwf hst hwd hS hn hs
    · rename_i heq
      rw [heq] at hok
      simp only [Bool.and_eq_true, beq_iff_eq, decide_eq_true_eq, b32] at hok
      have hd := hdec _ heq (fun q => by cases q)
      rw [hok] at hd next
      obtain ⟨u, v, r, rfl, hex⟩ := k2_inv hex
      obtain ⟨hv, hr⟩ := List.forall_mem_cons.mp hrs
      obtain ⟨hu, hr⟩ := List.forall_mem_cons.mp hr
      refine lv_ixor hx hb hd ?_
      rw [← i_back (Int32.ofInt u ^^^ Int32.ofInt v)]
      exact next ls (vi (z_xor u v) :: r) h rl H locs hex hL hlen hrl (List.forall_mem_cons.mpr ⟨⟨r32_to _, fun q => by cases q⟩, hr⟩) hwf hst hwd hS hn hs
    · rename_i heq
      rw [heq] at hok
      simp only [Bool.and_eq_true, beq_iff_eq, decide_eq_true_eq, b32] at hok
      have hd := hdec _ heq (fun q => by cases q)
      rw [hok] at hd next
      obtain ⟨u, v, r, rfl, hex⟩ := k2_inv hex
      obtain ⟨hv, hr⟩ := List.forall_mem_cons.mp hrs
      obtain ⟨hu, hr⟩ := List.forall_mem_cons.mp hr
      refine lv_ishl hx hb hd ?_
      rw [← i_back (Int32.ofInt u <<< (Int32.ofInt v &&& 31))]
      exact next ls (vi (z_shl u v) :: r) h rl H locs hex hL hlen hrl (List.forall_mem_cons.mpr ⟨⟨r32_to _, fun q => by cases q⟩, hr⟩) hwf hst hwd hS hn hs
    · rename_i heq
      rw [heq] at hok
      simp only [Bool.and_eq_true, beq_iff_eq, decide_eq_true_eq, b32] at hok
      have hd := hdec _ heq (fun q => by cases q)
      rw [hok] at hd next
      obtain ⟨u, v, r, rfl, hex⟩ := k2_inv hex
      obtain ⟨hv, hr⟩ := List.forall_mem_cons.mp hrs
      obtain ⟨hu, hr⟩ := List.forall_mem_cons.mp hr
      refine lv_ishr hx hb hd ?_
      rw [← i_back (Int32.ofInt u >>> (Int32.ofInt v &&& 31))]
      exact next ls (vi (z_shr u v) :: r) h rl H locs hex hL hlen hrl (List.forall_mem_cons.mpr ⟨⟨r32_to _, fun q => by cases q⟩, hr⟩) hwf hst hwd hS hn hs
    · rename_i heq
      rw [heq] at hok
      simp only [Bool.and_eq_true, beq_iff_eq, decide_eq_true_eq, b32] at hok
      have hd := hdec _ heq (fun q => by cases q)
      rw [hok] at hd next
      obtain ⟨u, v, r, rfl, hex⟩ := k2_inv hex
      obtain ⟨hv, hr⟩ := List.forall_mem_cons.mp hrs
      obtain ⟨hu, hr⟩ := List.forall_mem_cons.mp hr
      refine lv_iushr (v := Int32.ofInt (z_ushr u v)) hx hb hd (i_back _).symm ?_
      exact next ls (vi (z_ushr u v) :: r) h rl H locs hex hL hlen hrl (List.forall_mem_cons.mpr ⟨⟨r32_to _, fun q => by cases q⟩, hr⟩) hwf hst hwd hS hn hs
    · rename_i heq
      rw [heq] at hok
      simp only [Bool.and_eq_true, beq_iff_eq, decide_eq_true_eq, b32] at hok
      have hd := hdec _ heq (fun q => by cases q)
      rw [hok] at hd next
      obtain ⟨u, v, r, rfl, hex⟩ := l2_inv hex
      obtain ⟨hv, hr⟩ := List.forall_mem_cons.mp hrs
      obtain ⟨hu, hr⟩ := List.forall_mem_cons.mp hr
      refine lv_ladd hx hb hd ?_
      rw [← l_add u v]
      exact next ls (vl (q64 (u + v)) :: r) h rl H locs hex hL hlen hrl (List.forall_mem_cons.mpr ⟨⟨r64_q64 _, fun q => by cases q⟩, hr⟩) hwf hst hwd hS hn hs
    · rename_i heq
      rw [heq] at hok
      simp only [Bool.and_eq_true, beq_iff_eq, decide_eq_true_eq, b32] at hok
      have hd := hdec _ heq (fun q => by cases q)
      rw [hok] at hd next
      obtain ⟨u, v, r, rfl, hex⟩ := l2_inv hex
      obtain ⟨hv, hr⟩ := List.forall_mem_cons.mp hrs
      obtain ⟨hu, hr⟩ := List.forall_mem_cons.mp hr
      refine lv_lsub hx hb hd ?_
      rw [← l_sub u v]
      exact next ls (vl (q64 (u - v)) :: r) h rl H locs hex hL hlen hrl (List.forall_mem_cons.mpr ⟨⟨r64_q64 _, fun q => by cases q⟩, hr⟩) hwf hst hwd hS hn hs
    · rename_i heq
      rw [heq] at hok
      simp only [Bool.and_eq_true, beq_iff_eq, decide_eq_true_eq, b32] at hok
      have hd := hdec _ heq (fun q => by cases q)
      rw [hok] at hd next
      obtain ⟨u, v, r, rfl, hex⟩ := l2_inv hex
      obtain ⟨hv, hr⟩ := List.forall_mem_cons.mp hrs
      obtain ⟨hu, hr⟩ := List.forall_mem_cons.mp hr
      refine lv_lmul hx hb hd ?_
      rw [← l_mul u v]
      exact next ls (vl (q64 (u * v)) :: r) h rl H locs hex hL hlen hrl (List.forall_mem_cons.mpr ⟨⟨r64_q64 _, fun q => by cases q⟩, hr⟩) hwf hst hwd hS hn hs
    · rename_i heq
      rw [heq] at hok
      simp only [Bool.and_eq_true, beq_iff_eq, decide_eq_true_eq, b32] at hok
      have hd := hdec _ heq (fun q => by cases q)
      rw [hok] at hd next
      obtain ⟨u, v, r, rfl, hex⟩ := l2_inv hex
      obtain ⟨hv, hr⟩ := List.forall_mem_cons.mp hrs
      obtain ⟨hu, hr⟩ := List.forall_mem_cons.mp hr
      obtain ⟨hne, hex⟩ := gd_inv hex
      refine lv_ldiv hx hb hd (fun q => hne ((l_eq0 hv.1).mp q)) ?_
      rw [← l_div hu.1 hv.1]
      exact next ls (vl (q64 (u.tdiv v)) :: r) h rl H locs hex hL hlen hrl (List.forall_mem_cons.mpr ⟨⟨r64_q64 _, fun q => by cases q⟩, hr⟩) hwf hst hwd hS hn hs
    · rename_i heq
      rw [heq] at hok
      simp only [Bool.and_eq_true, beq_iff_eq, decide_eq_true_eq, b32] at hok
      have hd := hdec _ heq (fun q => by cases q)
      rw [hok] at hd next
      obtain ⟨u, v, r, rfl, hex⟩ := l2_inv hex
      obtain ⟨hv, hr⟩ := List.forall_mem_cons.mp hrs
      obtain ⟨hu, hr⟩ := List.forall_mem_cons.mp hr
      obtain ⟨hne, hex⟩ := gd_inv hex
      refine lv_lrem hx hb hd (fun q => hne ((l_eq0 hv.1).mp q)) ?_
      rw [← l_rem hu.1 hv.1]
      exact next ls (vl (u.tmod v) :: r) h rl H locs hex hL hlen hrl (List.forall_mem_cons.mpr ⟨⟨r64_tmod _ hu.1, fun q => by cases q⟩, hr⟩) hwf hst hwd hS hn hs
    · rename_i heq
      rw [heq] at hok
      simp only [Bool.and_eq_true, beq_iff_eq, decide_eq_true_eq, b32] at hok
      have hd := hdec _ heq (fun q => by cases q)
      rw [hok] at hd next
      obtain ⟨u, r, rfl, hex⟩ := l1_inv hex
      obtain ⟨hu, hr⟩ := List.forall_mem_cons.mp hrs
      refine lv_lneg hx hb hd ?_
      rw [← l_neg u]
      exact next ls (vl (q64 (-u)) :: r) h rl H locs hex hL hlen hrl (List.forall_mem_cons.mpr ⟨⟨r64_q64 _, fun q => by cases q⟩, hr⟩) hwf hst hwd hS hn hs
    · rename_i heq
      rw [heq] at hok
      simp only [Bool.and_eq_true, beq_iff_eq, decide_eq_true_eq, b32] at hok
      have hd := hdec _ heq (fun q => by cases q)
      rw [hok] at hd next
      obtain ⟨u, v, r, rfl, hex⟩ := l2_inv hex
      obtain ⟨hv, hr⟩ := List.forall_mem_cons.mp hrs
      obtain ⟨hu, hr⟩ := List.forall_mem_cons.mp hr
      refine lv_land hx hb hd ?_
      rw [← l_back (Int64.ofInt u &&& Int64.ofInt v)]
      exact next ls (vl (j_and u v) :: r) h rl H locs hex hL hlen hrl (List.forall_mem_cons.mpr ⟨⟨r64_to _, fun q => by cases q⟩, hr⟩) hwf hst hwd hS hn hs
    · rename_i heq
      rw [heq] at hok
      simp only [Bool.and_eq_true, beq_iff_eq, decide_eq_true_eq, b32] at hok
      have hd := hdec _ heq (fun q => by cases q)
      rw [hok] at hd next
      obtain ⟨u, v, r, rfl, hex⟩ := l2_inv hex
      obtain ⟨hv, hr⟩ := List.forall_mem_cons.mp hrs
      obtain ⟨hu, hr⟩ := List.forall_mem_cons.mp hr
      refine lv_lor hx hb hd ?_
      rw [← l_back (Int64.ofInt u ||| Int64.ofInt v)]
      exact next ls (vl (j_or u v) :: r) h rl H locs hex hL hlen hrl (List.forall_mem_cons.mpr ⟨⟨r64_to _, fun q => by cases q⟩, hr⟩) hwf hst hwd hS hn hs
    · rename_i heq
      rw [heq] at hok
      simp only [Bool.and_eq_true, beq_iff_eq, decide_eq_true_eq, b32] at hok
      have hd := hdec _ heq (fun q => by cases q)
      rw [hok] at hd next
      obtain ⟨u, v, r, rfl, hex⟩ := li_inv hex
      obtain ⟨hv, hr⟩ := List.forall_mem_cons.mp hrs
      obtain ⟨hu, hr⟩ := List.forall_mem_cons.mp hr
      refine lv_lshl (v := Int64.ofInt (j_shl u v)) hx hb hd (l_back _).symm ?_
      exact next ls (vl (j_shl u v) :: r) h rl H locs hex hL hlen hrl (List.forall_mem_cons.mpr ⟨⟨r64_to _, fun q => by cases q⟩, hr⟩) hwf hst hwd hS hn hs
    · rename_i heq
      rw [heq] at hok
      simp only [Bool.and_eq_true, beq_iff_eq, decide_eq_true_eq, b32] at hok
      have hd := hdec _ heq (fun q => by cases q)
      rw [hok] at hd next
      obtain ⟨u, v, r, rfl, hex⟩ := l2_inv hex
      obtain ⟨hv, hr⟩ := List.forall_mem_cons.mp hrs
      obtain ⟨hu, hr⟩ := List.forall_mem_cons.mp hr
      refine W.lcmp hx hb hd ?_
      rw [cmp_of hu.1 hv.1]
      exact next ls (vi (j_cmp u v) :: r) h rl H locs hex hL hlen hrl (List.forall_mem_cons.mpr ⟨⟨r32_cmp _ _, fun q => by cases q⟩, hr⟩) hwf hst hwd hS hn hs
    · rename_i heq
      rw [heq] at hok
      simp only [Bool.and_eq_true, beq_iff_eq, decide_eq_true_eq, b32] at hok
      have hd := hdec _ heq (fun q => by cases q)
      rw [hok] at hd next
      obtain ⟨u, r, rfl, hex⟩ := k1_inv hex
      obtain ⟨hu, hr⟩ := List.forall_mem_cons.mp hrs
      refine lv_i2l (v := Int64.ofInt u) hx hb hd (i_l hu.1) ?_
      exact next ls (vl u :: r) h rl H locs hex hL hlen hrl (List.forall_mem_cons.mpr ⟨⟨by have := hu.1; unfold RV r32 at this; show r64 u; unfold r64; omega, fun q => by cases q⟩, hr⟩) hwf hst hwd hS hn hs
    · rename_i heq
      rw [heq] at hok
      simp only [Bool.and_eq_true, beq_iff_eq, decide_eq_true_eq, b32] at hok
      have hd := hdec _ heq (fun q => by cases q)
      rw [hok] at hd next
      obtain ⟨u, r, rfl, hex⟩ := l1_inv hex
      obtain ⟨hu, hr⟩ := List.forall_mem_cons.mp hrs
      refine lv_l2i (v := Int32.ofInt (q32 u)) hx hb hd (l_i u) ?_
      exact next ls (vi (q32 u) :: r) h rl H locs hex hL hlen hrl (List.forall_mem_cons.mpr ⟨⟨r32_q32 _, fun q => by cases q⟩, hr⟩) hwf hst hwd hS hn hs
    · rename_i heq
      rw [heq] at hok
      simp only [Bool.and_eq_true, beq_iff_eq, decide_eq_true_eq, b32] at hok
      have hd := hdec _ heq (fun q => by cases q)
      rw [hok] at hd next
      obtain ⟨u, r, rfl, hex⟩ := k1_inv hex
      obtain ⟨hu, hr⟩ := List.forall_mem_cons.mp hrs
      refine lv_i2b (v := Int32.ofInt (u.bmod 256)) hx hb hd (i_b u) ?_
      exact next ls (vi (u.bmod 256) :: r) h rl H locs hex hL hlen hrl (List.forall_mem_cons.mpr ⟨⟨r32_b _, fun q => by cases q⟩, hr⟩) hwf hst hwd hS hn hs
    · rename_i heq
      rw [heq] at hok
      simp only [Bool.and_eq_true, beq_iff_eq, decide_eq_true_eq, b32] at hok
      have hd := hdec _ heq (fun q => by cases q)
      rw [hok] at hd next
      obtain ⟨u, r, rfl, hex⟩ := k1_inv hex
      obtain ⟨hu, hr⟩ := List.forall_mem_cons.mp hrs
      refine lv_i2s (v := Int32.ofInt (u.bmod 65536)) hx hb hd (i_s u) ?_
      exact next ls (vi (u.bmod 65536) :: r) h rl H locs hex hL hlen hrl (List.forall_mem_cons.mpr ⟨⟨r32_s _, fun q => by cases q⟩, hr⟩) hwf hst hwd hS hn hs
    · rename_i heq
      rw [heq] at hok
      simp only [Bool.and_eq_true, beq_iff_eq, decide_eq_true_eq, b32] at hok
      have hd := hdec _ heq (fun q => by cases q)
      rw [hok] at hd next
      obtain ⟨u, r, rfl, hex⟩ := k1_inv hex
      obtain ⟨hu, hr⟩ := List.forall_mem_cons.mp hrs
      obtain ⟨hg, hex⟩ := gd_inv hex
      refine lv_i2c (v := Int32.ofInt u) hx hb hd (c16_32 hg) ?_
      exact next ls (vi u :: r) h rl H locs hex hL hlen hrl (List.forall_mem_cons.mpr ⟨⟨hu.1, fun q => by cases q⟩, hr⟩) hwf hst hwd hS hn hs
    · rename_i k u heq
      rw [heq] at hok
      simp only [Bool.and_eq_true, beq_iff_eq, decide_eq_true_eq, b32] at hok
      have hd := hdec _ heq (fun q => by cases q)
      rw [hok.1.1] at hd next
      obtain ⟨v, hg, hex⟩ := gI_inv hex
      have hk : k < ls.length := by rw [hlen]; exact hok.1.2
      obtain ⟨kk, hkk⟩ := List.getElem?_of_mem (prs_mem (z0 := z0) (oa := oa) hg (fun q => by cases q))
      refine lv_iinc (v := Int32.ofInt (q32 (v + u))) hx hb hd hL.has hkk (i_add v u).symm hk rfl (fun rl2 hl2 => ?_)
      exact next (sl ls k (vi (q32 (v + u)))) st h rl2 H locs hex (LR.put1 (v := vi (q32 (v + u))) hk hl2) (by rw [sl_len]; exact hlen) (sl_rv hrl (r32_q32 _)) hrs hwf hst hwd hS hn hs
    · rename_i off heq
      rw [heq] at hok
      simp only [Bool.and_eq_true, beq_iff_eq, decide_eq_true_eq, b32] at hok
      have hd := hdec _ heq (fun q => by cases q)
      rw [hok.1] at hd next
      obtain ⟨tg, htg, hj⟩ := jump _ _ hok.2
      exact lv_goto (tgt := tg) hx hb hd htg (hj ls st h rl H locs hex hL hlen hrl hrs hwf hst hwd hS hn hs)
    · rename_i cnd off heq
      rw [heq] at hok
      simp only [Bool.and_eq_true, beq_iff_eq, decide_eq_true_eq, b32] at hok
      have hd := hdec _ heq (fun q => by cases q)
      rw [hok.1] at hd next
      obtain ⟨u, v, r, rfl, hex⟩ := k2_inv hex
      obtain ⟨hv, hr⟩ := List.forall_mem_cons.mp hrs
      obtain ⟨hu, hr⟩ := List.forall_mem_cons.mp hr
      obtain ⟨tg, htg, hj⟩ := jump _ _ hok.2
      cases cnd with
      | eq =>
        refine lv_icmp_eq (tgt := tg) hx hb hd htg (fun q => ?_) (fun q => ?_)
        · exact hj ls r h rl H locs (br_pos (show icond .eq u v from (i_eq hu.1 hv.1).mp q) hex) hL hlen hrl hr hwf hst hwd hS hn hs
        · exact next ls r h rl H locs (br_neg (show ¬ icond .eq u v from fun k => q ((i_eq hu.1 hv.1).mpr k)) hex) hL hlen hrl hr hwf hst hwd hS hn hs
      | ne =>
        refine lv_icmp_ne (tgt := tg) hx hb hd htg (fun q => ?_) (fun q => ?_)
        · exact hj ls r h rl H locs (br_pos (show icond .ne u v from fun k => q ((i_eq hu.1 hv.1).mpr k)) hex) hL hlen hrl hr hwf hst hwd hS hn hs
        · exact next ls r h rl H locs (br_neg (show ¬ icond .ne u v from fun k => k ((i_eq hu.1 hv.1).mp q)) hex) hL hlen hrl hr hwf hst hwd hS hn hs
      | lt =>
        refine lv_icmp_lt (tgt := tg) hx hb hd htg (fun q => ?_) (fun q => ?_)
        · exact hj ls r h rl H locs (br_pos (show icond .lt u v from (i_lt hu.1 hv.1).mp q) hex) hL hlen hrl hr hwf hst hwd hS hn hs
        · exact next ls r h rl H locs (br_neg (show ¬ icond .lt u v from fun k => q ((i_lt hu.1 hv.1).mpr k)) hex) hL hlen hrl hr hwf hst hwd hS hn hs
      | ge =>
        refine lv_icmp_ge (tgt := tg) hx hb hd htg (fun q => ?_) (fun q => ?_)
        · exact hj ls r h rl H locs (br_pos (show icond .ge u v from (i_le hv.1 hu.1).mp q) hex) hL hlen hrl hr hwf hst hwd hS hn hs
        · exact next ls r h rl H locs (br_neg (show ¬ icond .ge u v from fun k => q ((i_le hv.1 hu.1).mpr k)) hex) hL hlen hrl hr hwf hst hwd hS hn hs
      | gt =>
        refine lv_icmp_gt (tgt := tg) hx hb hd htg (fun q => ?_) (fun q => ?_)
        · exact hj ls r h rl H locs (br_pos (show icond .gt u v from (i_lt hv.1 hu.1).mp q) hex) hL hlen hrl hr hwf hst hwd hS hn hs
        · exact next ls r h rl H locs (br_neg (show ¬ icond .gt u v from fun k => q ((i_lt hv.1 hu.1).mpr k)) hex) hL hlen hrl hr hwf hst hwd hS hn hs
      | le =>
        refine lv_icmp_le (tgt := tg) hx hb hd htg (fun q => ?_) (fun q => ?_)
        · exact hj ls r h rl H locs (br_pos (show icond .le u v from (i_le hu.1 hv.1).mp q) hex) hL hlen hrl hr hwf hst hwd hS hn hs
        · exact next ls r h rl H locs (br_neg (show ¬ icond .le u v from fun k => q ((i_le hu.1 hv.1).mpr k)) hex) hL hlen hrl hr hwf hst hwd hS hn hs
    · rename_i cnd off heq
      rw [heq] at hok
      simp only [Bool.and_eq_true, beq_iff_eq, decide_eq_true_eq, b32] at hok
      have hd := hdec _ heq (fun q => by cases q)
      rw [hok.1] at hd next
      obtain ⟨u, r, rfl, hex⟩ := k1_inv hex
      obtain ⟨hu, hr⟩ := List.forall_mem_cons.mp hrs
      obtain ⟨tg, htg, hj⟩ := jump _ _ hok.2
      cases cnd with
      | eq =>
        refine lv_if_eq (tgt := tg) hx hb hd htg (fun q => ?_) (fun q => ?_)
        · exact hj ls r h rl H locs (br_pos (show icond .eq u 0 from (i_eq0 hu.1).mp q) hex) hL hlen hrl hr hwf hst hwd hS hn hs
        · exact next ls r h rl H locs (br_neg (show ¬ icond .eq u 0 from fun k => q ((i_eq0 hu.1).mpr k)) hex) hL hlen hrl hr hwf hst hwd hS hn hs
      | ne =>
        refine lv_if_ne (tgt := tg) hx hb hd htg (fun q => ?_) (fun q => ?_)
        · exact hj ls r h rl H locs (br_pos (show icond .ne u 0 from fun k => q ((i_eq0 hu.1).mpr k)) hex) hL hlen hrl hr hwf hst hwd hS hn hs
        · exact next ls r h rl H locs (br_neg (show ¬ icond .ne u 0 from fun k => k ((i_eq0 hu.1).mp q)) hex) hL hlen hrl hr hwf hst hwd hS hn hs
      | lt =>
        refine lv_if_lt (tgt := tg) hx hb hd htg (fun q => ?_) (fun q => ?_)
        · exact hj ls r h rl H locs (br_pos (show icond .lt u 0 from (i_lt0 hu.1).mp q) hex) hL hlen hrl hr hwf hst hwd hS hn hs
        · exact next ls r h rl H locs (br_neg (show ¬ icond .lt u 0 from fun k => q ((i_lt0 hu.1).mpr k)) hex) hL hlen hrl hr hwf hst hwd hS hn hs
      | ge =>
        refine lv_if_ge (tgt := tg) hx hb hd htg (fun q => ?_) (fun q => ?_)
        · exact hj ls r h rl H locs (br_pos (show icond .ge u 0 from (i_0le hu.1).mp q) hex) hL hlen hrl hr hwf hst hwd hS hn hs
        · exact next ls r h rl H locs (br_neg (show ¬ icond .ge u 0 from fun k => q ((i_0le hu.1).mpr k)) hex) hL hlen hrl hr hwf hst hwd hS hn hs
      | gt =>
        refine lv_if_gt (tgt := tg) hx hb hd htg (fun q => ?_) (fun q => ?_)
        · exact hj ls r h rl H locs (br_pos (show icond .gt u 0 from (i_0lt hu.1).mp q) hex) hL hlen hrl hr hwf hst hwd hS hn hs
        · exact next ls r h rl H locs (br_neg (show ¬ icond .gt u 0 from fun k => q ((i_0lt hu.1).mpr k)) hex) hL hlen hrl hr hwf hst hwd hS hn hs
      | le =>
        refine lv_if_le (tgt := tg) hx hb hd htg (fun q => ?_) (fun q => ?_)
        · exact hj ls r h rl H locs (br_pos (show icond .le u 0 from (i_le0 hu.1).mp q) hex) hL hlen hrl hr hwf hst hwd hS hn hs
        · exact next ls r h rl H locs (br_neg (show ¬ icond .le u 0 from fun k => q ((i_le0 hu.1).mpr k)) hex) hL hlen hrl hr hwf hst hwd hS hn hs
    · rename_i dflt lo hi offs heq
      rw [heq] at hok
      simp only [Bool.and_eq_true, beq_iff_eq, decide_eq_true_eq, b32] at hok
      have hd := hdec _ heq (fun q => by cases q)
      obtain ⟨u, r, rfl, hex⟩ := k1_inv hex
      obtain ⟨hu, hr⟩ := List.forall_mem_cons.mp hrs
      obtain ⟨⟨⟨hok1, hok2⟩, hok3⟩, hok4⟩ := hok
      rw [List.all_eq_true] at hok4
      rcases swf_inv hex with ⟨j, q, hq1, hq2, hex⟩ | ⟨hq, hex⟩
      · have hj : j < offs.size := by rw [← hok3]; exact (List.getElem?_eq_some_iff.mp hq1).1
        have ho := hok4 j (List.mem_range.mpr hj)
        rw [List.getD_eq_getElem?_getD, hq1] at ho
        simp only [Option.getD_some, Bool.and_eq_true, decide_eq_true_eq] at ho
        obtain ⟨tg, htg, hjm⟩ := jump _ _ ho.2
        have eu : (Int32.ofInt u).toInt = u := i_of hu.1
        refine lv_tableIn (off := offs.toList.getD j 0) (tgt := tg) hx hb hd (by rw [eu]; omega) (by rw [eu]; omega) ?_ htg ?_
        · rw [eu, show (u - lo).toNat = j by omega, List.getD_eq_getElem?_getD, Array.getElem?_toList, Array.getElem?_eq_getElem hj]; rfl
        · exact hjm ls r h rl H locs hex hL hlen hrl hr hwf hst hwd hS hn hs
      · obtain ⟨tg, htg, hjm⟩ := jump _ _ hok1
        have eu : (Int32.ofInt u).toInt = u := i_of hu.1
        refine lv_tableOut (tgt := tg) hx hb hd ?_ htg (hjm ls r h rl H locs hex hL hlen hrl hr hwf hst hwd hS hn hs)
        rw [eu]
        by_cases q1 : u < lo
        · exact Or.inl q1
        · by_cases q2 : hi < u
          · exact Or.inr q2
          · exfalso
            have hj : (u - lo).toNat < offs.size := by omega
            have ho := hok4 (u - lo).toNat (List.mem_range.mpr hj)
            have hj2 : (u - lo).toNat < e.2.2.2.2.length := by omega
            rw [List.getD_eq_getElem?_getD, List.getElem?_eq_getElem hj2] at ho
            simp only [Option.getD_some, Bool.and_eq_true, decide_eq_true_eq] at ho
            exact hq _ (List.getElem_mem hj2) (by rw [ho.1]; omega)
    · rename_i dflt ps heq
      rw [heq] at hok
      simp only [Bool.and_eq_true, beq_iff_eq, decide_eq_true_eq, b32] at hok
      have hd := hdec _ heq (fun q => by cases q)
      obtain ⟨u, r, rfl, hex⟩ := k1_inv hex
      obtain ⟨hu, hr⟩ := List.forall_mem_cons.mp hrs
      obtain ⟨⟨⟨hok1, hok2⟩, hok3⟩, hok4⟩ := hok
      rw [List.all_eq_true] at hok4
      obtain ⟨t, hex, ht⟩ := swf_look (ps := ps.toList) (pc := (e.1 : Int)) hok1 hok3 (fun j hj => by have := hok4 j (List.mem_range.mpr hj); simp only [Bool.and_eq_true, decide_eq_true_eq] at this; exact this) hex
      obtain ⟨tg, htg, hjm⟩ := jump _ _ ht
      have eu : (Int32.ofInt u).toInt = u := i_of hu.1
      exact lv_lookup (off := Op.lookupswitch.offset ps.toList dflt u) (tgt := tg) hx hb hd hok2 (by rw [eu]) htg (hjm ls r h rl H locs hex hL hlen hrl hr hwf hst hwd hS hn hs)
    · rename_i heq
      rw [heq] at hok
      simp only [Bool.and_eq_true, beq_iff_eq, decide_eq_true_eq, b32] at hok
      have hd := hdec _ heq (fun q => by cases q)
      rw [hok] at hd next
      obtain ⟨u, r, rfl, hv, hex⟩ := d1_inv hex
      obtain ⟨hu, hr⟩ := List.forall_mem_cons.mp hrs
      have hcat : (trv z0 oa u).category = 1 := cat1 hv
      refine lv_dup hx hb hd hcat ?_
      exact next ls (u :: u :: r) h rl H locs hex hL hlen hrl (List.forall_mem_cons.mpr ⟨hu, hrs⟩) hwf hst hwd hS hn hs
    · rename_i heq
      rw [heq] at hok
      simp only [Bool.and_eq_true, beq_iff_eq, decide_eq_true_eq, b32] at hok
      have hd := hdec _ heq (fun q => by cases q)
      rw [hok] at hd next
      obtain ⟨a, j, r, rfl, hex⟩ := d2_inv hex
      obtain ⟨hj, hr⟩ := List.forall_mem_cons.mp hrs
      obtain ⟨ha, hr⟩ := List.forall_mem_cons.mp hr
      refine lv_dup2_11 hx hb hd (cat1 (Or.inl ⟨j, rfl⟩)) (cat1 (Or.inr ⟨a, rfl⟩)) ?_
      exact next ls (vi j :: vr a :: vi j :: vr a :: r) h rl H locs hex hL hlen hrl (List.forall_mem_cons.mpr ⟨hj, List.forall_mem_cons.mpr ⟨ha, hrs⟩⟩) hwf hst hwd hS hn hs
    · rename_i heq
      rw [heq] at hok
      simp only [Bool.and_eq_true, beq_iff_eq, decide_eq_true_eq, b32] at hok
      have hd := hdec _ heq (fun q => by cases q)
      rw [hok] at hd next
      obtain ⟨u, r, rfl, hv, hex⟩ := d1_inv hex
      obtain ⟨hu, hr⟩ := List.forall_mem_cons.mp hrs
      refine lv_pop hx hb hd (cat1 hv) ?_
      exact next ls r h rl H locs hex hL hlen hrl hr hwf hst hwd hS hn hs
    · rename_i idx heq
      rw [heq] at hok
      simp only [Bool.and_eq_true, beq_iff_eq, decide_eq_true_eq, b32] at hok
      have hd := hdec _ heq (fun q => by cases q)
      rw [hok.1.1] at hd next
      obtain ⟨a, r, rfl, hex⟩ := r1_inv hex
      obtain ⟨ha, hr⟩ := List.forall_mem_cons.mp hrs
      obtain ⟨hk, hex⟩ := gd_inv hex
      obtain ⟨rr, hc1, hkr, hlink⟩ := fl_all oc _ (look_mem hok.1.2)
      obtain ⟨h6, ha2⟩ := new_obj hst hk (mcl_lt hc1)
      have hg := (hwf.1 a (by omega) ha2).2.1 ((e.2.2.2.1.2.1 : Nat) : Int)
      rw [hk, tcode_obj, hok.2] at hg
      have hgr := (hwf.1 a (by omega) ha2).2.2.1 e.2.2.2.1.2.1
      show W p l ev R s m args below meth c H locs _ _ Q (F0 m e.1 rl (va_rf (rfo z0 oa a) :: r.map (trv z0 oa)))
      rw [rfo_pos (by omega)]
      refine sim_get hx hb hown hts hSW.2.1 hc1 hk (hwd.2.2.2 a h6 ha2) hkr hlink hd ?_
      have hfc := mcl_fc hc1 _ hkr
      rw [hok.2] at hfc
      rcases fc_lt hfc with q | q | q | q | q
      · rw [q] at hex hg
        have hex : exec n d code (i + 1) ls (vi (h.2 a e.2.2.2.1.2.1) :: r) h = some z := hex
        rw [show fvl z0 oa h.2 a e.2.2.2.1.1 (shp h.1 a).2.2 e.2.2.2.1.2.1 = .int (Int32.ofInt (h.2 a e.2.2.2.1.2.1)) from by unfold fvl; rw [hok.2, q] <;> rfl]
        exact next ls (vi (h.2 a e.2.2.2.1.2.1) :: r) h rl H locs hex hL hlen hrl (List.forall_mem_cons.mpr ⟨⟨hg, fun q => by cases q⟩, hr⟩) hwf hst hwd hS hn hs
      · rw [q] at hex hg
        have hex : exec n d code (i + 1) ls (vl (h.2 a e.2.2.2.1.2.1) :: r) h = some z := hex
        rw [show fvl z0 oa h.2 a e.2.2.2.1.1 (shp h.1 a).2.2 e.2.2.2.1.2.1 = .long (Int64.ofInt (h.2 a e.2.2.2.1.2.1)) from by unfold fvl; rw [hok.2, q] <;> rfl]
        exact next ls (vl (h.2 a e.2.2.2.1.2.1) :: r) h rl H locs hex hL hlen hrl (List.forall_mem_cons.mpr ⟨⟨hg, fun q => by cases q⟩, hr⟩) hwf hst hwd hS hn hs
      · rw [q] at hex hg
        have hex : exec n d code (i + 1) ls (vr (h.2 a e.2.2.2.1.2.1) :: r) h = some z := hex
        rw [show fvl z0 oa h.2 a e.2.2.2.1.1 (shp h.1 a).2.2 e.2.2.2.1.2.1 = va_rf (rfo z0 oa (h.2 a e.2.2.2.1.2.1)) from by unfold fvl; rw [hok.2, q] <;> rfl]
        exact next ls (vr (h.2 a e.2.2.2.1.2.1) :: r) h rl H locs hex hL hlen hrl (List.forall_mem_cons.mpr ⟨⟨hg, fun q => by cases q⟩, hr⟩) hwf hst hwd hS hn hs
      · rw [q] at hex hg
        have hex : exec n d code (i + 1) ls (vr (shR h.1 a e.2.2.2.1.2.1) :: r) h = some z := hex
        rw [show fvl z0 oa h.2 a e.2.2.2.1.1 (shp h.1 a).2.2 e.2.2.2.1.2.1 = va_rf (rfo z0 oa ((shp h.1 a).2.2.getD e.2.2.2.1.2.1 0)) from by unfold fvl; rw [hok.2, q] <;> rfl]
        exact next ls (vr (shR h.1 a e.2.2.2.1.2.1) :: r) h rl H locs hex hL hlen hrl (List.forall_mem_cons.mpr ⟨⟨hgr, fun q => by cases q⟩, hr⟩) hwf hst hwd hS hn hs
      · rw [q] at hex hg
        have hex : exec n d code (i + 1) ls (vi (h.2 a e.2.2.2.1.2.1) :: r) h = some z := hex
        rw [show fvl z0 oa h.2 a e.2.2.2.1.1 (shp h.1 a).2.2 e.2.2.2.1.2.1 = .int (Int32.ofInt (h.2 a e.2.2.2.1.2.1)) from by unfold fvl; rw [hok.2, q] <;> rfl]
        exact next ls (vi (h.2 a e.2.2.2.1.2.1) :: r) h rl H locs hex hL hlen hrl (List.forall_mem_cons.mpr ⟨⟨hg, fun q => by cases q⟩, hr⟩) hwf hst hwd hS hn hs
    · rename_i idx heq
      rw [heq] at hok
      simp only [Bool.and_eq_true, beq_iff_eq, decide_eq_true_eq, b32] at hok
      have hd := hdec _ heq (fun q => by cases q)
      simp only [Bool.or_eq_true, Bool.and_eq_true, beq_iff_eq, decide_eq_true_eq] at hok
      rw [hok.1.1.1] at hd next
      obtain ⟨rr, hc1, hkr, hlink⟩ := fl_all oc _ (look_mem hok.1.1.2)
      have hfc := mcl_fc hc1 _ hkr
      rw [hok.1.2] at hfc
      rcases fc_lt hfc with q | q | q | q | q
      · rw [q] at hex hok hfc
        dsimp only at hex
        obtain ⟨a, v, r, rfl, hex⟩ := rvI_inv hex
        obtain ⟨hv, hr⟩ := List.forall_mem_cons.mp hrs
        obtain ⟨ha, hr⟩ := List.forall_mem_cons.mp hr
        obtain ⟨hk, hex⟩ := gd_inv hex
        obtain ⟨h6, ha2⟩ := new_obj hst hk.1 (mcl_lt hc1)
        have ff := fc_int hfc
        refine s_put (v := v) (ty := .int) (val := .int (Int32.ofInt v)) hx hb hown hts hSW hwd hst hS hc1 hk.1 hkr hlink ff.2 ff.1 rfl rfl (by unfold fvl; rw [hok.1.2, up_eq] <;> rfl) hd (fun H1 locs1 w1 w2 => ?_)
        exact next ls r (h.1, up h.2 a e.2.2.2.1.2.1 v) rl H1 locs1 hex hL hlen hrl hr (WF_up hwf (by omega) ha2 (by rw [hk.1, tcode_obj, hok.1.2]; exact hv.1)) (STR_up hst h6) w1 w2 hn hs
      · rw [q] at hex hok hfc
        dsimp only at hex
        obtain ⟨a, v, r, rfl, hex⟩ := rvL_inv hex
        obtain ⟨hv, hr⟩ := List.forall_mem_cons.mp hrs
        obtain ⟨ha, hr⟩ := List.forall_mem_cons.mp hr
        obtain ⟨hk, hex⟩ := gd_inv hex
        obtain ⟨h6, ha2⟩ := new_obj hst hk.1 (mcl_lt hc1)
        have ff := fc_long hfc
        refine s_put (v := v) (ty := .long) (val := .long (Int64.ofInt v)) hx hb hown hts hSW hwd hst hS hc1 hk.1 hkr hlink ff.2 ff.1 rfl rfl (by unfold fvl; rw [hok.1.2, up_eq] <;> rfl) hd (fun H1 locs1 w1 w2 => ?_)
        exact next ls r (h.1, up h.2 a e.2.2.2.1.2.1 v) rl H1 locs1 hex hL hlen hrl hr (WF_up hwf (by omega) ha2 (by rw [hk.1, tcode_obj, hok.1.2]; exact hv.1)) (STR_up hst h6) w1 w2 hn hs
      · rw [q] at hex hok hfc
        dsimp only at hex
        obtain ⟨a, v, r, rfl, hex⟩ := rvR_inv hex
        obtain ⟨hv, hr⟩ := List.forall_mem_cons.mp hrs
        obtain ⟨ha, hr⟩ := List.forall_mem_cons.mp hr
        obtain ⟨hk, hex⟩ := gd_inv hex
        obtain ⟨h6, ha2⟩ := new_obj hst hk.1 (mcl_lt hc1)
        obtain ⟨ty, ff1, ff2, ff3⟩ := fc_ref hfc
        have ff : parseFieldDescriptor (rr.2.1 e.2.2.2.1.2.1).2.2.1 = some ty ∧ (rr.2.1 e.2.2.2.1.2.1).2.2.2 = false := ⟨ff1, ff3⟩
        refine s_put (v := v) (ty := ty) (val := va_rf (rfo z0 oa v)) hx hb hown hts hSW hwd hst hS hc1 hk.1 hkr hlink ff.2 ff.1 (ref_fit ff2 _).1 (ref_fit ff2 _).2 (by unfold fvl; rw [hok.1.2, up_eq] <;> rfl) hd (fun H1 locs1 w1 w2 => ?_)
        exact next ls r (h.1, up h.2 a e.2.2.2.1.2.1 v) rl H1 locs1 hex hL hlen hrl hr (WF_up hwf (by omega) ha2 (by rw [hk.1, tcode_obj, hok.1.2]; exact hv.1)) (STR_up hst h6) w1 w2 hn hs
      · rw [q] at hex hok hfc
        dsimp only at hex
        obtain ⟨a, v, r, rfl, hex⟩ := rvR_inv hex
        obtain ⟨hv, hr⟩ := List.forall_mem_cons.mp hrs
        obtain ⟨ha, hr⟩ := List.forall_mem_cons.mp hr
        obtain ⟨hk, hex⟩ := gd_inv hex
        obtain ⟨h6, ha2⟩ := new_obj hst hk.1 (mcl_lt hc1)
        obtain ⟨ty, ff1, ff2, ff3⟩ := fc_fin hfc
        obtain ⟨hi1, hi2⟩ : ini = true ∧ oc = e.2.2.2.1.1 := by rcases hok.2 with k | k; exact absurd rfl k; exact k
        refine s_putF (v := v) (ty := ty) hx hb hown hts hSW hwd hwf hst hS hc1 hk.1 hkr hlink ff3 (hini hi1) (by rw [mcl_nm1 hc1, hi2]) ff1 ff2 hok.1.2 hd (fun H1 locs1 w1 w2 => ?_)
        have hlen2 : (shSet h.1 a e.2.2.2.1.2.1 v).length = h.1.length := by unfold shSet; simp
        have hsl2 : sls (shSet h.1 a e.2.2.2.1.2.1 v) = sls h.1 := sls_set (by omega)
        have := next ls r (shSet h.1 a e.2.2.2.1.2.1 v, h.2) rl H1 locs1 hex hL hlen hrl hr (WF_set hwf (by omega) ha2 hv.1) (STR_set hst h6 ha2) w1 w2 (by rw [hlen2]; exact hn) (by rw [hsl2]; exact hs)
        simp only [hlen2, hsl2] at this
        exact this
      · rw [q] at hex hok hfc
        dsimp only at hex
        obtain ⟨a, v, r, rfl, hex⟩ := rvI_inv hex
        obtain ⟨hv, hr⟩ := List.forall_mem_cons.mp hrs
        obtain ⟨ha, hr⟩ := List.forall_mem_cons.mp hr
        obtain ⟨hk, hex⟩ := gd_inv hex
        obtain ⟨h6, ha2⟩ := new_obj hst hk.1 (mcl_lt hc1)
        have ff := fc_bool hfc
        have hbo : narrow .boolean (.int (Int32.ofInt v)) = .int (Int32.ofInt v) ∧ fits .boolean (.int (Int32.ofInt v)) = true := by rcases hk.2.2 with k | k <;> rw [k] <;> exact ⟨rfl, rfl⟩
        refine s_put (v := v) (ty := .boolean) (val := .int (Int32.ofInt v)) hx hb hown hts hSW hwd hst hS hc1 hk.1 hkr hlink ff.2 ff.1 hbo.1 hbo.2 (by unfold fvl; rw [hok.1.2, up_eq] <;> rfl) hd (fun H1 locs1 w1 w2 => ?_)
        exact next ls r (h.1, up h.2 a e.2.2.2.1.2.1 v) rl H1 locs1 hex hL hlen hrl hr (WF_up hwf (by omega) ha2 (by rw [hk.1, tcode_obj, hok.1.2]; exact hv.1)) (STR_up hst h6) w1 w2 hn hs
    · rename_i idx heq
      rw [heq] at hok
      simp only [Bool.and_eq_true, beq_iff_eq, decide_eq_true_eq, b32] at hok
      have hd := hdec _ heq (fun q => by cases q)
      rw [hok.1.1] at hd next
      refine s_gets hok.2 hx hb hown hts hSW hS (stl_all oc _ (look_mem hok.1.2)) hd ?_
      exact next ls (vr ((e.2.2.2.1.1 : Nat) : Int) :: st) h rl H locs hex hL hlen hrl (List.forall_mem_cons.mpr ⟨⟨by show (0 : Int) ≤ _; omega, fun q => by cases q⟩, hrs⟩) hwf hst hwd hS hn hs
    · rename_i heq
      rw [heq] at hok
      simp only [Bool.and_eq_true, beq_iff_eq, decide_eq_true_eq, b32] at hok
      have hd := hdec _ heq (fun q => by cases q)
      rw [hok] at hd next
      obtain ⟨a, j, r, rfl, hex⟩ := ri_inv hex
      obtain ⟨hj, hr⟩ := List.forall_mem_cons.mp hrs
      obtain ⟨ha, hr⟩ := List.forall_mem_cons.mp hr
      obtain ⟨hk, hex⟩ := gd_inv hex
      obtain ⟨ha1, ha2⟩ := shp_valid (s := h.1) (a := a) (by omega)
      have hg := (hwf.1 a ha1 ha2).2.1 j
      refine s_iald hx hb hSW hwd hwf hst hS hk.1 hk.2.1 hk.2.2 hd ?_
      exact next ls (vi (h.2 a j) :: r) h rl H locs hex hL hlen hrl (List.forall_mem_cons.mpr ⟨⟨by rw [hk.1] at hg; exact hg, fun q => by cases q⟩, hr⟩) hwf hst hwd hS hn hs
    · rename_i heq
      rw [heq] at hok
      simp only [Bool.and_eq_true, beq_iff_eq, decide_eq_true_eq, b32] at hok
      have hd := hdec _ heq (fun q => by cases q)
      rw [hok] at hd next
      obtain ⟨a, j, r, rfl, hex⟩ := ri_inv hex
      obtain ⟨hj, hr⟩ := List.forall_mem_cons.mp hrs
      obtain ⟨ha, hr⟩ := List.forall_mem_cons.mp hr
      obtain ⟨hk, hex⟩ := gd_inv hex
      obtain ⟨ha1, ha2⟩ := shp_valid (s := h.1) (a := a) (by omega)
      have hg := (hwf.1 a ha1 ha2).2.1 j
      refine s_lald hx hb hSW hwd hwf hst hk.1 hk.2.1 hk.2.2 hd ?_
      exact next ls (vl (h.2 a j) :: r) h rl H locs hex hL hlen hrl (List.forall_mem_cons.mpr ⟨⟨by rw [hk.1] at hg; exact hg, fun q => by cases q⟩, hr⟩) hwf hst hwd hS hn hs
    · rename_i heq
      rw [heq] at hok
      simp only [Bool.and_eq_true, beq_iff_eq, decide_eq_true_eq, b32] at hok
      have hd := hdec _ heq (fun q => by cases q)
      rw [hok] at hd next
      obtain ⟨a, j, r, rfl, hex⟩ := ri_inv hex
      obtain ⟨hj, hr⟩ := List.forall_mem_cons.mp hrs
      obtain ⟨ha, hr⟩ := List.forall_mem_cons.mp hr
      obtain ⟨hk, hex⟩ := gd_inv hex
      obtain ⟨ha1, ha2⟩ := shp_valid (s := h.1) (a := a) (by omega)
      have hg := (hwf.1 a ha1 ha2).2.1 j
      refine s_bald hx hb hSW hwd hwf hst hS hk.1 hk.2.1 hk.2.2 hd ?_
      exact next ls (vi (h.2 a j) :: r) h rl H locs hex hL hlen hrl (List.forall_mem_cons.mpr ⟨⟨by rw [hk.1] at hg; exact hg, fun q => by cases q⟩, hr⟩) hwf hst hwd hS hn hs
    · rename_i heq
      rw [heq] at hok
      simp only [Bool.and_eq_true, beq_iff_eq, decide_eq_true_eq, b32] at hok
      have hd := hdec _ heq (fun q => by cases q)
      rw [hok] at hd next
      obtain ⟨a, j, r, rfl, hex⟩ := ri_inv hex
      obtain ⟨hj, hr⟩ := List.forall_mem_cons.mp hrs
      obtain ⟨ha, hr⟩ := List.forall_mem_cons.mp hr
      obtain ⟨hk, hex⟩ := gd_inv hex
      obtain ⟨ha1, ha2⟩ := shp_valid (s := h.1) (a := a) (by omega)
      have hg := (hwf.1 a ha1 ha2).2.1 j
      refine s_aald hx hb hSW hwd hwf hst hk.1 hk.2.1 hk.2.2 hd ?_
      exact next ls (vr (shR h.1 a j) :: r) h rl H locs hex hL hlen hrl (List.forall_mem_cons.mpr ⟨⟨(hwf.1 a ha1 ha2).2.2.1 j.toNat, fun q => by cases q⟩, hr⟩) hwf hst hwd hS hn hs
    · rename_i heq
      rw [heq] at hok
      simp only [Bool.and_eq_true, beq_iff_eq, decide_eq_true_eq, b32] at hok
      have hd := hdec _ heq (fun q => by cases q)
      rw [hok] at hd next
      obtain ⟨a, j, v, r, rfl, hex⟩ := rii_inv hex
      obtain ⟨hv, hr⟩ := List.forall_mem_cons.mp hrs
      obtain ⟨hj, hr⟩ := List.forall_mem_cons.mp hr
      obtain ⟨ha, hr⟩ := List.forall_mem_cons.mp hr
      obtain ⟨hk, hex⟩ := gd_inv hex
      obtain ⟨ha1, ha2⟩ := shp_valid (s := h.1) (a := a) (by omega)
      refine s_iast (v := v) hx hb hSW hwd hwf hS hk.1 hk.2.1 hk.2.2.1 hk.2.2.2 hd (fun H1 locs1 w1 w2 => ?_)
      exact next ls r (h.1, up h.2 a j v) rl H1 locs1 hex hL hlen hrl hr (WF_up hwf ha1 ha2 (by rw [hk.1]; exact hv.1)) (STR_up hst hk.2.1) w1 w2 hn hs
    · rename_i heq
      rw [heq] at hok
      simp only [Bool.and_eq_true, beq_iff_eq, decide_eq_true_eq, b32] at hok
      have hd := hdec _ heq (fun q => by cases q)
      rw [hok] at hd next
      obtain ⟨a, j, v, r, rfl, hex⟩ := ril_inv hex
      obtain ⟨hv, hr⟩ := List.forall_mem_cons.mp hrs
      obtain ⟨hj, hr⟩ := List.forall_mem_cons.mp hr
      obtain ⟨ha, hr⟩ := List.forall_mem_cons.mp hr
      obtain ⟨hk, hex⟩ := gd_inv hex
      obtain ⟨ha1, ha2⟩ := shp_valid (s := h.1) (a := a) (by omega)
      refine s_last (v := v) hx hb hSW hwd hwf hS hk.1 hk.2.1 hk.2.2.1 hk.2.2.2 hd (fun H1 locs1 w1 w2 => ?_)
      exact next ls r (h.1, up h.2 a j v) rl H1 locs1 hex hL hlen hrl hr (WF_up hwf ha1 ha2 (by rw [hk.1]; exact hv.1)) (STR_up hst hk.2.1) w1 w2 hn hs
    · rename_i heq
      rw [heq] at hok
      simp only [Bool.and_eq_true, beq_iff_eq, decide_eq_true_eq, b32] at hok
      have hd := hdec _ heq (fun q => by cases q)
      rw [hok] at hd next
      obtain ⟨a, j, v, r, rfl, hex⟩ := rii_inv hex
      obtain ⟨hv, hr⟩ := List.forall_mem_cons.mp hrs
      obtain ⟨hj, hr⟩ := List.forall_mem_cons.mp hr
      obtain ⟨ha, hr⟩ := List.forall_mem_cons.mp hr
      obtain ⟨hk, hex⟩ := gd_inv hex
      obtain ⟨ha1, ha2⟩ := shp_valid (s := h.1) (a := a) (by omega)
      refine s_bast (v := v) hx hb hSW hwd hwf hS hk.1 hk.2.1 hk.2.2.1 hk.2.2.2 hd (fun H1 locs1 w1 w2 => ?_)
      exact next ls r (h.1, up h.2 a j (v.bmod 256)) rl H1 locs1 hex hL hlen hrl hr (WF_up hwf ha1 ha2 (by rw [hk.1]; exact r32_b v)) (STR_up hst hk.2.1) w1 w2 hn hs
    · rename_i heq
      rw [heq] at hok
      simp only [Bool.and_eq_true, beq_iff_eq, decide_eq_true_eq, b32] at hok
      have hd := hdec _ heq (fun q => by cases q)
      rw [hok.1.1] at hd next
      obtain ⟨a, j, v, r, rfl, hex⟩ := rir_inv hex
      obtain ⟨hv, hr⟩ := List.forall_mem_cons.mp hrs
      obtain ⟨hj, hr⟩ := List.forall_mem_cons.mp hr
      obtain ⟨ha, hr⟩ := List.forall_mem_cons.mp hr
      obtain ⟨hk, hex⟩ := gd_inv hex
      obtain ⟨hk0, hk1, hk2, hk3, hk4, hk5, hk6⟩ := hk
      obtain ⟨ha1, ha2⟩ := shp_valid (s := h.1) (a := a) (by omega)
      refine s_aast (v := v) (kk0 := e.2.2.2.1.2.1) (ci := aci e.2.2.2.1.2.1) hx hb hSW hwd hwf hS hk4 hok.1.2 rfl hk1 hk2 (by rw [hk3]; exact hok.2) hk5 hk6 hd (fun H1 locs1 w1 w2 => ?_)
      have hlen2 : (shSet h.1 a j.toNat v).length = h.1.length := by unfold shSet; simp
      have hsl2 : sls (shSet h.1 a j.toNat v) = sls h.1 := sls_set (by omega)
      have := next ls r (shSet h.1 a j.toNat v, h.2) rl H1 locs1 hex hL hlen hrl hr (WF_set hwf ha1 ha2 hv.1) (STR_set hst hk1 ha2) w1 w2 (by rw [hlen2]; exact hn) (by rw [hsl2]; exact hs)
      simp only [hlen2, hsl2] at this
      exact this
    · rename_i heq
      rw [heq] at hok
      simp only [Bool.and_eq_true, beq_iff_eq, decide_eq_true_eq, b32] at hok
      have hd := hdec _ heq (fun q => by cases q)
      rw [hok] at hd next
      obtain ⟨a, r, rfl, hex⟩ := r1_inv hex
      obtain ⟨ha, hr⟩ := List.forall_mem_cons.mp hrs
      obtain ⟨hk, hex⟩ := gd_inv hex
      obtain ⟨ha1, ha2⟩ := shp_valid (s := h.1) (a := a) (by omega)
      have hg := (hwf.1 a ha1 ha2).1
      refine s_alen hx hb hSW hwd hwf hst hS hk hd ?_
      exact next ls (vi (shN h.1 a) :: r) h rl H locs hex hL hlen hrl (List.forall_mem_cons.mpr ⟨⟨by show r32 _; unfold r32 shN; omega, fun q => by cases q⟩, hr⟩) hwf hst hwd hS hn hs
    · rename_i idx heq
      rw [heq] at hok
      simp only [Bool.and_eq_true, beq_iff_eq, decide_eq_true_eq, b32] at hok
      have hd := hdec _ heq (fun q => by cases q)
      rw [hok.1.1.1] at hd next
      obtain ⟨rr, hc1, hcl1, hin1, hii1⟩ := cl_all oc _ (look_mem hok.1.1.2)
      have hy : rr.2.2 = e.2.2.2.1.2.1 := by rw [hok.1.2]; exact mcl_n hc1
      have hgr := exec_gr _ _ _ _ _ _ _ _ hex
      have hl2 : (h.1 ++ [(10 + e.2.2.2.1.1, e.2.2.2.1.2.1, List.replicate e.2.2.2.1.2.1 0)]).length = h.1.length + 1 := by simp
      have hs2 : sls (h.1 ++ [(10 + e.2.2.2.1.1, e.2.2.2.1.2.1, List.replicate e.2.2.2.1.2.1 0)]) = sls h.1 + e.2.2.2.1.2.1 := sls_app _ _
      have hgr1 : h.1.length + 1 ≤ z.2.1.length := by rw [← hl2]; exact hgr.1
      have hgr2 : sls h.1 + e.2.2.2.1.2.1 ≤ sls z.2.1 := by rw [← hs2]; exact hgr.2
      rw [← hy] at hex hl2 hs2 hgr2
      refine s_new hx hb hown hts hSW hwd hwf hS hc1 hcl1 hin1 hii1 (by omega) (by omega) hd (fun H1 w1 w2 => ?_)
      have := next ls (vr ((h.1.length + 1 : Nat) : Int) :: st) (h.1 ++ [(10 + e.2.2.2.1.1, rr.2.2, List.replicate rr.2.2 0)], h.2) rl H1 locs hex hL hlen hrl (List.forall_mem_cons.mpr ⟨⟨by show (0 : Int) ≤ _; omega, fun q => by cases q⟩, hrs⟩) (WF_push hwf (Nat.lt_of_le_of_lt (show rr.2.2 ≤ 42 by rw [mcl_n hc1]; exact nfl_le _) (by decide)) (fun k => by show 0 ≤ (List.replicate rr.2.2 (0 : Int)).getD k 0; rw [List.getD_eq_getElem?_getD, List.getElem?_replicate]; split <;> simp) (fun q1 q2 => absurd q2 (by show ¬ 10 + _ ≤ 5; omega)) (fun q1 q2 => by show (List.replicate rr.2.2 (0 : Int)).length = nfl (10 + _ - 10); rw [List.length_replicate, Nat.add_sub_cancel_left]; exact mcl_n hc1)) (STR_push hst hrc) w1 w2 (by rw [hl2]; omega) (by rw [hs2]; omega)
      simp only [hl2, hs2] at this
      rw [show h.1.length + 1 - n0 = h.1.length - n0 + 1 by omega, show sls h.1 + rr.2.2 - s0 = sls h.1 - s0 + rr.2.2 by omega] at this
      exact this
    · rename_i at1 heq
      rw [heq] at hok
      simp only [Bool.and_eq_true, beq_iff_eq, decide_eq_true_eq, b32] at hok
      have hd := hdec _ heq (fun q => by cases q)
      rw [hok.1] at hd next
      obtain ⟨n1, r, rfl, hex⟩ := k1_inv hex
      obtain ⟨hv, hr⟩ := List.forall_mem_cons.mp hrs
      obtain ⟨hk, hex⟩ := gd_inv hex
      have hgr := exec_gr _ _ _ _ _ _ _ _ hex
      have hl2 : (h.1 ++ [(e.2.2.2.1.1, n1.toNat, [])]).length = h.1.length + 1 := by simp
      have hs2 : sls (h.1 ++ [(e.2.2.2.1.1, n1.toNat, [])]) = sls h.1 + n1.toNat := sls_app _ _
      have hgr1 : h.1.length + 1 ≤ z.2.1.length := by rw [← hl2]; exact hgr.1
      have hgr2 : sls h.1 + n1.toNat ≤ sls z.2.1 := by rw [← hs2]; exact hgr.2
      have hkt : (e.2.2.2.1.1 = 0 ∧ newarray.typeOf at1 = .int) ∨ (e.2.2.2.1.1 = 1 ∧ newarray.typeOf at1 = .long) ∨ (e.2.2.2.1.1 = 2 ∧ newarray.typeOf at1 = .byte) := by
        have hok2 := hok.2
        revert hok2
        cases at1 <;> simp only [beq_iff_eq] <;> intro k <;> first | exact Or.inl ⟨k, rfl⟩ | exact Or.inr (Or.inl ⟨k, rfl⟩) | exact Or.inr (Or.inr ⟨k, rfl⟩) | cases k
      refine s_newa rfl hkt hx hb hts hSW hwd hwf hS hk.1 hk.2 (by omega) (by omega) hd (fun H1 w1 w2 => ?_)
      have := next ls (vr ((h.1.length + 1 : Nat) : Int) :: r) (h.1 ++ [(e.2.2.2.1.1, n1.toNat, [])], h.2) rl H1 locs hex hL hlen hrl (List.forall_mem_cons.mpr ⟨⟨by show (0 : Int) ≤ _; omega, fun q => by cases q⟩, hr⟩) (WF_push hwf (by show n1.toNat < 2147483648; omega) (fun k => by show 0 ≤ ([] : List Int).getD k 0; simp) (fun q1 q2 => absurd q1 (by show ¬ 3 ≤ e.2.2.2.1.1; omega)) (fun q1 q2 => absurd q1 (by show ¬ 10 ≤ e.2.2.2.1.1; omega))) (STR_push hst hrc) w1 w2 (by rw [hl2]; omega) (by rw [hs2]; omega)
      simp only [hl2, hs2] at this
      rw [show h.1.length + 1 - n0 = h.1.length - n0 + 1 by omega, show sls h.1 + n1.toNat - s0 = sls h.1 - s0 + n1.toNat by omega] at this
      exact this
    · rename_i idx heq
      rw [heq] at hok
      simp only [Bool.and_eq_true, beq_iff_eq, decide_eq_true_eq, b32] at hok
      have hd := hdec _ heq (fun q => by cases q)
      rw [hok.1.1] at hd next
      obtain ⟨n1, r, rfl, hex⟩ := k1_inv hex
      obtain ⟨hv, hr⟩ := List.forall_mem_cons.mp hrs
      obtain ⟨hk, hex⟩ := gd_inv hex
      have hgr := exec_gr _ _ _ _ _ _ _ _ hex
      have hl2 : (h.1 ++ [(e.2.2.2.1.1, n1.toNat, List.replicate n1.toNat 0)]).length = h.1.length + 1 := by simp
      have hs2 : sls (h.1 ++ [(e.2.2.2.1.1, n1.toNat, List.replicate n1.toNat 0)]) = sls h.1 + n1.toNat := sls_app _ _
      have hgr1 : h.1.length + 1 ≤ z.2.1.length := by rw [← hl2]; exact hgr.1
      have hgr2 : sls h.1 + n1.toNat ≤ sls z.2.1 := by rw [← hs2]; exact hgr.2
      obtain ⟨rr, hc1, hcl1, -⟩ := cl_all oc _ (look_mem hok.2)
      have hcn : rr.1 = aC e.2.2.2.1.1 := by rw [mcl_nm1 hc1]; rcases (show e.2.2.2.1.1 = 3 ∨ e.2.2.2.1.1 = 4 ∨ e.2.2.2.1.1 = 5 by omega) with k | k | k <;> rw [k] <;> rfl
      refine s_anew hok.1.2 hx hb hown hts hSW hwd hS (by rw [← hcn]; exact hcl1) hk.1 hk.2 (by omega) (by omega) hd (fun H1 w1 w2 => ?_)
      have := next ls (vr ((h.1.length + 1 : Nat) : Int) :: r) (h.1 ++ [(e.2.2.2.1.1, n1.toNat, List.replicate n1.toNat 0)], h.2) rl H1 locs hex hL hlen hrl (List.forall_mem_cons.mpr ⟨⟨by show (0 : Int) ≤ _; omega, fun q => by cases q⟩, hr⟩) (WF_push hwf (by show n1.toNat < 2147483648; omega) (fun k => by show 0 ≤ (List.replicate n1.toNat (0 : Int)).getD k 0; rw [List.getD_eq_getElem?_getD, List.getElem?_replicate]; split <;> simp) (fun q1 q2 => by show (List.replicate n1.toNat (0 : Int)).length = n1.toNat; simp) (fun q1 q2 => absurd q1 (by show ¬ 10 ≤ e.2.2.2.1.1; omega))) (STR_push hst hrc) w1 w2 (by rw [hl2]; omega) (by rw [hs2]; omega)
      simp only [hl2, hs2] at this
      rw [show h.1.length + 1 - n0 = h.1.length - n0 + 1 by omega, show sls h.1 + n1.toNat - s0 = sls h.1 - s0 + n1.toNat by omega] at this
      exact this
    · rename_i idx heq
      rw [heq] at hok
      simp only [Bool.and_eq_true, beq_iff_eq, decide_eq_true_eq, b32] at hok
      have hd := hdec _ heq (fun q => by cases q)
      rw [hok.1] at hd next
      have hcv1 := hcv e (List.mem_of_getElem? he)
      unfold okV at hcv1
      rw [heq] at hcv1
      simp only [Bool.or_eq_true, decide_eq_true_eq] at hcv1
      split at hex
      · rename_i hx0
        rw [hx0] at hok
        obtain ⟨a, r, rfl, hex⟩ := r1_inv hex
        obtain ⟨ha, hr⟩ := List.forall_mem_cons.mp hrs
        obtain ⟨hk, hex⟩ := gd_inv hex
        have hol : Cond.methodLink (cN oc) idx objectInit ∈ lw_tbl := ol_all oc _ (List.contains_iff_mem.mp hok.2)
        show W p l ev R s m args below meth c H locs _ _ Q (F0 m e.1 rl (va_rf (rfo z0 oa a) :: r.map (trv z0 oa)))
        rw [rfo_pos (by omega)]
        have hcs := cat_sum (r.map (trv z0 oa))
        rw [List.length_map] at hcs
        refine W.objInit hx hb hown (hts _ (gt hol rfl)) (hts _ (gt ob_inst rfl)) (hts _ (gt ob_code rfl)) rfl (by rw [hml]; show rl.size = nL; rw [hL.1, hlen]) rfl hd (by omega) (by show 2 * 0 + _ + 12 ≤ _; omega) ?_
        exact next ls r h rl H locs hex hL hlen hrl hr hwf hst hwd hS hn hs
      · rename_i hx0
        have hok2 := hok.2
        split at hok2
        · rename_i q; exact absurd q hx0
        · simp only [Bool.and_eq_true, Bool.or_eq_true, beq_iff_eq, decide_eq_true_eq, Bool.not_eq_true'] at hok2
          obtain ⟨⟨⟨⟨⟨hm9, hyA⟩, hlk0⟩, hyR⟩, hyS⟩, hmx⟩ := hok2
          obtain ⟨⟨hg1, hg2, hg3⟩, hex⟩ := gd_inv hex
          have hnm : (yN e.2.2.2.1.1).name = "<init>" := by rcases hcv1 with k | k; exact absurd k hx0; exact k
          have hmi : e.2.2.2.1.1 < 372 := by rcases hlk0 with k | k; exact (ml_all oc _ (look_mem k)).1; exact (nl_all oc _ (look_mem k)).1
          have hlk : Cond.methodLink (cN oc) idx (yN e.2.2.2.1.1) ∈ lw_tbl ∨ Cond.methodLinkNest (cN oc) idx (yN e.2.2.2.1.1) "EmptyChairs" ∈ nstL := by rcases hlk0 with k | k; exact Or.inl (ml_all oc _ (look_mem k)).2; exact Or.inr (nl_all oc _ (look_mem k)).2
          obtain ⟨b, av2, hav, hrb⟩ := rcv_inv (show 0 < rcv (st.take e.2.2.2.1.2.1).reverse by omega)
          rw [hrb] at hg3
          have hlenA : av2.length = yA e.2.2.2.1.1 := by have := congrArg List.length hav; simp only [List.length_reverse, List.length_take, List.length_cons] at this; omega
          obtain ⟨d2, hdd, hsp, hex⟩ := dp_inv hex
          subst hdd
          obtain ⟨h1, hcx, hex⟩ := aV_inv hex
          have hRS : ∀ x ∈ (st.take e.2.2.2.1.2.1).reverse, RS x := fun x hx9 => hrs x (List.mem_of_mem_take (List.mem_reverse.mp hx9))
          have hM := IH d2 rfl e.2.2.2.1.1 hmi n _ h h1 none hcx hsp hRS hwf hst
          have gr1 := exec_gr _ _ _ _ _ _ _ _ hcx
          have gr2 := exec_gr _ _ _ _ _ _ _ _ hex
          have gr1a := gr1.1
          have gr1b := gr1.2
          have gr2a := gr2.1
          have gr2b := gr2.2
          dsimp only at gr1a gr1b gr2a gr2b
          have hml2 : c.maxLocals = rl.size := by rw [hml, hL.1, hlen]
          have hdr : ∀ x ∈ st.drop e.2.2.2.1.2.1, RS x := fun x hx9 => hrs x (List.mem_of_mem_drop hx9)
          rw [hav] at hM
          refine W.eq (congrArg (F0 m e.1 rl) (split_args hav)) ?_
          rw [show trv z0 oa (vr b) = .ref (rho z0 oa b) from rfo_pos (by omega)]
          refine sim_call (s_runI hmi hyS hnm hlk hyR (by omega) hlenA hmx hM hx hb hml2 hown hts hSW hwd hS (by rw [List.length_map]; exact hg1) (by omega) (by omega) (by omega) (by omega) hd) hS (fun H1 locs1 w1 w2 w3 w4 w5 => ?_)
          have := next ls (st.drop e.2.2.2.1.2.1) h1 rl H1 locs1 hex hL hlen hrl hdr w3 w4 w1 w2 (by omega) (by omega)
          rw [show h1.1.length - n0 = (h.1.length - n0) + (h1.1.length - h.1.length) by omega, show sls h1.1 - s0 = (sls h.1 - s0) + (sls h1.1 - sls h.1) by omega] at this
          exact this
    · rename_i idx heq
      rw [heq] at hok
      simp only [Bool.and_eq_true, beq_iff_eq, decide_eq_true_eq, b32] at hok
      have hd := hdec _ heq (fun q => by cases q)
      rw [hok.1] at hd next
      have hcv1 := hcv e (List.mem_of_getElem? he)
      unfold okV at hcv1
      rw [heq] at hcv1
      simp only [Bool.or_eq_true, Bool.not_eq_true', decide_eq_true_eq, decide_eq_false_iff_not] at hcv1
      split at hex
      · rename_i hx0
        rw [hx0] at hok
        simp only [Bool.and_eq_true, beq_iff_eq] at hok
        obtain ⟨hl3, rfl, rfl⟩ := hok
        obtain ⟨a, j, r, rfl, hex⟩ := ri_inv hex
        obtain ⟨hj, hr⟩ := List.forall_mem_cons.mp hrs
        obtain ⟨⟨ea, hk1, hk2, hk3⟩, hex2⟩ := gd_inv hex
        clear hex
        subst ea
        have gr2 := exec_gr _ _ _ _ _ _ _ _ hex2
        have gr2a := gr2.1
        have gr2b := gr2.2
        unfold shN at hk2
        rw [hst.2.1] at hk2
        have hk2 : j < 183 := hk2
        have e6 := hst.2.2.1 j.toNat (by omega)
        rw [show ((j.toNat : Nat) : Int) = j by omega] at e6
        show W p l ev R s m args below meth c H locs _ _ Q (F0 m e.1 rl (.int (Int32.ofInt j) :: va_rf (rfo z0 oa 5) :: r.map (trv z0 oa)))
        rw [rfo_pos (by omega), show rho z0 oa 5 = oa 5 from rho_old (k := 5) (by omega)]
        refine s_charAt hk1 hk2 hx hb (by rw [hml, hL.1, hlen]) hown hts hSW hS (by rw [List.length_map]; exact hk3) (by omega) (by omega) (by omega) (by omega) hd ?_
        rw [← e6]
        exact next ls (vi (h.2 6 j) :: r) h rl H locs hex2 hL hlen hrl (List.forall_mem_cons.mpr ⟨⟨by show r32 _; rw [e6]; have := KWI_r j.toNat; unfold r32; omega, fun q => by cases q⟩, (List.forall_mem_cons.mp hr).2⟩) hwf hst hwd hS hn hs
      · rename_i hx0
        rw [hx0] at hok
        simp only [Bool.and_eq_true, beq_iff_eq] at hok
        obtain ⟨hl3, rfl, rfl⟩ := hok
        obtain ⟨a, r, rfl, hex⟩ := r1_inv hex
        obtain ⟨ha, hr⟩ := List.forall_mem_cons.mp hrs
        obtain ⟨⟨ea, hk3⟩, hex2⟩ := gd_inv hex
        clear hex
        subst ea
        have gr2 := exec_gr _ _ _ _ _ _ _ _ hex2
        have gr2a := gr2.1
        have gr2b := gr2.2
        have e6 : shN h.1 6 = 183 := by unfold shN; rw [hst.2.1]; rfl
        show W p l ev R s m args below meth c H locs _ _ Q (F0 m e.1 rl (va_rf (rfo z0 oa 5) :: r.map (trv z0 oa)))
        rw [rfo_pos (by omega), show rho z0 oa 5 = oa 5 from rho_old (k := 5) (by omega)]
        refine s_strlen hx hb (by rw [hml, hL.1, hlen]) hown hts hSW hS (by rw [List.length_map]; exact hk3) (by omega) (by omega) (by omega) (by omega) hd ?_
        rw [e6] at hex2
        exact next ls (vi 183 :: r) h rl H locs hex2 hL hlen hrl (List.forall_mem_cons.mpr ⟨⟨by show r32 _; unfold r32; omega, fun q => by cases q⟩, hr⟩) hwf hst hwd hS hn hs
      · rename_i hx1 hx2
        have hok2 := hok.2
        split at hok2
        · rename_i q; exact absurd q hx1
        · rename_i q; exact absurd q hx2
        · simp only [Bool.and_eq_true, Bool.or_eq_true, beq_iff_eq, decide_eq_true_eq, Bool.not_eq_true'] at hok2
          obtain ⟨⟨⟨⟨⟨⟨⟨hm9, hyA⟩, hlk0⟩, hyS⟩, hw0⟩, hyO⟩, hrtc⟩, hmx⟩ := hok2
          obtain ⟨⟨hg1, hg2, hg3⟩, hex⟩ := gd_inv hex
          rw [hw0] at hg3
          have hmi : e.2.2.2.1.1 < 372 := (ml_all oc _ (look_mem hlk0)).1
          have hlk : Cond.methodLink (cN oc) idx (yN e.2.2.2.1.1) ∈ lw_tbl := (ml_all oc _ (look_mem hlk0)).2
          have hsel : Cond.selects (yN e.2.2.2.1.1).cls (yN e.2.2.2.1.1) (yN e.2.2.2.1.1) ∈ lw_tbl := by rcases ((yok_all _ hmi).2.2.2.2.2.2 hyS).2 with k | k; exact absurd k (by rcases hcv1 with k2 | k2; omega; exact k2); exact k
          obtain ⟨hb6, hb7⟩ := new_obj hst hg3 hyO
          obtain ⟨b, av2, hav, hrb⟩ := rcv_inv (show 0 < rcv (st.take e.2.2.2.1.2.1).reverse by omega)
          rw [hrb] at hg3 hb6
          have hkb := hg3
          have hlenA : av2.length = yA e.2.2.2.1.1 := by have := congrArg List.length hav; simp only [List.length_reverse, List.length_take, List.length_cons] at this; omega
          split at hex
          · rename_i hr0
            obtain ⟨d2, hdd, hsp, hex⟩ := dp_inv hex
            subst hdd
            obtain ⟨h1, hcx, hex⟩ := aV_inv hex
            have hRS : ∀ x ∈ (st.take e.2.2.2.1.2.1).reverse, RS x := fun x hx9 => hrs x (List.mem_of_mem_take (List.mem_reverse.mp hx9))
            have hM := IH d2 rfl e.2.2.2.1.1 hmi n _ h h1 none hcx hsp hRS hwf hst
            have gr1 := exec_gr _ _ _ _ _ _ _ _ hcx
            have gr2 := exec_gr _ _ _ _ _ _ _ _ hex
            have gr1a := gr1.1
            have gr1b := gr1.2
            have gr2a := gr2.1
            have gr2b := gr2.2
            dsimp only at gr1a gr1b gr2a gr2b
            have hml2 : c.maxLocals = rl.size := by rw [hml, hL.1, hlen]
            have hdr : ∀ x ∈ st.drop e.2.2.2.1.2.1, RS x := fun x hx9 => hrs x (List.mem_of_mem_drop hx9)
            rw [hav] at hM
            refine W.eq (congrArg (F0 m e.1 rl) (split_args hav)) ?_
            rw [show trv z0 oa (vr b) = .ref (rho z0 oa b) from rfo_pos (by omega)]
            refine sim_call (s_runV hmi hyS hsel hlk hyO hkb hlenA hmx hM hx hb hml2 hown hts hSW hwd hst hS (by rw [List.length_map]; exact hg1) (by omega) (by omega) (by omega) (by omega) hd) hS (fun H1 locs1 w1 w2 w3 w4 w5 => ?_)
            have := next ls (st.drop e.2.2.2.1.2.1) h1 rl H1 locs1 hex hL hlen hrl hdr w3 w4 w1 w2 (by omega) (by omega)
            rw [show h1.1.length - n0 = (h.1.length - n0) + (h1.1.length - h.1.length) by omega, show sls h1.1 - s0 = (sls h.1 - s0) + (sls h1.1 - sls h.1) by omega] at this
            exact this
          · rename_i hr0
            obtain ⟨d2, hdd, hsp, hex⟩ := dp_inv hex
            subst hdd
            obtain ⟨x, h1, hcx, hex⟩ := aI_inv hex
            have hRS : ∀ x ∈ (st.take e.2.2.2.1.2.1).reverse, RS x := fun x hx9 => hrs x (List.mem_of_mem_take (List.mem_reverse.mp hx9))
            have hM := IH d2 rfl e.2.2.2.1.1 hmi n _ h h1 (some (vi x)) hcx hsp hRS hwf hst
            have gr1 := exec_gr _ _ _ _ _ _ _ _ hcx
            have gr2 := exec_gr _ _ _ _ _ _ _ _ hex
            have gr1a := gr1.1
            have gr1b := gr1.2
            have gr2a := gr2.1
            have gr2b := gr2.2
            dsimp only at gr1a gr1b gr2a gr2b
            have hml2 : c.maxLocals = rl.size := by rw [hml, hL.1, hlen]
            have hdr : ∀ x ∈ st.drop e.2.2.2.1.2.1, RS x := fun x hx9 => hrs x (List.mem_of_mem_drop hx9)
            rw [hav] at hM
            refine W.eq (congrArg (F0 m e.1 rl) (split_args hav)) ?_
            rw [show trv z0 oa (vr b) = .ref (rho z0 oa b) from rfo_pos (by omega)]
            refine sim_call (s_runV hmi hyS hsel hlk hyO hkb hlenA hmx hM hx hb hml2 hown hts hSW hwd hst hS (by rw [List.length_map]; exact hg1) (by omega) (by omega) (by omega) (by omega) hd) hS (fun H1 locs1 w1 w2 w3 w4 w5 => ?_)
            have := next ls (vi x :: st.drop e.2.2.2.1.2.1) h1 rl H1 locs1 hex hL hlen hrl (List.forall_mem_cons.mpr ⟨w5 _ rfl, hdr⟩) w3 w4 w1 w2 (by omega) (by omega)
            rw [show h1.1.length - n0 = (h.1.length - n0) + (h1.1.length - h.1.length) by omega, show sls h1.1 - s0 = (sls h.1 - s0) + (sls h1.1 - sls h.1) by omega] at this
            exact this
          · rename_i hr0
            obtain ⟨d2, hdd, hsp, hex⟩ := dp_inv hex
            subst hdd
            obtain ⟨x, h1, hcx, hex⟩ := aL_inv hex
            have hRS : ∀ x ∈ (st.take e.2.2.2.1.2.1).reverse, RS x := fun x hx9 => hrs x (List.mem_of_mem_take (List.mem_reverse.mp hx9))
            have hM := IH d2 rfl e.2.2.2.1.1 hmi n _ h h1 (some (vl x)) hcx hsp hRS hwf hst
            have gr1 := exec_gr _ _ _ _ _ _ _ _ hcx
            have gr2 := exec_gr _ _ _ _ _ _ _ _ hex
            have gr1a := gr1.1
            have gr1b := gr1.2
            have gr2a := gr2.1
            have gr2b := gr2.2
            dsimp only at gr1a gr1b gr2a gr2b
            have hml2 : c.maxLocals = rl.size := by rw [hml, hL.1, hlen]
            have hdr : ∀ x ∈ st.drop e.2.2.2.1.2.1, RS x := fun x hx9 => hrs x (List.mem_of_mem_drop hx9)
            rw [hav] at hM
            refine W.eq (congrArg (F0 m e.1 rl) (split_args hav)) ?_
            rw [show trv z0 oa (vr b) = .ref (rho z0 oa b) from rfo_pos (by omega)]
            refine sim_call (s_runV hmi hyS hsel hlk hyO hkb hlenA hmx hM hx hb hml2 hown hts hSW hwd hst hS (by rw [List.length_map]; exact hg1) (by omega) (by omega) (by omega) (by omega) hd) hS (fun H1 locs1 w1 w2 w3 w4 w5 => ?_)
            have := next ls (vl x :: st.drop e.2.2.2.1.2.1) h1 rl H1 locs1 hex hL hlen hrl (List.forall_mem_cons.mpr ⟨w5 _ rfl, hdr⟩) w3 w4 w1 w2 (by omega) (by omega)
            rw [show h1.1.length - n0 = (h.1.length - n0) + (h1.1.length - h.1.length) by omega, show sls h1.1 - s0 = (sls h.1 - s0) + (sls h1.1 - sls h.1) by omega] at this
            exact this
    · rename_i idx heq
      rw [heq] at hok
      simp only [Bool.and_eq_true, beq_iff_eq, decide_eq_true_eq, b32] at hok
      have hd := hdec _ heq (fun q => by cases q)
      rw [hok.1] at hd next
      split at hex
      · rename_i hx0
        rw [hx0] at hok
        obtain ⟨src, sp, dst, dp1, n1, r, rfl, hex⟩ := ac5_inv hex
        obtain ⟨hv1, hr⟩ := List.forall_mem_cons.mp hrs
        obtain ⟨hv2, hr⟩ := List.forall_mem_cons.mp hr
        obtain ⟨hv3, hr⟩ := List.forall_mem_cons.mp hr
        obtain ⟨hv4, hr⟩ := List.forall_mem_cons.mp hr
        obtain ⟨hv5, hr⟩ := List.forall_mem_cons.mp hr
        obtain ⟨⟨a1, a2, a3, a4, a5, a6, a7, a8, a9⟩, hex⟩ := gd_inv hex
        have hcs := cat_sum (r.map (trv z0 oa))
        rw [List.length_map] at hcs
        refine s_copy (src := src) (sp := sp) (dst := dst) (dp := dp1) (n := n1) hx hb (by rw [hml, hL.1, hlen]) hown hts (al_all oc _ (List.contains_iff_mem.mp hok.2)) hSW hwd hwf hst hS a1 a2 a3 a4 a5 a6 a7 a8 (by omega) (by omega) (by omega) hd (fun H1 locs1 w1 w2 => ?_)
        exact next ls r (h.1, cpy h.2 src sp dst dp1 n1) rl H1 locs1 hex hL hlen hrl hr (WF_cpy hwf a1 a2) (STR_cpy hst a3) w1 w2 hn hs
      · rename_i hx0
        rw [hx0] at hok
        simp only [beq_iff_eq] at hok
        obtain ⟨hh1, hh2⟩ := hl_all oc _ (look_mem hok.2)
        obtain ⟨u, v, r, rfl, hex⟩ := k2_inv hex
        obtain ⟨hv, hr⟩ := List.forall_mem_cons.mp hrs
        obtain ⟨hu, hr⟩ := List.forall_mem_cons.mp hr
        obtain ⟨hg1, hex⟩ := gd_inv hex
        have gr2 := exec_gr _ _ _ _ _ _ _ _ hex
        have gr2a := gr2.1
        have gr2b := gr2.2
        have hcs := cat_sum (r.map (trv z0 oa))
        rw [List.length_map] at hcs
        refine va_mmax hx hb (by rw [hml, hL.1, hlen]) hown (hts _ (gt hh2 rfl)) (hts _ (gt h_stat904 rfl)) (hts _ (gt h_ini rfl)) (hts _ (gt h_code904 rfl)) (by omega) (by omega) (by omega) (by omega) hd ?_
        rw [imax hu.1 hv.1]
        exact next ls (vi (max u v) :: r) h rl H locs hex hL hlen hrl (List.forall_mem_cons.mpr ⟨⟨r32_max hu.1 hv.1, fun q => by cases q⟩, hr⟩) hwf hst hwd hS hn hs
      · rename_i hx0
        rw [hx0] at hok
        simp only [beq_iff_eq] at hok
        obtain ⟨hh1, hh2⟩ := hl_all oc _ (look_mem hok.2)
        obtain ⟨u, v, r, rfl, hex⟩ := k2_inv hex
        obtain ⟨hv, hr⟩ := List.forall_mem_cons.mp hrs
        obtain ⟨hu, hr⟩ := List.forall_mem_cons.mp hr
        obtain ⟨hg1, hex⟩ := gd_inv hex
        have gr2 := exec_gr _ _ _ _ _ _ _ _ hex
        have gr2a := gr2.1
        have gr2b := gr2.2
        have hcs := cat_sum (r.map (trv z0 oa))
        rw [List.length_map] at hcs
        refine va_mmin hx hb (by rw [hml, hL.1, hlen]) hown (hts _ (gt hh2 rfl)) (hts _ (gt h_stat905 rfl)) (hts _ (gt h_ini rfl)) (hts _ (gt h_code905 rfl)) (by omega) (by omega) (by omega) (by omega) hd ?_
        rw [imin hu.1 hv.1]
        exact next ls (vi (min u v) :: r) h rl H locs hex hL hlen hrl (List.forall_mem_cons.mpr ⟨⟨r32_min hu.1 hv.1, fun q => by cases q⟩, hr⟩) hwf hst hwd hS hn hs
      · rename_i hx0
        rw [hx0] at hok
        simp only [beq_iff_eq] at hok
        obtain ⟨hh1, hh2⟩ := hl_all oc _ (look_mem hok.2)
        obtain ⟨u, r, rfl, hex⟩ := l1_inv hex
        obtain ⟨hu, hr⟩ := List.forall_mem_cons.mp hrs
        obtain ⟨hg1, hex⟩ := gd_inv hex
        have gr2 := exec_gr _ _ _ _ _ _ _ _ hex
        have gr2a := gr2.1
        have gr2b := gr2.2
        have hcs := cat_sum (r.map (trv z0 oa))
        rw [List.length_map] at hcs
        refine va_mabs_long hx hb (by rw [hml, hL.1, hlen]) hown (hts _ (gt hh2 rfl)) (hts _ (gt h_stat906 rfl)) (hts _ (gt h_ini rfl)) (hts _ (gt h_code906 rfl)) (by omega) (by omega) (by omega) (by omega) hd ?_
        rw [labs hu.1]
        exact next ls (vl (q64 (if u < 0 then -u else u)) :: r) h rl H locs hex hL hlen hrl (List.forall_mem_cons.mpr ⟨⟨r64_q64 _, fun q => by cases q⟩, hr⟩) hwf hst hwd hS hn hs
      · rename_i hx1 hx2 hx3 hx4
        have hok2 := hok.2
        split at hok2
        · rename_i q; exact absurd q hx1
        · rename_i q; exact absurd q hx2
        · rename_i q; exact absurd q hx3
        · rename_i q; exact absurd q hx4
        · simp only [Bool.and_eq_true, Bool.or_eq_true, beq_iff_eq, decide_eq_true_eq] at hok2
          obtain ⟨⟨⟨⟨⟨hm9, hyA⟩, hlk0⟩, hyS⟩, hrtc⟩, hmx⟩ := hok2
          obtain ⟨⟨hg1, hg2⟩, hex⟩ := gd_inv hex
          have hmi : e.2.2.2.1.1 < 372 := (ml_all oc _ (look_mem hlk0)).1
          have hlk : Cond.methodLink (cN oc) idx (yN e.2.2.2.1.1) ∈ lw_tbl := (ml_all oc _ (look_mem hlk0)).2
          have hlenA : (st.take e.2.2.2.1.2.1).reverse.length = yA e.2.2.2.1.1 := by simp only [List.length_reverse, List.length_take]; omega
          split at hex
          · rename_i hr0
            obtain ⟨d2, hdd, hsp, hex⟩ := dp_inv hex
            subst hdd
            obtain ⟨h1, hcx, hex⟩ := aV_inv hex
            have hRS : ∀ x ∈ (st.take e.2.2.2.1.2.1).reverse, RS x := fun x hx9 => hrs x (List.mem_of_mem_take (List.mem_reverse.mp hx9))
            have hM := IH d2 rfl e.2.2.2.1.1 hmi n _ h h1 none hcx hsp hRS hwf hst
            have gr1 := exec_gr _ _ _ _ _ _ _ _ hcx
            have gr2 := exec_gr _ _ _ _ _ _ _ _ hex
            have gr1a := gr1.1
            have gr1b := gr1.2
            have gr2a := gr2.1
            have gr2b := gr2.2
            dsimp only at gr1a gr1b gr2a gr2b
            have hml2 : c.maxLocals = rl.size := by rw [hml, hL.1, hlen]
            have hdr : ∀ x ∈ st.drop e.2.2.2.1.2.1, RS x := fun x hx9 => hrs x (List.mem_of_mem_drop hx9)
            refine W.eq (congrArg (F0 m e.1 rl) (split_args0 (y := e.2.2.2.1.2.1) rfl)) ?_
            refine sim_call (s_runS hmi hyS hlk hlenA hmx hM hx hb hml2 hown hts hSW hwd hS (by rw [List.length_map]; exact hg1) (by omega) (by omega) (by omega) (by omega) hd) hS (fun H1 locs1 w1 w2 w3 w4 w5 => ?_)
            have := next ls (st.drop e.2.2.2.1.2.1) h1 rl H1 locs1 hex hL hlen hrl hdr w3 w4 w1 w2 (by omega) (by omega)
            rw [show h1.1.length - n0 = (h.1.length - n0) + (h1.1.length - h.1.length) by omega, show sls h1.1 - s0 = (sls h.1 - s0) + (sls h1.1 - sls h.1) by omega] at this
            exact this
          · rename_i hr0
            obtain ⟨d2, hdd, hsp, hex⟩ := dp_inv hex
            subst hdd
            obtain ⟨x, h1, hcx, hex⟩ := aI_inv hex
            have hRS : ∀ x ∈ (st.take e.2.2.2.1.2.1).reverse, RS x := fun x hx9 => hrs x (List.mem_of_mem_take (List.mem_reverse.mp hx9))
            have hM := IH d2 rfl e.2.2.2.1.1 hmi n _ h h1 (some (vi x)) hcx hsp hRS hwf hst
            have gr1 := exec_gr _ _ _ _ _ _ _ _ hcx
            have gr2 := exec_gr _ _ _ _ _ _ _ _ hex
            have gr1a := gr1.1
            have gr1b := gr1.2
            have gr2a := gr2.1
            have gr2b := gr2.2
            dsimp only at gr1a gr1b gr2a gr2b
            have hml2 : c.maxLocals = rl.size := by rw [hml, hL.1, hlen]
            have hdr : ∀ x ∈ st.drop e.2.2.2.1.2.1, RS x := fun x hx9 => hrs x (List.mem_of_mem_drop hx9)
            refine W.eq (congrArg (F0 m e.1 rl) (split_args0 (y := e.2.2.2.1.2.1) rfl)) ?_
            refine sim_call (s_runS hmi hyS hlk hlenA hmx hM hx hb hml2 hown hts hSW hwd hS (by rw [List.length_map]; exact hg1) (by omega) (by omega) (by omega) (by omega) hd) hS (fun H1 locs1 w1 w2 w3 w4 w5 => ?_)
            have := next ls (vi x :: st.drop e.2.2.2.1.2.1) h1 rl H1 locs1 hex hL hlen hrl (List.forall_mem_cons.mpr ⟨w5 _ rfl, hdr⟩) w3 w4 w1 w2 (by omega) (by omega)
            rw [show h1.1.length - n0 = (h.1.length - n0) + (h1.1.length - h.1.length) by omega, show sls h1.1 - s0 = (sls h.1 - s0) + (sls h1.1 - sls h.1) by omega] at this
            exact this
          · rename_i hr0
            obtain ⟨d2, hdd, hsp, hex⟩ := dp_inv hex
            subst hdd
            obtain ⟨x, h1, hcx, hex⟩ := aL_inv hex
            have hRS : ∀ x ∈ (st.take e.2.2.2.1.2.1).reverse, RS x := fun x hx9 => hrs x (List.mem_of_mem_take (List.mem_reverse.mp hx9))
            have hM := IH d2 rfl e.2.2.2.1.1 hmi n _ h h1 (some (vl x)) hcx hsp hRS hwf hst
            have gr1 := exec_gr _ _ _ _ _ _ _ _ hcx
            have gr2 := exec_gr _ _ _ _ _ _ _ _ hex
            have gr1a := gr1.1
            have gr1b := gr1.2
            have gr2a := gr2.1
            have gr2b := gr2.2
            dsimp only at gr1a gr1b gr2a gr2b
            have hml2 : c.maxLocals = rl.size := by rw [hml, hL.1, hlen]
            have hdr : ∀ x ∈ st.drop e.2.2.2.1.2.1, RS x := fun x hx9 => hrs x (List.mem_of_mem_drop hx9)
            refine W.eq (congrArg (F0 m e.1 rl) (split_args0 (y := e.2.2.2.1.2.1) rfl)) ?_
            refine sim_call (s_runS hmi hyS hlk hlenA hmx hM hx hb hml2 hown hts hSW hwd hS (by rw [List.length_map]; exact hg1) (by omega) (by omega) (by omega) (by omega) hd) hS (fun H1 locs1 w1 w2 w3 w4 w5 => ?_)
            have := next ls (vl x :: st.drop e.2.2.2.1.2.1) h1 rl H1 locs1 hex hL hlen hrl (List.forall_mem_cons.mpr ⟨w5 _ rfl, hdr⟩) w3 w4 w1 w2 (by omega) (by omega)
            rw [show h1.1.length - n0 = (h.1.length - n0) + (h1.1.length - h.1.length) by omega, show sls h1.1 - s0 = (sls h.1 - s0) + (sls h1.1 - sls h.1) by omega] at this
            exact this
    · rename_i heq
      rw [heq] at hok
      simp only [Bool.and_eq_true, beq_iff_eq, decide_eq_true_eq, b32] at hok
      have hd := hdec _ heq (fun q => by cases q)
      rw [hok.1.1] at hd
      obtain ⟨x, rfl, hex⟩ := e1_inv hex
      have hrv := (List.forall_mem_cons.mp hrs).1
      have key : z = (some (vi x), h) ∧ rcn rc x := by
        rw [hok.1.2] at hex
        rcases (show rc = 0 ∨ rc = 1 ∨ rc = 2 ∨ rc = 3 by omega) with k | k | k | k <;> rw [k] at hex ⊢
        · exact ⟨(Option.some.inj hex).symm, (fun q => by cases q), (fun q => by cases q), (fun q => by cases q)⟩
        · obtain ⟨g, hex⟩ := gd_inv (show @ite _ _ _ _ none = some z from hex); exact ⟨(Option.some.inj hex).symm, (fun _ => g), (fun q => by cases q), (fun q => by cases q)⟩
        · obtain ⟨g, hex⟩ := gd_inv (show @ite _ _ _ _ none = some z from hex); exact ⟨(Option.some.inj hex).symm, (fun q => by cases q), (fun _ => g), (fun q => by cases q)⟩
        · obtain ⟨g, hex⟩ := gd_inv (show @ite _ _ _ _ none = some z from hex); exact ⟨(Option.some.inj hex).symm, (fun q => by cases q), (fun q => by cases q), (fun _ => g)⟩
      obtain ⟨rfl, hrcn⟩ := key
      exact hret H locs e.1 rl hwd hS hwf hst (fun y hy => by cases hy; exact hrv) (Or.inr (Or.inl ⟨x, rfl, hok.2, hrcn, hd⟩))
    · rename_i heq
      rw [heq] at hok
      simp only [Bool.and_eq_true, beq_iff_eq, decide_eq_true_eq, b32] at hok
      have hd := hdec _ heq (fun q => by cases q)
      rw [hok.1] at hd
      obtain ⟨x, rfl, hex⟩ := e2_inv hex
      have hrv := (List.forall_mem_cons.mp hrs).1
      cases hex
      exact hret H locs e.1 rl hwd hS hwf hst (fun y hy => by cases hy; exact hrv) (Or.inr (Or.inr ⟨x, rfl, hok.2, hd⟩))
    · rename_i heq
      rw [heq] at hok
      simp only [Bool.and_eq_true, beq_iff_eq, decide_eq_true_eq, b32] at hok
      have hd := hdec _ heq (fun q => by cases q)
      rw [hok.1] at hd
      obtain ⟨rfl, hex⟩ := e0_inv hex
      cases hex
      exact hret H locs e.1 rl hwd hS hwf hst (fun y hy => by cases hy) (Or.inl ⟨rfl, hok.2, hd⟩)
    · cases hex
