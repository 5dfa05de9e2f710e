/-! ===== the law's entry: the small machine's first heap stands beside the machine's ===== -/
def lw_At (p : Program) (s : State) (m : MethodId) (meth : Method) (c : Code) (b L : Nat) (xs : Nat → Int32) : Prop :=
  p.tables.exec = Jvm.exec ∧ c.code = code ∧ meth.sig.returnType = ret ∧ c.maxLocals = 4 ∧ s.vm.findClass R_law = some m.cls ∧ (∀ w ∈ lw_tbl, w.before #[Value.ref b] s = true) ∧ va_X b L xs s s.heap ∧ b < s.heap.size ∧ meth.locks = false ∧ (Jvm.Cond.and given_1 narrow_1).before #[Value.ref b] s = true
theorem K_start {A : Array Value} {s : State} (hts : ∀ w ∈ lw_tbl, w.before A s = true) : ∃ (D : va_G) (ca : Nat → ClassId), va_K D mcl (tysE ca) s := by
  have h0 : ∀ ci : Nat, ∃ q : ClassId × (Nat → Nat), ∀ r, mcl[ci]? = some r → u_Kn s r.1 r.2.1 r.2.2 q.1 q.2 := by
    intro ci
    cases hc : mcl[ci]? with
    | none => exact ⟨(0, fun _ => 0), fun r h => by cases h⟩
    | some r =>
      have : ∃ n, Cond.instantiable r.1 n ∈ lw_tbl := mcl_all (P := fun _ r => ∃ n, Cond.instantiable r.1 n ∈ lw_tbl) ⟨_, ins_0⟩ ⟨_, ins_1⟩ ⟨_, ins_2⟩ ⟨_, ins_3⟩ ⟨_, ins_4⟩ ⟨_, ins_5⟩ ⟨_, ins_6⟩ ⟨_, ins_7⟩ ⟨_, ins_8⟩ ⟨_, ins_9⟩ ⟨_, ins_10⟩ ⟨_, ins_11⟩ ⟨_, ins_12⟩ hc
      obtain ⟨n, hn⟩ := this
      obtain ⟨cC, iS, hK⟩ := u_known hts (mcl_in hc) (hts _ hn)
      exact ⟨(cC, iS), fun r' h => by cases h; exact hK⟩
  obtain ⟨q, hq⟩ := Classical.axiomOfChoice h0
  obtain ⟨c0, k0, p0, a1, a2, a3⟩ := Cond.arrayClass_spec (hts _ arr_int)
  obtain ⟨c1, k1, p1, b1, b2, b3⟩ := Cond.arrayClass_spec (hts _ arr_long)
  obtain ⟨c2, k2, p2, d1, d2, d3⟩ := Cond.arrayClass_spec (hts _ arr_byte)
  obtain ⟨p3, c3, k3, e1, e2, e3, e4, e5⟩ := Cond.arrayOver_spec (hts _ (arr_over 3 (by decide)))
  obtain ⟨p4, c4, k4, f1, f2, f3, f4, f5⟩ := Cond.arrayOver_spec (hts _ (arr_over 4 (by decide)))
  obtain ⟨p5, c5, k5, g1, g2, g3, g4, g5⟩ := Cond.arrayOver_spec (hts _ (arr_over 5 (by decide)))
  refine ⟨(fun ci => (q ci).1, fun ci => (q ci).2), fun k => [c0, c1, c2, c3, c4, c5].getD k 0, fun ci r h => hq ci r h, fun k r h => ?_⟩
  match k, h with
  | 0, h => cases h; exact ⟨fun n z => ⟨fun k h => (by cases h), k0, a2, p0, a3⟩, a1⟩
  | 1, h => cases h; exact ⟨fun n z => ⟨fun k h => (by cases h), k1, b2, p1, b3⟩, b1⟩
  | 2, h => cases h; exact ⟨fun n z => ⟨fun k h => (by cases h), k2, d2, p2, d3⟩, d1⟩
  | 3, h => cases h; exact ⟨fun n z => ⟨fun k h => (by cases h), k3, e3, p3, e4⟩, k3, p3, e3, e4, e1, e5⟩
  | 4, h => cases h; exact ⟨fun n z => ⟨fun k h => (by cases h), k4, f3, p4, f4⟩, k4, p4, f3, f4, f1, f5⟩
  | 5, h => cases h; exact ⟨fun n z => ⟨fun k h => (by cases h), k5, g3, p5, g4⟩, k5, p5, g3, g4, g1, g5⟩
  | n + 6, h => cases h
theorem SW_start {b L : Nat} {xs : Nat → Int32} {s : State} (hL : L ≤ 3072) (hts : ∀ w ∈ lw_tbl, w.before #[Value.ref b] s = true) (hX : va_X b L xs s s.heap) (hbl : b < s.heap.size) (hgv : (Jvm.Cond.and given_1 narrow_1).before #[Value.ref b] s = true) :
    ∃ (D : va_G) (oa : Nat → Nat) (ca : Nat → ClassId), oa 4 = b ∧ SW D s.heap.size oa ca L (fun j => (xs j).toInt) s ∧ ∀ k, k ≤ 6 → oa k < s.heap.size := by
  obtain ⟨D, ca, hK⟩ := K_start hts
  have hs : ∀ w ∈ NB, w.before #[Value.ref b] s = true := flat_of_before _ hgv
  have hA : ∀ a : Nat, a < s.heap.size → ¬ (s.heap.size ≤ a) := fun a h => by omega
  have hst : ∀ k : Nat, ∃ t : Nat, k < 3 → (tmS (k + 1)).eval #[Value.ref b] s none [] s = some (.ref t) ∧ va_T .int t 4 (fun j => .int (Int32.ofInt ((LWL.getD k []).getD j 0))) (fun q => s.heap.size ≤ q) s s.heap := by
    intro k
    by_cases hk : k < 3
    · obtain ⟨t, h1, h2⟩ := va_Tof (args := #[Value.ref b]) (s := s) (tm := tmS (k + 1)) (ty := .int) (N := 4) (f := fun j => .int (Int32.ofInt ((LWL.getD k []).getD j 0))) (A := fun q => s.heap.size ≤ q) (by decide) (hs _ (List.mem_of_getElem? (nb_arr (k + 1) (by omega) (by omega)))) (va_eqt (hs _ (List.mem_of_getElem? (nb_len (k + 1) (by omega) (by omega))))) (fun j hj => va_eqt (hs _ (List.mem_of_getElem? (nb_el k hk j hj)))) hA
      exact ⟨t, fun _ => ⟨h1, h2⟩⟩
    · exact ⟨0, fun h => absurd h hk⟩
  obtain ⟨tt, htt⟩ := Classical.axiomOfChoice hst
  obtain ⟨adK, adV, hS, hev⟩ := vk_Sof (args := #[Value.ref b]) (s := s) (N := 1) (tm := fun _ => tmT) (len := [183]) (byt := [KWB]) (A := fun q => s.heap.size ≤ q)
    (fun i hi => by rcases (show i = 0 by omega) with rfl; decide) (fun i hi => hs _ (List.mem_of_getElem? nb_ex)) (fun i hi => hs _ (List.mem_of_getElem? nb_co)) (fun i hi => hs _ (List.mem_of_getElem? nb_va))
    (fun i hi => by rcases (show i = 0 by omega) with rfl; exact hs _ (List.mem_of_getElem? nb_vl)) (fun i hi j hj => by rcases (show i = 0 by omega) with rfl; exact hs _ (List.mem_of_getElem? (nb_ve j hj))) (fun i j hi hj h => absurd (show i = j by omega) h) hA
  have hTb : va_T .int b L (fun j => .int (Int32.ofInt (oldV (fun j => (xs j).toInt) 4 j))) (fun q => s.heap.size ≤ q) s s.heap := by
    obtain ⟨scr, x1, x2, x3, x4, x5⟩ := hX
    refine ⟨scr, x1, x2, x3, by omega, by rw [x4], fun j hj => ?_, by omega⟩
    rw [x5 j hj]
    show some (Value.int (xs j)) = some (Value.int (Int32.ofInt (xs j).toInt))
    rw [Int32.ofInt_toInt]
  refine ⟨D, fun k => if k = 4 then b else if k = 5 then adK 0 else if k = 6 then adV 0 else if k = 0 then b else tt (k - 1), ca, rfl, ⟨fun a a1 a2 => ?_, hK, fun k k1 k2 => ?_, fun w hw => va_Nw.of (nst_tab w hw) (hts w (nst_in w hw)), fun k k1 k2 => va_AO.of (hts _ (arr_over k (by omega))), ?_⟩, fun k hk => ?_⟩
  · rcases (show a = 1 ∨ a = 2 ∨ a = 3 ∨ a = 4 by omega) with rfl | rfl | rfl | rfl
    · exact (htt 0 (by decide)).2
    · exact (htt 1 (by decide)).2
    · exact (htt 2 (by decide)).2
    · exact hTb
  · rcases (show k = 1 ∨ k = 2 ∨ k = 3 by omega) with rfl | rfl | rfl
    · exact va_Zof (hts _ ls_1) (hts _ ini_ec) (htt 0 (by decide)).1 hA
    · exact va_Zof (hts _ ls_2) (hts _ ini_ec) (htt 1 (by decide)).1 hA
    · exact va_Zof (hts _ ls_3) (hts _ ini_ec) (htt 2 (by decide)).1 hA
  · refine ⟨vk_R.of (hts _ ls_sr) (hev 0 (by decide)), ?_, va_Zof (hts _ ls_cs) (hts _ sini_s) (va_eqt (hs _ (List.mem_of_getElem? nb_cs))) hA, va_Zqof (hts _ ls_fm) (hts _ sini_p) (hs _ (List.mem_of_getElem? nb_fm)) hA⟩
    refine ⟨fun i hi => ?_, fun i j hi hj _ => by omega⟩
    rcases (show i = 0 by omega) with rfl
    exact hS.1 0 (by decide)
  · have hT : ∀ {ty : FieldType} {t N : Nat} {f : Nat → Value}, va_T ty t N f (fun q => s.heap.size ≤ q) s s.heap → t < s.heap.size := by
      rintro ty t N f ⟨cell, x1, -⟩
      exact (Array.getElem?_eq_some_iff.mp x1).1
    have hO := (hS.1 0 (by decide)).1
    obtain ⟨cell, x1, -⟩ := hO
    rcases (show k = 0 ∨ k = 1 ∨ k = 2 ∨ k = 3 ∨ k = 4 ∨ k = 5 ∨ k = 6 by omega) with rfl | rfl | rfl | rfl | rfl | rfl | rfl
    · exact hbl
    · exact hT (htt 0 (by decide)).2
    · exact hT (htt 1 (by decide)).2
    · exact hT (htt 2 (by decide)).2
    · exact hbl
    · exact (Array.getElem?_eq_some_iff.mp x1).1
    · exact hT (hS.1 0 (by decide)).2.2.2
