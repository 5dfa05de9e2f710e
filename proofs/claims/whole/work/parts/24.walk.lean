/-! ===== the law's walk out of the small machine's run ===== -/
def lw_P (b : Addr) (xs : List Int32) (args : Array Value) (s : State) : Prop := args = #[.ref b] ∧ s.IntsAt b xs ∧ xs.length ≤ 3072 ∧ (Jvm.Cond.and given_1 narrow_1).before args s = true
def lw_Q (_ : Array Value) (s : State) (o : Outcome) (t : State) : Prop := o = .returned (some (.int 1)) ∧ Framed s o t [] 600000 7302250
def lw_Z (below : List Frame) (a : Array Value) (s : State) : State → Prop := fun t => ∃ o, t.status = .running ∧ Ended t below o ∧ lw_Q a s o t
theorem lw_ret {p : Program} {l : Launch} {e : Env} {s : State} {m : MethodId} {below : List Frame} {meth : Method} {c : Code} {b : Nat} (hx : p.tables.exec = Jvm.exec) (hb : c.code = code) (hr : meth.sig.returnType = ret) (hlocks : meth.locks = false) {pc : Nat} {H : Heap} {ls : Array Slot} (hdg : decode code pc = .ok (.ireturn, 1)) : W p l e room_1 s m #[Value.ref b] below meth c H [] 600000 7302250 (lw_Z below #[Value.ref b] s) (F0 m pc ls [.int 1]) := by
  intro T hT X
  obtain ⟨fs, hret, hrun, hended, hW, hframe⟩ := X.leave (v := some (.int 1)) (hlocks := hlocks) (fun h => by rw [hr] at h; cases h)
  have hmeth' : T.vm.method? m = some meth := X.method'
  refine ⟨T.setFrames fs, ?_, .returned (some (.int 1)), hrun, hended, rfl, ⟨_, rfl⟩, hW, hframe⟩
  jvm_step X.here [X.here.top, hx, hb, hdg, hmeth', hr, ret, narrow_b1]
  (try refine ⟨rfl, ?_⟩); (try refine ⟨rfl, ?_⟩)
  first | (intro acts; rw [hret _ acts rfl rfl rfl]) | rw [hret _ _ rfl rfl rfl]
  exact Steps.refl _
/-- the pure goal: the small machine's run of the law answers 1 -/
def LawMini : Prop := ∀ (L : Nat) (xs : Nat → Int), L ≤ 3072 → (∀ j, r32 (xs j)) → ∃ n h', exec n 1200 k_L_law 0 (ent [vr 4] 4) [] (h00 L xs) = some (some (vi 1), h') ∧ h'.1.length ≤ 6 + 600000 ∧ sls h'.1 ≤ sls (h00 L xs).1 + 7302250
theorem okV_law : ∀ e ∈ k_L_law, okV e = true := by
  have h : k_L_law.all okV = true := by decide +kernel
  exact List.all_eq_true.mp h
theorem h00_len {L : Nat} {xs : Nat → Int} : (h00 L xs).1.length = 6 := rfl
theorem whole_of (LM : LawMini) {p : Program} {e : Env} {s : State} {m : MethodId} {below : List Frame} {meth : Method} {c : Code} (l : Launch) {b L : Nat} {xs : Nat → Int32} (hL : L ≤ 3072) (C0 : lw_At p s m meth c b L xs) : W p l e room_1 s m #[Value.ref b] below meth c s.heap [] 0 0 (lw_Z below #[Value.ref b] s) (entryFrame m ([Value.ref b] : List Value).toArray 4) := by
  obtain ⟨hx, hb, hr, hml, hown, hts, hX, hbl, hlocks, hgv⟩ := C0
  obtain ⟨D, oa, ca, h4, hSW, hoa⟩ := SW_start hL hts hX hbl hgv
  have hxs : ∀ j, r32 ((fun j => (xs j).toInt) j) := fun j => by
    have h1 := Int32.le_toInt (xs j); have h2 := Int32.toInt_lt (xs j)
    show r32 (xs j).toInt
    unfold r32; omega
  obtain ⟨n, h', hex, hc1, hc2⟩ := LM L (fun j => (xs j).toInt) hL hxs
  have hl := lv_entry (([vr 4] : List MV).map (trv s.heap.size oa)) (n := 4) (by rw [spr_len]; decide)
  have hv : (([vr 4] : List MV).map (trv s.heap.size oa)) = [Value.ref b] := by
    show [va_rf (rfo s.heap.size oa 4)] = _
    unfold rfo rho
    rw [if_neg (by decide), if_pos (by decide)]
    show [va_rf (some (oa 4))] = _
    rw [h4]; rfl
  rw [hv] at hl
  rw [lg_entry_eq]
  generalize (lg_sl [Value.ref b] ++ List.replicate (4 - (lg_sl [Value.ref b]).length) Slot.unset).toArray = rl at hl ⊢
  have key := simI (p := p) (l := l) (ev := e) (R := room_1) (s := s) (m := m) (args := #[Value.ref b]) (below := below) (meth := meth) (c := c) (Q := lw_Z below #[Value.ref b] s) (D := D) (z0 := s.heap.size) (oa := oa) (ca := ca) (L := L) (xs := fun j => (xs j).toInt)
    1200 (fun d' _ => simAll l D s.heap.size oa ca L (fun j => (xs j).toInt) d') cok_law okV_law hx hb hml hown (fun w hw => hts w (List.mem_filter.mp hw).1) hSW (fun h => by cases h) (by decide) (by decide) 6 (sls (h00 L (fun j => (xs j).toInt)).1) (some (vi 1), h') hc1 hc2
    (fun H locs pc rl w1 w2 w3 w4 w5 w6 => by
      rcases w6 with ⟨q1, q2, q3⟩ | ⟨x, q1, q2, q3, q4⟩ | ⟨x, q1, q2, q3⟩
      · cases q1
      · refine W.forget (locs := []) w2.2.2 (W.widen (k := 600000) (n := 7302250) ?_ ?_ (lw_ret hx hb hr hlocks q4))
        · have hc1 := hc1; show h'.1.length - 6 ≤ _; omega
        · have hc2 := hc2; show sls h'.1 - _ ≤ _; omega
      · cases q1)
    n 0 (ent [vr 4] 4) [] (h00 L (fun j => (xs j).toInt)) rl s.heap [] hex (ent_LR (by decide) (by rw [hv]; exact hl)) rfl (ent_rv (fun x hx => by rw [List.mem_singleton.mp hx]; show (0 : Int) ≤ 4; decide)) (fun x hx => absurd hx List.not_mem_nil) (WF_start hL hxs) (STR_start L _) ⟨rfl, Nat.le_refl _, hoa, fun a a1 a2 => absurd a2 (by have : (h00 L (fun j => (xs j).toInt)).1.length = 6 := rfl; omega)⟩ va_S.rf (Nat.le_refl _) (Nat.le_refl _)
  have hp0 : pcO k_L_law 0 = 0 := by decide +kernel
  rw [Nat.sub_self, hp0] at key
  exact key
