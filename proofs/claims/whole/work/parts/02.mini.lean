/-! ===== A SMALL MACHINE: the program's instructions over whole numbers; a heap that is a list of shapes and a function ===== -/
abbrev MV : Type := Int ⊕ (Int ⊕ (Int ⊕ Unit))
abbrev vi (x : Int) : MV := .inl x
abbrev vl (x : Int) : MV := .inr (.inl x)
abbrev vr (a : Int) : MV := .inr (.inr (.inl a))
abbrev vj : MV := .inr (.inr (.inr ()))
abbrev MSh : Type := List (Nat × Nat × List Int)
abbrev MH : Type := MSh × (Int → Int → Int)
/-- place in the code, the instruction, its length, (x, y, z, w), pairs -/
abbrev MI : Type := Nat × Instr × Nat × (Nat × Nat × Nat × Nat) × List (Int × Nat)
def q32 (z : Int) : Int := z.bmod 4294967296
def q64 (z : Int) : Int := z.bmod 18446744073709551616
def z_and (x y : Int) : Int := (Int32.ofInt x &&& Int32.ofInt y).toInt
def z_or (x y : Int) : Int := (Int32.ofInt x ||| Int32.ofInt y).toInt
def z_xor (x y : Int) : Int := (Int32.ofInt x ^^^ Int32.ofInt y).toInt
def z_shl (x y : Int) : Int := (Int32.ofInt x <<< (Int32.ofInt y &&& 31)).toInt
def z_shr (x y : Int) : Int := (Int32.ofInt x >>> (Int32.ofInt y &&& 31)).toInt
def z_ushr (x y : Int) : Int := ((Int32.ofInt x).toUInt32 >>> ((Int32.ofInt y).toUInt32 &&& Int32.toUInt32 31)).toInt32.toInt
def j_and (x y : Int) : Int := (Int64.ofInt x &&& Int64.ofInt y).toInt
def j_or (x y : Int) : Int := (Int64.ofInt x ||| Int64.ofInt y).toInt
def j_shl (x y : Int) : Int := (Int64.ofInt x <<< ((Int32.ofInt y).toInt64 &&& 63)).toInt
def j_cmp (x y : Int) : Int := if x = y then 0 else if x < y then -1 else 1
def shp (s : MSh) (a : Int) : Nat × Nat × List Int := match a with
  | .ofNat (n + 1) => s.getD n (99, 0, [])
  | _ => (99, 0, [])
def shK (s : MSh) (a : Int) : Nat := (shp s a).1
def shN (s : MSh) (a : Int) : Int := ((shp s a).2.1 : Int)
def shR (s : MSh) (a k : Int) : Int := (shp s a).2.2.getD k.toNat 0
def shSet (s : MSh) (a : Int) (k : Nat) (v : Int) : MSh := s.set (a.toNat - 1) ((shp s a).1, (shp s a).2.1, (shp s a).2.2.set k v)
def up (f : Int → Int → Int) (a j v : Int) : Int → Int → Int := fun a' j' => if a' = a ∧ j' = j then v else f a' j'
def cpy (f : Int → Int → Int) (src sp dst dp n : Int) : Int → Int → Int := fun a j => if a = dst ∧ dp ≤ j ∧ j < dp + n then f src (sp + (j - dp)) else f a j
def kil (ls : List MV) (k : Nat) : List MV := match k with
  | 0 => ls
  | k + 1 => match ls[k]? with
    | some (.inr (.inl _)) => ls.set k vj
    | _ => ls
def sl (ls : List MV) (k : Nat) (v : MV) : List MV := (kil ls k).set k v
def sl2 (ls : List MV) (k : Nat) (v : MV) : List MV := ((kil ls k).set k v).set (k + 1) vj
def rcv (args : List MV) : Int := match args with
  | .inr (.inr (.inl a)) :: _ => a
  | _ => 0
def icond (c : ClassFile.Cond) (x y : Int) : Prop := match c with
  | .eq => x = y
  | .ne => x ≠ y
  | .lt => x < y
  | .ge => y ≤ x
  | .gt => y < x
  | .le => x ≤ y
def icondD (c : ClassFile.Cond) (x y : Int) : Decidable (icond c x y) := match c with
  | .eq => inferInstanceAs (Decidable (x = y))
  | .ne => inferInstanceAs (Decidable (x ≠ y))
  | .lt => inferInstanceAs (Decidable (x < y))
  | .ge => inferInstanceAs (Decidable (y ≤ x))
  | .gt => inferInstanceAs (Decidable (y < x))
  | .le => inferInstanceAs (Decidable (x ≤ y))
section XopHelp
variable {R : Type} (bad : R)
def k1 (st : List MV) (k : Int → List MV → R) : R := match st with
  | .inl x :: r => k x r
  | _ => bad
def k2 (st : List MV) (k : Int → Int → List MV → R) : R := match st with
  | .inl y :: .inl x :: r => k x y r
  | _ => bad
def l1 (st : List MV) (k : Int → List MV → R) : R := match st with
  | .inr (.inl x) :: r => k x r
  | _ => bad
def l2 (st : List MV) (k : Int → Int → List MV → R) : R := match st with
  | .inr (.inl y) :: .inr (.inl x) :: r => k x y r
  | _ => bad
def r1 (st : List MV) (k : Int → List MV → R) : R := match st with
  | .inr (.inr (.inl a)) :: r => k a r
  | _ => bad
/-- a place on an array: index above the array -/
def ri (st : List MV) (k : Int → Int → List MV → R) : R := match st with
  | .inl j :: .inr (.inr (.inl a)) :: r => k a j r
  | _ => bad
def li (st : List MV) (k : Int → Int → List MV → R) : R := match st with
  | .inl y :: .inr (.inl x) :: r => k x y r
  | _ => bad
def rii (st : List MV) (k : Int → Int → Int → List MV → R) : R := match st with
  | .inl v :: .inl j :: .inr (.inr (.inl a)) :: r => k a j v r
  | _ => bad
def ril (st : List MV) (k : Int → Int → Int → List MV → R) : R := match st with
  | .inr (.inl v) :: .inl j :: .inr (.inr (.inl a)) :: r => k a j v r
  | _ => bad
def rir (st : List MV) (k : Int → Int → Int → List MV → R) : R := match st with
  | .inr (.inr (.inl v)) :: .inl j :: .inr (.inr (.inl a)) :: r => k a j v r
  | _ => bad
def rvI (st : List MV) (k : Int → Int → List MV → R) : R := match st with
  | .inl v :: .inr (.inr (.inl a)) :: r => k a v r
  | _ => bad
def rvL (st : List MV) (k : Int → Int → List MV → R) : R := match st with
  | .inr (.inl v) :: .inr (.inr (.inl a)) :: r => k a v r
  | _ => bad
def rvR (st : List MV) (k : Int → Int → List MV → R) : R := match st with
  | .inr (.inr (.inl v)) :: .inr (.inr (.inl a)) :: r => k a v r
  | _ => bad
def ac5 (st : List MV) (k : Int → Int → Int → Int → Int → List MV → R) : R := match st with
  | .inl n :: .inl dp :: .inr (.inr (.inl dst)) :: .inl sp :: .inr (.inr (.inl src)) :: r => k src sp dst dp n r
  | _ => bad
def gI (ls : List MV) (j : Nat) (k : Int → R) : R := match ls[j]? with
  | some (.inl x) => k x
  | _ => bad
def gL (ls : List MV) (j : Nat) (k : Int → R) : R := match ls[j]? with
  | some (.inr (.inl x)) => k x
  | _ => bad
def gR (ls : List MV) (j : Nat) (k : Int → R) : R := match ls[j]? with
  | some (.inr (.inr (.inl a))) => k a
  | _ => bad
def e1 (st : List MV) (k : Int → R) : R := match st with
  | [.inl x] => k x
  | _ => bad
def e2 (st : List MV) (k : Int → R) : R := match st with
  | [.inr (.inl x)] => k x
  | _ => bad
def e0 (st : List MV) (k : R) : R := match st with
  | [] => k
  | _ => bad
def d1 (st : List MV) (k : MV → List MV → R) : R := match st with
  | .inl x :: r => k (.inl x) r
  | .inr (.inr (.inl a)) :: r => k (.inr (.inr (.inl a))) r
  | _ => bad
def d2 (st : List MV) (k : Int → Int → List MV → R) : R := match st with
  | .inl j :: .inr (.inr (.inl a)) :: r => k a j r
  | _ => bad
def swf (br : (c : Prop) → Decidable c → R → R → R) (x : Int) (k : Nat → R) (dflt : Nat) : List (Int × Nat) → R
  | [] => k dflt
  | q :: r => br (x = q.1) (inferInstance) (k q.2) (swf br x k dflt r)
/-- one instruction: what may follow it, in whatever words 'R' has for that -/
def xop (nx : Nat → List MV → List MV → MH → R) (br : (c : Prop) → Decidable c → R → R → R) (gd : (c : Prop) → Decidable c → R → R)
    (cV : Nat → List MV → MH → (MH → R) → R) (cI cL : Nat → List MV → MH → (Int → MH → R) → R) (rt : Option MV → MH → R)
    (e : MI) (i : Nat) (ls st : List MV) (h : MH) : R :=
  match e.2.1 with
  | .iload k => gI bad ls k (fun x => nx (i + 1) ls (vi x :: st) h)
  | .iload_n k => gI bad ls k.val (fun x => nx (i + 1) ls (vi x :: st) h)
  | .lload k => gL bad ls k (fun x => nx (i + 1) ls (vl x :: st) h)
  | .lload_n k => gL bad ls k.val (fun x => nx (i + 1) ls (vl x :: st) h)
  | .aload k => gR bad ls k (fun x => nx (i + 1) ls (vr x :: st) h)
  | .aload_n k => gR bad ls k.val (fun x => nx (i + 1) ls (vr x :: st) h)
  | .istore k => k1 bad st (fun x r => nx (i + 1) (sl ls k (vi x)) r h)
  | .istore_n k => k1 bad st (fun x r => nx (i + 1) (sl ls k.val (vi x)) r h)
  | .lstore k => l1 bad st (fun x r => nx (i + 1) (sl2 ls k (vl x)) r h)
  | .lstore_n k => l1 bad st (fun x r => nx (i + 1) (sl2 ls k.val (vl x)) r h)
  | .astore k => r1 bad st (fun x r => nx (i + 1) (sl ls k (vr x)) r h)
  | .astore_n k => r1 bad st (fun x r => nx (i + 1) (sl ls k.val (vr x)) r h)
  | .iconst n => nx (i + 1) ls (vi n :: st) h
  | .bipush n => nx (i + 1) ls (vi n :: st) h
  | .sipush n => nx (i + 1) ls (vi n :: st) h
  | .lconst n => nx (i + 1) ls (vl (n.val : Int) :: st) h
  | .ldc _ => (match e.2.2.2.1.1 with
    | 0 => nx (i + 1) ls (vi (e.2.2.2.2.headD (0, 0)).1 :: st) h
    | _ => nx (i + 1) ls (vr 5 :: st) h)
  | .ldc_w _ => nx (i + 1) ls (vi (e.2.2.2.2.headD (0, 0)).1 :: st) h
  | .ldc2_w _ => nx (i + 1) ls (vl (e.2.2.2.2.headD (0, 0)).1 :: st) h
  | .iadd => k2 bad st (fun x y r => nx (i + 1) ls (vi (q32 (x + y)) :: r) h)
  | .isub => k2 bad st (fun x y r => nx (i + 1) ls (vi (q32 (x - y)) :: r) h)
  | .imul => k2 bad st (fun x y r => nx (i + 1) ls (vi (q32 (x * y)) :: r) h)
  | .idiv => k2 bad st (fun x y r => gd (y ≠ 0) inferInstance (nx (i + 1) ls (vi (q32 (x.tdiv y)) :: r) h))
  | .irem => k2 bad st (fun x y r => gd (y ≠ 0) inferInstance (nx (i + 1) ls (vi (x.tmod y) :: r) h))
  | .iand => k2 bad st (fun x y r => nx (i + 1) ls (vi (z_and x y) :: r) h)
  | .ior => k2 bad st (fun x y r => nx (i + 1) ls (vi (z_or x y) :: r) h)
  | .ixor => k2 bad st (fun x y r => nx (i + 1) ls (vi (z_xor x y) :: r) h)
  | .ishl => k2 bad st (fun x y r => nx (i + 1) ls (vi (z_shl x y) :: r) h)
  | .ishr => k2 bad st (fun x y r => nx (i + 1) ls (vi (z_shr x y) :: r) h)
  | .iushr => k2 bad st (fun x y r => nx (i + 1) ls (vi (z_ushr x y) :: r) h)
  | .ladd => l2 bad st (fun x y r => nx (i + 1) ls (vl (q64 (x + y)) :: r) h)
  | .lsub => l2 bad st (fun x y r => nx (i + 1) ls (vl (q64 (x - y)) :: r) h)
  | .lmul => l2 bad st (fun x y r => nx (i + 1) ls (vl (q64 (x * y)) :: r) h)
  | .ldiv => l2 bad st (fun x y r => gd (y ≠ 0) inferInstance (nx (i + 1) ls (vl (q64 (x.tdiv y)) :: r) h))
  | .lrem => l2 bad st (fun x y r => gd (y ≠ 0) inferInstance (nx (i + 1) ls (vl (x.tmod y) :: r) h))
  | .lneg => l1 bad st (fun x r => nx (i + 1) ls (vl (q64 (-x)) :: r) h)
  | .land => l2 bad st (fun x y r => nx (i + 1) ls (vl (j_and x y) :: r) h)
  | .lor => l2 bad st (fun x y r => nx (i + 1) ls (vl (j_or x y) :: r) h)
  | .lshl => li bad st (fun x y r => nx (i + 1) ls (vl (j_shl x y) :: r) h)
  | .lcmp => l2 bad st (fun x y r => nx (i + 1) ls (vi (j_cmp x y) :: r) h)
  | .i2l => k1 bad st (fun x r => nx (i + 1) ls (vl x :: r) h)
  | .l2i => l1 bad st (fun x r => nx (i + 1) ls (vi (q32 x) :: r) h)
  | .i2b => k1 bad st (fun x r => nx (i + 1) ls (vi (x.bmod 256) :: r) h)
  | .i2s => k1 bad st (fun x r => nx (i + 1) ls (vi (x.bmod 65536) :: r) h)
  | .i2c => k1 bad st (fun x r => gd (0 ≤ x ∧ x < 65536) inferInstance (nx (i + 1) ls (vi x :: r) h))
  | .iinc k n => gI bad ls k (fun x => nx (i + 1) (sl ls k (vi (q32 (x + n)))) st h)
  | .goto _ => nx e.2.2.2.1.1 ls st h
  | .if_icmp c _ => k2 bad st (fun x y r => br (icond c x y) (icondD c x y) (nx e.2.2.2.1.1 ls r h) (nx (i + 1) ls r h))
  | .ifCond c _ => k1 bad st (fun x r => br (icond c x 0) (icondD c x 0) (nx e.2.2.2.1.1 ls r h) (nx (i + 1) ls r h))
  | .tableswitch _ _ _ _ => k1 bad st (fun x r => swf br x (fun t => nx t ls r h) e.2.2.2.1.1 e.2.2.2.2)
  | .lookupswitch _ _ => k1 bad st (fun x r => swf br x (fun t => nx t ls r h) e.2.2.2.1.1 e.2.2.2.2)
  | .dup => d1 bad st (fun v r => nx (i + 1) ls (v :: v :: r) h)
  | .dup2 => d2 bad st (fun a j r => nx (i + 1) ls (vi j :: vr a :: vi j :: vr a :: r) h)
  | .pop => d1 bad st (fun _ r => nx (i + 1) ls r h)
  | .getfield _ => r1 bad st (fun a r => gd (shK h.1 a = 10 + e.2.2.2.1.1) inferInstance (match e.2.2.2.1.2.2.1 with
    | 1 => nx (i + 1) ls (vl (h.2 a e.2.2.2.1.2.1) :: r) h
    | 2 => nx (i + 1) ls (vr (h.2 a e.2.2.2.1.2.1) :: r) h
    | 3 => nx (i + 1) ls (vr (shR h.1 a e.2.2.2.1.2.1) :: r) h
    | _ => nx (i + 1) ls (vi (h.2 a e.2.2.2.1.2.1) :: r) h))
  | .putfield _ => (match e.2.2.2.1.2.2.1 with
    | 0 => rvI bad st (fun a v r => gd (shK h.1 a = 10 + e.2.2.2.1.1 ∧ 6 < a) inferInstance (nx (i + 1) ls r (h.1, up h.2 a e.2.2.2.1.2.1 v)))
    | 1 => rvL bad st (fun a v r => gd (shK h.1 a = 10 + e.2.2.2.1.1 ∧ 6 < a) inferInstance (nx (i + 1) ls r (h.1, up h.2 a e.2.2.2.1.2.1 v)))
    | 2 => rvR bad st (fun a v r => gd (shK h.1 a = 10 + e.2.2.2.1.1 ∧ 6 < a) inferInstance (nx (i + 1) ls r (h.1, up h.2 a e.2.2.2.1.2.1 v)))
    | 3 => rvR bad st (fun a v r => gd (shK h.1 a = 10 + e.2.2.2.1.1 ∧ 6 < a) inferInstance (nx (i + 1) ls r (shSet h.1 a e.2.2.2.1.2.1 v, h.2)))
    | _ => rvI bad st (fun a v r => gd (shK h.1 a = 10 + e.2.2.2.1.1 ∧ 6 < a ∧ (v = 0 ∨ v = 1)) inferInstance (nx (i + 1) ls r (h.1, up h.2 a e.2.2.2.1.2.1 v))))
  | .getstatic _ => (match e.2.2.2.1.1 with
    | x => nx (i + 1) ls (vr x :: st) h)
  | .iaload => ri bad st (fun a j r => gd (shK h.1 a = 0 ∧ 0 ≤ j ∧ j < shN h.1 a) inferInstance (nx (i + 1) ls (vi (h.2 a j) :: r) h))
  | .laload => ri bad st (fun a j r => gd (shK h.1 a = 1 ∧ 0 ≤ j ∧ j < shN h.1 a) inferInstance (nx (i + 1) ls (vl (h.2 a j) :: r) h))
  | .baload => ri bad st (fun a j r => gd (shK h.1 a = 2 ∧ 0 ≤ j ∧ j < shN h.1 a) inferInstance (nx (i + 1) ls (vi (h.2 a j) :: r) h))
  | .aaload => ri bad st (fun a j r => gd ((3 ≤ shK h.1 a ∧ shK h.1 a ≤ 5) ∧ 0 ≤ j ∧ j < shN h.1 a) inferInstance (nx (i + 1) ls (vr (shR h.1 a j) :: r) h))
  | .iastore => rii bad st (fun a j v r => gd (shK h.1 a = 0 ∧ 6 < a ∧ 0 ≤ j ∧ j < shN h.1 a) inferInstance (nx (i + 1) ls r (h.1, up h.2 a j v)))
  | .lastore => ril bad st (fun a j v r => gd (shK h.1 a = 1 ∧ 6 < a ∧ 0 ≤ j ∧ j < shN h.1 a) inferInstance (nx (i + 1) ls r (h.1, up h.2 a j v)))
  | .bastore => rii bad st (fun a j v r => gd (shK h.1 a = 2 ∧ 6 < a ∧ 0 ≤ j ∧ j < shN h.1 a) inferInstance (nx (i + 1) ls r (h.1, up h.2 a j (v.bmod 256))))
  | .aastore => rir bad st (fun a j v r => gd ((3 ≤ shK h.1 a ∧ shK h.1 a ≤ 5) ∧ 6 < a ∧ 6 < v ∧ shK h.1 v = e.2.2.2.1.1 ∧ shK h.1 a = e.2.2.2.1.2.1 ∧ 0 ≤ j ∧ j < shN h.1 a) inferInstance (nx (i + 1) ls r (shSet h.1 a j.toNat v, h.2)))
  | .arraylength => r1 bad st (fun a r => gd (shK h.1 a ≤ 2) inferInstance (nx (i + 1) ls (vi (shN h.1 a) :: r) h))
  | .new _ => nx (i + 1) ls (vr (h.1.length + 1 : Nat) :: st) (h.1 ++ [(10 + e.2.2.2.1.1, e.2.2.2.1.2.1, List.replicate e.2.2.2.1.2.1 0)], h.2)
  | .newarray _ => k1 bad st (fun n r => gd (0 ≤ n ∧ n < 100000) inferInstance (nx (i + 1) ls (vr (h.1.length + 1 : Nat) :: r) (h.1 ++ [(e.2.2.2.1.1, n.toNat, [])], h.2)))
  | .anewarray _ => k1 bad st (fun n r => gd (0 ≤ n ∧ n < 100000) inferInstance (nx (i + 1) ls (vr (h.1.length + 1 : Nat) :: r) (h.1 ++ [(e.2.2.2.1.1, n.toNat, List.replicate n.toNat 0)], h.2)))
  | .invokespecial _ => (match e.2.2.2.1.1 with
    | 901 => r1 bad st (fun a r => gd (0 < a ∧ r.length ≤ 4) inferInstance (nx (i + 1) ls r h))
    | mi => gd ((st.drop e.2.2.2.1.2.1).length ≤ 4 ∧ e.2.2.2.1.2.1 ≤ st.length ∧ 6 < rcv (st.take e.2.2.2.1.2.1).reverse) inferInstance (cV mi (st.take e.2.2.2.1.2.1).reverse h (fun h' => nx (i + 1) ls (st.drop e.2.2.2.1.2.1) h')))
  | .invokevirtual _ => (match e.2.2.2.1.1 with
    | 902 => ri bad st (fun a j r => gd (a = 5 ∧ 0 ≤ j ∧ j < shN h.1 6 ∧ r.length ≤ 4) inferInstance (nx (i + 1) ls (vi (h.2 6 j) :: r) h))
    | 903 => r1 bad st (fun a r => gd (a = 5 ∧ r.length ≤ 4) inferInstance (nx (i + 1) ls (vi (shN h.1 6) :: r) h))
    | mi => gd ((st.drop e.2.2.2.1.2.1).length ≤ 4 ∧ e.2.2.2.1.2.1 ≤ st.length ∧ shK h.1 (rcv (st.take e.2.2.2.1.2.1).reverse) = 10 + e.2.2.2.1.2.2.2) inferInstance (match e.2.2.2.1.2.2.1 with
    | 0 => cV mi (st.take e.2.2.2.1.2.1).reverse h (fun h' => nx (i + 1) ls (st.drop e.2.2.2.1.2.1) h')
    | 1 => cI mi (st.take e.2.2.2.1.2.1).reverse h (fun v h' => nx (i + 1) ls (vi v :: st.drop e.2.2.2.1.2.1) h')
    | _ => cL mi (st.take e.2.2.2.1.2.1).reverse h (fun v h' => nx (i + 1) ls (vl v :: st.drop e.2.2.2.1.2.1) h')))
  | .invokestatic _ => (match e.2.2.2.1.1 with
    | 900 => ac5 bad st (fun src sp dst dp n r => gd (shK h.1 src ≤ 1 ∧ shK h.1 dst = shK h.1 src ∧ 6 < dst ∧ 0 ≤ sp ∧ 0 ≤ dp ∧ 0 ≤ n ∧ sp + n ≤ shN h.1 src ∧ dp + n ≤ shN h.1 dst ∧ r.length ≤ 4) inferInstance (nx (i + 1) ls r (h.1, cpy h.2 src sp dst dp n)))
    | 904 => k2 bad st (fun x y r => gd (r.length ≤ 4) inferInstance (nx (i + 1) ls (vi (max x y) :: r) h))
    | 905 => k2 bad st (fun x y r => gd (r.length ≤ 4) inferInstance (nx (i + 1) ls (vi (min x y) :: r) h))
    | 906 => l1 bad st (fun x r => gd (r.length ≤ 4) inferInstance (nx (i + 1) ls (vl (q64 (if x < 0 then -x else x)) :: r) h))
    | mi => gd ((st.drop e.2.2.2.1.2.1).length ≤ 4 ∧ e.2.2.2.1.2.1 ≤ st.length) inferInstance (match e.2.2.2.1.2.2.1 with
      | 0 => cV mi (st.take e.2.2.2.1.2.1).reverse h (fun h' => nx (i + 1) ls (st.drop e.2.2.2.1.2.1) h')
      | 1 => cI mi (st.take e.2.2.2.1.2.1).reverse h (fun v h' => nx (i + 1) ls (vi v :: st.drop e.2.2.2.1.2.1) h')
      | _ => cL mi (st.take e.2.2.2.1.2.1).reverse h (fun v h' => nx (i + 1) ls (vl v :: st.drop e.2.2.2.1.2.1) h')))
  | .ireturn => e1 bad st (fun x => (match e.2.2.2.1.1 with
    | 0 => rt (some (vi x)) h
    | 1 => gd (x = 0 ∨ x = 1) inferInstance (rt (some (vi x)) h)
    | 2 => gd (0 ≤ x ∧ x < 65536) inferInstance (rt (some (vi x)) h)
    | _ => gd (-128 ≤ x ∧ x < 128) inferInstance (rt (some (vi x)) h)))
  | .lreturn => e2 bad st (fun x => rt (some (vl x)) h)
  | .return_ => e0 bad st (rt none h)
  | _ => bad
end XopHelp
