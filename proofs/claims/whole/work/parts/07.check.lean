/-! ===== what is looked up once of each instruction of each method ===== -/
def fnd {α : Type} (T : List (List (Nat × α))) (oc idx : Nat) : Option α := (T.getD oc []).lookup idx
def pcO (code : List MI) (i : Nat) : Nat := match code[i]? with
  | some e => e.1
  | none => 0
def okT (code : List MI) (t : Nat) (tgt : Int) : Bool := decide (t < code.length) && decide (((pcO code t : Nat) : Int) = tgt)
def b32 (n : Int) : Bool := decide (-2147483648 ≤ n ∧ n < 2147483648)
def rtc (r : Option FieldType) : Nat := match r with
  | none => 0
  | some .long => 2
  | _ => 1
def rcc (r : Option FieldType) : Nat := match r with
  | none => 5
  | some .long => 4
  | some .int => 0
  | some .boolean => 1
  | some .char => 2
  | some .byte => 3
  | _ => 9
def aci (k : Nat) : Nat := if k = 3 then 2 else if k = 4 then 10 else 0
def okI (oc nL rc : Nat) (ini : Bool) (code : List MI) (e : MI) : Bool :=
  match e.2.1 with
  | .iload _ => e.2.2.1 == 2
  | .lload _ => e.2.2.1 == 2
  | .aload _ => e.2.2.1 == 2
  | .iload_n _ => e.2.2.1 == 1
  | .lload_n _ => e.2.2.1 == 1
  | .aload_n _ => e.2.2.1 == 1
  | .istore k => e.2.2.1 == 2 && decide (k < nL)
  | .astore k => e.2.2.1 == 2 && decide (k < nL)
  | .lstore k => e.2.2.1 == 2 && decide (k + 1 < nL)
  | .istore_n k => e.2.2.1 == 1 && decide (k.val < nL)
  | .astore_n k => e.2.2.1 == 1 && decide (k.val < nL)
  | .lstore_n k => e.2.2.1 == 1 && decide (k.val + 1 < nL)
  | .iconst n => e.2.2.1 == 1 && b32 n
  | .bipush n => e.2.2.1 == 2 && decide (-128 ≤ n ∧ n < 128)
  | .sipush n => e.2.2.1 == 3 && decide (-32768 ≤ n ∧ n < 32768)
  | .lconst _ => e.2.2.1 == 1
  | .ldc idx => e.2.2.1 == 2 && (match e.2.2.2.1.1 with
    | 0 => fnd klT oc idx == some (e.2.2.2.2.headD (0, 0)).1 && b32 (e.2.2.2.2.headD (0, 0)).1
    | _ => oc == 9 && idx == 29)
  | .ldc_w idx => e.2.2.1 == 3 && fnd klT oc idx == some (e.2.2.2.2.headD (0, 0)).1 && b32 (e.2.2.2.2.headD (0, 0)).1
  | .ldc2_w idx => e.2.2.1 == 3 && fnd jlT oc idx == some (e.2.2.2.2.headD (0, 0)).1 && decide (-9223372036854775808 ≤ (e.2.2.2.2.headD (0, 0)).1 ∧ (e.2.2.2.2.headD (0, 0)).1 < 9223372036854775808)
  | .iadd | .isub | .imul | .idiv | .irem | .iand | .ior | .ixor | .ishl | .ishr | .iushr | .ladd | .lsub | .lmul | .ldiv | .lrem | .lneg | .land | .lor | .lshl | .lcmp | .i2l | .l2i | .i2b | .i2s | .i2c => e.2.2.1 == 1
  | .iinc k n => e.2.2.1 == 3 && decide (k < nL) && b32 n
  | .goto off => e.2.2.1 == 3 && okT code e.2.2.2.1.1 (e.1 + off)
  | .if_icmp _ off => e.2.2.1 == 3 && okT code e.2.2.2.1.1 (e.1 + off)
  | .ifCond _ off => e.2.2.1 == 3 && okT code e.2.2.2.1.1 (e.1 + off)
  | .tableswitch d lo hi offs => okT code e.2.2.2.1.1 (e.1 + d) && decide (hi = lo + offs.size - 1) && decide (e.2.2.2.2.length = offs.size) && (List.range offs.size).all (fun j => decide ((e.2.2.2.2.getD j (0, 0)).1 = lo + j) && okT code (e.2.2.2.2.getD j (0, 0)).2 (e.1 + offs.toList.getD j 0))
  | .lookupswitch d ps => okT code e.2.2.2.1.1 (e.1 + d) && (ps.toList.zip (ps.toList.drop 1)).all (fun (a, next) => decide (a.1 < next.1)) && decide (e.2.2.2.2.length = ps.toList.length) && (List.range ps.toList.length).all (fun j => decide ((e.2.2.2.2.getD j (0, 0)).1 = (ps.toList.getD j (0, 0)).1) && okT code (e.2.2.2.2.getD j (0, 0)).2 (e.1 + (ps.toList.getD j (0, 0)).2))
  | .dup | .dup2 | .pop => e.2.2.1 == 1
  | .getfield idx => e.2.2.1 == 3 && fnd flT oc idx == some (e.2.2.2.1.1, e.2.2.2.1.2.1) && decide (ftc e.2.2.2.1.1 e.2.2.2.1.2.1 = e.2.2.2.1.2.2.1)
  | .putfield idx => e.2.2.1 == 3 && fnd flT oc idx == some (e.2.2.2.1.1, e.2.2.2.1.2.1) && decide (ftc e.2.2.2.1.1 e.2.2.2.1.2.1 = e.2.2.2.1.2.2.1) && (decide (e.2.2.2.1.2.2.1 ≠ 3) || (ini && oc == e.2.2.2.1.1))
  | .getstatic idx => e.2.2.1 == 3 && fnd stlT oc idx == some e.2.2.2.1.1 && decide (1 ≤ e.2.2.2.1.1 ∧ e.2.2.2.1.1 ≤ 3)
  | .iaload | .laload | .baload | .aaload | .iastore | .lastore | .bastore | .arraylength => e.2.2.1 == 1
  | .aastore => e.2.2.1 == 1 && decide (3 ≤ e.2.2.2.1.2.1 ∧ e.2.2.2.1.2.1 ≤ 5) && decide (e.2.2.2.1.1 = 10 + aci e.2.2.2.1.2.1)
  | .new idx => e.2.2.1 == 3 && fnd clT oc idx == some e.2.2.2.1.1 && decide (e.2.2.2.1.2.1 = nfl e.2.2.2.1.1) && decide (e.2.2.2.1.1 < 13)
  | .newarray t => e.2.2.1 == 2 && (match t with
    | .int => e.2.2.2.1.1 == 0
    | .long => e.2.2.2.1.1 == 1
    | .byte => e.2.2.2.1.1 == 2
    | _ => false)
  | .anewarray idx => e.2.2.1 == 3 && decide (3 ≤ e.2.2.2.1.1 ∧ e.2.2.2.1.1 ≤ 5) && fnd clT oc idx == some (aci e.2.2.2.1.1)
  | .invokespecial idx => e.2.2.1 == 3 && (match e.2.2.2.1.1 with
    | 901 => (olT.getD oc []).contains idx
    | mi => decide (mi < 900) && decide (e.2.2.2.1.2.1 = yA mi + 1) && (fnd mlT oc idx == some mi || fnd nlT oc idx == some mi) && decide (yR mi = none) && !(yS mi) && decide ((mtab mi).2 ≤ 20))
  | .invokevirtual idx => e.2.2.1 == 3 && (match e.2.2.2.1.1 with
    | 902 => oc == 9 && idx == 37
    | 903 => oc == 9 && idx == 31
    | mi => decide (mi < 900) && decide (e.2.2.2.1.2.1 = yA mi + 1) && fnd mlT oc idx == some mi && !(yS mi) && decide (e.2.2.2.1.2.2.2 = yO mi) && decide (yO mi < 13) && decide (e.2.2.2.1.2.2.1 = rtc (yR mi)) && decide ((mtab mi).2 ≤ 20))
  | .invokestatic idx => e.2.2.1 == 3 && (match e.2.2.2.1.1 with
    | 900 => (alT.getD oc []).contains idx
    | 904 => fnd hlT oc idx == some 904
    | 905 => fnd hlT oc idx == some 905
    | 906 => fnd hlT oc idx == some 906
    | mi => decide (mi < 900) && decide (e.2.2.2.1.2.1 = yA mi) && fnd mlT oc idx == some mi && yS mi && decide (e.2.2.2.1.2.2.1 = rtc (yR mi)) && decide ((mtab mi).2 ≤ 20))
  | .ireturn => e.2.2.1 == 1 && e.2.2.2.1.1 == rc && decide (rc < 4)
  | .lreturn => e.2.2.1 == 1 && rc == 4
  | .return_ => e.2.2.1 == 1 && rc == 5
  | _ => true
def dcI (cc : ByteArray) (e : MI) : Bool := match e.2.1 with
  | .athrow => true
  | _ => decide (decode cc e.1 = .ok (e.2.1, e.2.2.1))
def nxI (code : List MI) (i : Nat) (e : MI) : Bool := match code[i + 1]? with
  | some e' => e'.1 == e.1 + e.2.2.1
  | none => true
def mchk (cc : ByteArray) (oc nL rc : Nat) (ini : Bool) (code : List MI) : Bool := (List.range code.length).all (fun i => match code[i]? with
  | some e => okI oc nL rc ini code e && nxI code i e && dcI cc e
  | none => true)

