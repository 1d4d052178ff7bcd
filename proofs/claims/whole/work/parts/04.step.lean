/-! the step of a method, over cells by number: what each instruction makes of locals, stack and memory, and what must hold there -/
abbrev jMem : Type := Nat → Nat → Int32
abbrev jT : Type := List (Nat × Nat × List Nat)
abbrev jCfg : Type := Nat × List Value × List Value × jMem
abbrev jOut : Type := jCfg ⊕ ((Option Value × jMem) ⊕ (Nat × List Value × jCfg))
abbrev jRes : Type := Option (jOut × Prop)
def jKd (T : jT) (i : Nat) : Nat := (T.getD i (99, 0, [])).1
def jLn (T : jT) (i : Nat) : Nat := (T.getD i (99, 0, [])).2.1
def jRf (T : jT) (i k : Nat) : Nat := (T.getD i (99, 0, [])).2.2.getD k 0
def jSC (M : jMem) (i : Nat) (f : Nat → Int32) : jMem := fun c => if c = i then f else M c
def jAt : List Value → Nat → Value
  | [], _ => .null
  | v :: _, 0 => v
  | _ :: r, n + 1 => jAt r n
def jNl (ls : List Value) : Nat → Bool
  | 0 => true
  | j + 1 => match jAt ls j with
    | .long _ => false
    | .double _ => false
    | _ => true
def jSw (x : Int32) : Int → List Nat → Nat → Nat
  | _, [], d => d
  | lo, t :: r, d => if x = Int32.ofInt lo then t else jSw x (lo + 1) r d
def jgo (pc : Nat) (ls st : List Value) (M : jMem) (ob : Prop) : jRes := some (.inl (pc, ls, st, M), ob)
def jIld (pc : Nat) (ls st : List Value) (M : jMem) (i : Nat) : jRes := match jAt ls i with
  | .int x => some (.inl (pc, ls, .int x :: st, M), True)
  | _ => none
def jLld (pc : Nat) (ls st : List Value) (M : jMem) (i : Nat) : jRes := match jAt ls i with
  | .long x => some (.inl (pc, ls, .long x :: st, M), True)
  | _ => none
def jAld (pc : Nat) (ls st : List Value) (M : jMem) (i : Nat) : jRes := match jAt ls i with
  | .ref x => some (.inl (pc, ls, .ref x :: st, M), True)
  | _ => none
def jIst (pc : Nat) (ls st : List Value) (M : jMem) (i : Nat) : jRes := match st with
  | .int x :: r => bif Nat.blt i ls.length && jNl ls i then some (.inl (pc, ls.set i (.int x), r, M), True) else none
  | _ => none
def jAst (pc : Nat) (ls st : List Value) (M : jMem) (i : Nat) : jRes := match st with
  | .ref x :: r => bif Nat.blt i ls.length && jNl ls i then some (.inl (pc, ls.set i (.ref x), r, M), True) else none
  | _ => none
def jInc (pc : Nat) (ls st : List Value) (M : jMem) (i : Nat) (n : Int) : jRes := match jAt ls i with
  | .int x => bif Nat.blt i ls.length && jNl ls i then some (.inl (pc, ls.set i (.int (x + Int32.ofInt n)), st, M), True) else none
  | _ => none
def jBin (pc : Nat) (ls st : List Value) (M : jMem) (f : Int32 → Int32 → Int32) (ob : Int32 → Prop) : jRes := match st with
  | .int y :: .int x :: r => some (.inl (pc, ls, .int (f x y) :: r, M), ob y)
  | _ => none
def jC1 (c : ClassFile.Cond) (pc t : Nat) (x : Int32) : Nat := match c with
  | .eq => if x = 0 then t else pc
  | .ne => if ¬ x = 0 then t else pc
  | .lt => if x < 0 then t else pc
  | .ge => if 0 ≤ x then t else pc
  | .gt => if 0 < x then t else pc
  | .le => if x ≤ 0 then t else pc
def jC2 (c : ClassFile.Cond) (pc t : Nat) (x y : Int32) : Nat := match c with
  | .eq => if x = y then t else pc
  | .ne => if ¬ x = y then t else pc
  | .lt => if x < y then t else pc
  | .ge => if y ≤ x then t else pc
  | .gt => if y < x then t else pc
  | .le => if x ≤ y then t else pc
def jIf (pc : Nat) (ls st : List Value) (M : jMem) (c : ClassFile.Cond) (aux : List Nat) : jRes := match st, aux with
  | .int x :: r, [t] => some (.inl (jC1 c pc t x, ls, r, M), True)
  | _, _ => none
def jIc (pc : Nat) (ls st : List Value) (M : jMem) (c : ClassFile.Cond) (aux : List Nat) : jRes := match st, aux with
  | .int y :: .int x :: r, [t] => some (.inl (jC2 c pc t x y, ls, r, M), True)
  | _, _ => none
def jGoto (ls st : List Value) (M : jMem) (aux : List Nat) : jRes := match aux with
  | [t] => some (.inl (t, ls, st, M), True)
  | _ => none
def jTsw (ls st : List Value) (M : jMem) (lo : Int) (aux : List Nat) : jRes := match st, aux with
  | .int x :: r, d :: ts => some (.inl (jSw x lo ts d, ls, r, M), True)
  | _, _ => none
def jGet (T : jT) (pc : Nat) (ls st : List Value) (M : jMem) (aux : List Nat) : jRes := match st, aux with
  | .ref i :: r, [ci, k, kd, _] => bif Nat.beq kd 0 then some (.inl (pc, ls, .ref (jRf T i k) :: r, M), jKd T i = ci) else some (.inl (pc, ls, .int (M i k) :: r, M), jKd T i = ci)
  | _, _ => none
def jPut (T : jT) (pc : Nat) (ls st : List Value) (M : jMem) (aux : List Nat) : jRes := match st, aux with
  | .int v :: .ref i :: r, [ci, k, kd, _] => bif Nat.beq kd 1 then some (.inl (pc, ls, r, jSC M i (upd (M i) k v)), jKd T i = ci) else some (.inl (pc, ls, r, jSC M i (upd (M i) k v)), jKd T i = ci ∧ (v = 0 ∨ v = 1))
  | _, _ => none
def jAl (T : jT) (kd pc : Nat) (ls st : List Value) (M : jMem) : jRes := match st with
  | .int j :: .ref a :: r => some (.inl (pc, ls, .int (M a j.toNatClampNeg) :: r, M), jKd T a = kd ∧ vp_in j (jLn T a))
  | _ => none
def jAs (T : jT) (pc : Nat) (ls st : List Value) (M : jMem) : jRes := match st with
  | .int v :: .int j :: .ref a :: r => some (.inl (pc, ls, r, jSC M a (upd (M a) j.toNatClampNeg v)), jKd T a = 9 ∧ vp_in j (jLn T a))
  | _ => none
def jZs (T : jT) (pc : Nat) (ls st : List Value) (M : jMem) : jRes := match st with
  | .int v :: .int j :: .ref a :: r => some (.inl (pc, ls, r, jSC M a (upd (M a) j.toNatClampNeg v)), jKd T a = 10 ∧ vp_in j (jLn T a) ∧ (v = 0 ∨ v = 1))
  | _ => none
def jLen (T : jT) (pc : Nat) (ls st : List Value) (M : jMem) : jRes := match st with
  | .ref a :: r => some (.inl (pc, ls, .int (Int32.ofNat (jLn T a)) :: r, M), jKd T a = 9)
  | _ => none
def jCpy (T : jT) (pc : Nat) (ls st : List Value) (M : jMem) : jRes := match st with
  | .int n :: .int dp :: .ref b :: .int sp :: .ref a :: r => bif Nat.ble r.length 4 then some (.inl (pc, ls, r, jSC M b (va_cpy (M a) (M b) sp.toNatClampNeg dp.toNatClampNeg n.toNatClampNeg)), jKd T a = 9 ∧ jKd T b = 9 ∧ ¬ sp < 0 ∧ ¬ dp < 0 ∧ ¬ n < 0 ∧ sp.toNatClampNeg + n.toNatClampNeg ≤ jLn T a ∧ dp.toNatClampNeg + n.toNatClampNeg ≤ jLn T b) else none
  | _ => none
def jMin (pc : Nat) (ls st : List Value) (M : jMem) : jRes := match st with
  | .int y :: .int x :: r => bif Nat.ble r.length 4 then some (.inl (pc, ls, .int (if y < x then y else x) :: r, M), True) else none
  | _ => none
def jInv (T : jT) (pc : Nat) (ls st : List Value) (M : jMem) (f n oc : Nat) : jRes := match st.drop n with
  | .ref i :: r => bif Nat.ble r.length 4 && Nat.beq (st.take n).length n then some (.inr (.inr (f, .ref i :: (st.take n).reverse, (pc, ls, r, M))), jKd T i = oc) else none
  | _ => none
def jIns (pc : Nat) (ls st : List Value) (M : jMem) (f n : Nat) : jRes :=
  bif Nat.ble (st.drop n).length 4 && Nat.beq (st.take n).length n then some (.inr (.inr (f, (st.take n).reverse, (pc, ls, st.drop n, M))), True) else none
def jIre (st : List Value) (M : jMem) (aux : List Nat) : jRes := match st, aux with
  | [.int v], [k] => bif Nat.beq k 0 then some (.inr (.inl (some (.int v), M)), True) else some (.inr (.inl (some (.int v), M)), v = 0 ∨ v = 1)
  | _, _ => none
def jAre (st : List Value) (M : jMem) : jRes := match st with
  | [.ref i] => some (.inr (.inl (some (.ref i), M)), True)
  | _ => none
def jVre (st : List Value) (M : jMem) : jRes := match st with
  | [] => some (.inr (.inl (none, M)), True)
  | _ => none
def jDup (pc : Nat) (ls st : List Value) (M : jMem) : jRes := match st with
  | .int x :: r => some (.inl (pc, ls, .int x :: .int x :: r, M), True)
  | .ref x :: r => some (.inl (pc, ls, .ref x :: .ref x :: r, M), True)
  | _ => none
def jDx1 (pc : Nat) (ls st : List Value) (M : jMem) : jRes := match st with
  | .int x :: .ref y :: r => some (.inl (pc, ls, .int x :: .ref y :: .int x :: r, M), True)
  | _ => none
def jDu2 (pc : Nat) (ls st : List Value) (M : jMem) : jRes := match st with
  | .int x :: .ref y :: r => some (.inl (pc, ls, .int x :: .ref y :: .int x :: .ref y :: r, M), True)
  | _ => none
def jNeg (pc : Nat) (ls st : List Value) (M : jMem) : jRes := match st with
  | .int x :: r => some (.inl (pc, ls, .int (-x) :: r, M), True)
  | _ => none
def jI2l (pc : Nat) (ls st : List Value) (M : jMem) : jRes := match st with
  | .int x :: r => some (.inl (pc, ls, .long x.toInt64 :: r, M), True)
  | _ => none
def jLcm (pc : Nat) (ls st : List Value) (M : jMem) : jRes := match st with
  | .long y :: .long x :: r => some (.inl (pc, ls, .int (lg_cmp x y) :: r, M), True)
  | _ => none
def jLdc (pc : Nat) (ls st : List Value) (M : jMem) (aux : List Nat) : jRes := match aux with
  | [n, _] => some (.inl (pc, ls, .int (Int32.ofNat n) :: st, M), True)
  | _ => none
def jLd2 (pc : Nat) (ls st : List Value) (M : jMem) (aux : List Nat) : jRes := match aux with
  | [n, _] => some (.inl (pc, ls, .long (Int64.ofNat n) :: st, M), True)
  | _ => none
def jVirt (T : jT) (pc : Nat) (ls st : List Value) (M : jMem) (aux : List Nat) : jRes := match aux with
  | [f, n, _, oc, _] => jInv T pc ls st M f n oc
  | _ => none
def jStat (T : jT) (pc : Nat) (ls st : List Value) (M : jMem) (aux : List Nat) : jRes := match aux with
  | [_] => jCpy T pc ls st M
  | [_, _] => jMin pc ls st M
  | [f, n, _, _, _] => jIns pc ls st M f n
  | _ => none
def jSem (T : jT) (pc : Nat) (ls st : List Value) (M : jMem) (e : jE) : jRes := match e.1 with
  | .iconst n => jgo (pc + 1) ls (.int (Int32.ofInt n) :: st) M True
  | .bipush n => jgo (pc + 2) ls (.int (Int8.ofInt n).toInt32 :: st) M True
  | .sipush n => jgo (pc + 3) ls (.int (Int16.ofInt n).toInt32 :: st) M True
  | .lconst n => jgo (pc + 1) ls (.long (Int64.ofNat (n : Nat)) :: st) M True
  | .ldc _ => jLdc (pc + 2) ls st M e.2.2
  | .ldc_w _ => jLdc (pc + 3) ls st M e.2.2
  | .ldc2_w _ => jLd2 (pc + 3) ls st M e.2.2
  | .iload_n k => jIld (pc + 1) ls st M k
  | .iload i => jIld (pc + 2) ls st M i
  | .lload_n k => jLld (pc + 1) ls st M k
  | .lload i => jLld (pc + 2) ls st M i
  | .aload_n k => jAld (pc + 1) ls st M k
  | .aload i => jAld (pc + 2) ls st M i
  | .istore_n k => jIst (pc + 1) ls st M k
  | .istore i => jIst (pc + 2) ls st M i
  | .astore_n k => jAst (pc + 1) ls st M k
  | .astore i => jAst (pc + 2) ls st M i
  | .iinc i n => jInc (pc + 3) ls st M i n
  | .iadd => jBin (pc + 1) ls st M (fun x y => x + y) (fun _ => True)
  | .isub => jBin (pc + 1) ls st M (fun x y => x - y) (fun _ => True)
  | .imul => jBin (pc + 1) ls st M (fun x y => x * y) (fun _ => True)
  | .iand => jBin (pc + 1) ls st M (fun x y => x &&& y) (fun _ => True)
  | .ior => jBin (pc + 1) ls st M (fun x y => x ||| y) (fun _ => True)
  | .ixor => jBin (pc + 1) ls st M (fun x y => x ^^^ y) (fun _ => True)
  | .ishl => jBin (pc + 1) ls st M (fun x y => x <<< (y &&& 31)) (fun _ => True)
  | .ishr => jBin (pc + 1) ls st M (fun x y => x >>> (y &&& 31)) (fun _ => True)
  | .iushr => jBin (pc + 1) ls st M (fun x y => (x.toUInt32 >>> (y.toUInt32 &&& Int32.toUInt32 31)).toInt32) (fun _ => True)
  | .idiv => jBin (pc + 1) ls st M (fun x y => x / y) (fun y => ¬ y = 0)
  | .irem => jBin (pc + 1) ls st M (fun x y => x - x / y * y) (fun y => ¬ y = 0)
  | .ineg => jNeg (pc + 1) ls st M
  | .i2l => jI2l (pc + 1) ls st M
  | .lcmp => jLcm (pc + 1) ls st M
  | .dup => jDup (pc + 1) ls st M
  | .dup_x1 => jDx1 (pc + 1) ls st M
  | .dup2 => jDu2 (pc + 1) ls st M
  | .ifCond c _ => jIf (pc + 3) ls st M c e.2.2
  | .if_icmp c _ => jIc (pc + 3) ls st M c e.2.2
  | .goto _ => jGoto ls st M e.2.2
  | .tableswitch _ lo _ _ => jTsw ls st M lo e.2.2
  | .getfield _ => jGet T (pc + 3) ls st M e.2.2
  | .putfield _ => jPut T (pc + 3) ls st M e.2.2
  | .iaload => jAl T 9 (pc + 1) ls st M
  | .baload => jAl T 10 (pc + 1) ls st M
  | .iastore => jAs T (pc + 1) ls st M
  | .bastore => jZs T (pc + 1) ls st M
  | .arraylength => jLen T (pc + 1) ls st M
  | .invokevirtual _ => jVirt T (pc + 3) ls st M e.2.2
  | .invokestatic _ => jStat T (pc + 3) ls st M e.2.2
  | .ireturn => jIre st M e.2.2
  | .areturn => jAre st M
  | .return_ => jVre st M
  | _ => none
def jStp (T : jT) (k : Nat → Option jE) (c : jCfg) : jRes := match k c.1 with
  | some e => jSem T c.1 c.2.1 c.2.2.1 c.2.2.2 e
  | none => none
def jStps (T : jT) (k : Nat → Option jE) : Nat → jCfg → jRes
  | 0, c => some (.inl c, True)
  | n + 1, c => match jStp T k c with
    | some (.inl c', ob) => match jStps T k n c' with
      | some (o, ob') => some (o, ob ∧ ob')
      | none => none
    | r => r
