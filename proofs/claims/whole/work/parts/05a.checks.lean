def jFks : List (List Nat) := [[0, 0, 2], [0, 0, 1, 1], [0, 0, 0, 1], [0, 0, 0, 0, 0, 0, 0, 0, 1, 1, 1, 1, 1, 1], [0, 0, 0, 0, 1], [0, 1, 1, 1], [0, 1, 1, 1, 1, 1], [0, 0, 0, 0, 0, 0, 0, 0, 0, 0, 1, 1], [1, 0, 1, 1, 1, 1, 1, 1, 1, 0, 0, 0, 1, 0, 1, 0, 1, 0, 1, 0, 1, 0, 0, 0, 0, 0, 0, 1, 1, 0, 1, 1, 0]]
def jFk (ci k : Nat) : Nat := (jFks.getD ci []).getD k 9
def jNf (ci : Nat) : Nat := (jFks.getD ci []).length
def jSz (i : Instr) (n : Nat) : Nat := match i with
  | .bipush _ => 2
  | .sipush _ => 3
  | .ldc _ => 2
  | .ldc_w _ => 3
  | .ldc2_w _ => 3
  | .iload _ => 2
  | .lload _ => 2
  | .aload _ => 2
  | .istore _ => 2
  | .astore _ => 2
  | .iinc _ _ => 3
  | .ifCond _ _ => 3
  | .if_icmp _ _ => 3
  | .goto _ => 3
  | .tableswitch _ _ _ _ => n
  | .getfield _ => 3
  | .putfield _ => 3
  | .invokevirtual _ => 3
  | .invokestatic _ => 3
  | _ => 1
def jFl (mi idx ci k kd pl : Nat) : Bool := match vwCl[ci]? with
  | some q => decide (k < q.2.2) && (decide (lw_tbl[pl]? = some (.fieldLink (jM mi).1.cls idx (q.2.1 k).1 (q.2.1 k).2.1 (q.2.1 k).2.2.1)) && (decide (jFk ci k = kd) && (decide (jNf ci = q.2.2) && decide (ci < 9))))
  | none => false
def jFp (ci k kd : Nat) : Bool := match vwCl[ci]? with
  | some q => decide ((q.2.1 k).2.2.2 = false) && (match kd with
    | 1 => decide (parseFieldDescriptor (q.2.1 k).2.2.1 = some .int)
    | 2 => decide (parseFieldDescriptor (q.2.1 k).2.2.1 = some .boolean)
    | _ => false)
  | none => false
def jAux (mi pc : Nat) (e : jE) : Bool := match e.1 with
  | .getfield idx => (match e.2.2 with
    | [ci, k, kd, pl] => jFl mi idx ci k kd pl
    | _ => true)
  | .putfield idx => (match e.2.2 with
    | [ci, k, kd, pl] => jFl mi idx ci k kd pl && jFp ci k kd
    | _ => true)
  | .ldc idx => (match e.2.2 with
    | [n, pl] => decide (lw_tbl[pl]? = some (.constant (jM mi).1.cls idx (Int32.ofNat n)))
    | _ => true)
  | .ldc_w idx => (match e.2.2 with
    | [n, pl] => decide (lw_tbl[pl]? = some (.constant (jM mi).1.cls idx (Int32.ofNat n)))
    | _ => true)
  | .ldc2_w idx => (match e.2.2 with
    | [n, pl] => decide (lw_tbl[pl]? = some (.constantLong (jM mi).1.cls idx (Int64.ofNat n)))
    | _ => true)
  | .invokevirtual idx => (match e.2.2 with
    | [f, n, _, oc, pl] => decide (lw_tbl[pl]? = some (.methodLink (jM mi).1.cls idx (jM f).1)) && (decide ((jM f).2.2.2.2.1 = oc) && (decide ((jM f).2.2.2.2.2.1 = n) && (decide ((jM f).2.2.2.2.2.2.1 = 0) && decide (f < jTab.length))))
    | _ => true)
  | .invokestatic idx => (match e.2.2 with
    | [pl] => decide (lw_tbl[pl]? = some (.methodLink (jM mi).1.cls idx arraycopyName))
    | [pl, _] => decide (lw_tbl[pl]? = some (.methodLink (jM mi).1.cls idx Lib.Math.min.name))
    | [f, n, _, _, pl] => decide (lw_tbl[pl]? = some (.methodLink (jM mi).1.cls idx (jM f).1)) && (decide ((jM f).2.2.2.2.2.1 = n) && (decide ((jM f).2.2.2.2.2.2.1 = 1) && decide (f < jTab.length)))
    | _ => true)
  | .ireturn => (match e.2.2 with
    | [0] => decide ((jM mi).2.2.2.1 = some .int)
    | [_] => decide ((jM mi).2.2.2.1 = some .boolean)
    | _ => true)
  | .areturn => (match (jM mi).2.2.2.1 with
    | some (.object _) => true
    | _ => false)
  | .return_ => decide ((jM mi).2.2.2.1 = none)
  | .ifCond _ off => (match e.2.2 with
    | [t] => decide ((pc : Int) + off = (t : Int))
    | _ => true)
  | .if_icmp _ off => (match e.2.2 with
    | [t] => decide ((pc : Int) + off = (t : Int))
    | _ => true)
  | .goto off => (match e.2.2 with
    | [t] => decide ((pc : Int) + off = (t : Int))
    | _ => true)
  | .tableswitch df lo hi offs => (match e.2.2 with
    | d :: ts => decide ((pc : Int) + df = (d : Int)) && (decide (offs.toList.map (fun o => (pc : Int) + o) = ts.map (fun t : Nat => (t : Int))) && (decide (0 ≤ lo) && (decide (lo + ts.length ≤ 1000) && decide (hi + 1 = lo + ts.length))))
    | _ => true)
  | _ => true
def jOkE (mi pc : Nat) (e : jE) : Bool := decide (decode (jM mi).2.1 pc = .ok (e.1, jSz e.1 e.2.1)) && jAux mi pc e
theorem jck_use {k : Nat → Option jE} {mi n : Nat} (h1 : (List.range n).all (fun pc => (k pc).all (jOkE mi pc)) = true) (h2 : ∀ pc, Nat.ble n pc = true → k pc = none) : ∀ pc e, k pc = some e → jOkE mi pc e = true := by
  intro pc e h
  by_cases hn : pc < n
  · have h3 := List.all_eq_true.mp h1 pc (List.mem_range.mpr hn)
    rw [h] at h3
    exact h3
  · rw [h2 pc (Nat.ble_eq.mpr (Nat.not_lt.mp hn))] at h
    cases h
