theorem w_X1_size {X : jX} {T : jT} {d : Nat} (hI : jInj X T) (a0 : Nat) (M : jMem) (Q : Option Value → jMem → Prop) (h : jKd T a0 = 1 ∧ jKd T (jRf T a0 0) = 3 ∧ jKd T (jRf T a0 1) = 9 ∧ vp_in (M (jRf T a0 0) 8) (jLn T (jRf T a0 1)) ∧ Q (some (.int (M (jRf T a0 1) (M (jRf T a0 0) 8).toNatClampNeg))) M) : jOk X T d q_X1_size [.ref a0] M Q := by
  refine jOk.intro (ml := 1) (ls := [.ref a0]) (jTl (by decide)) rfl (Nat.le_of_ble_eq_true rfl) rfl hI ?_
  obtain ⟨o1, o2, o3, o4, h⟩ := h
  exact jRun.ret (k := jk_X1_size) rfl 7 (v := some (.int (M (jRf T a0 1) (M (jRf T a0 0) 8).toNatClampNeg))) (M1 := M) (ob := True ∧ jKd T a0 = 1 ∧ True ∧ jKd T a0 = 1 ∧ jKd T (jRf T a0 0) = 3 ∧ (jKd T (jRf T a0 1) = 9 ∧ vp_in (M (jRf T a0 0) 8) (jLn T (jRf T a0 1))) ∧ True) rfl ⟨trivial, o1, trivial, o1, o2, ⟨o3, o4⟩, trivial⟩ h
theorem w_X1_growFrom {X : jX} {T : jT} {d : Nat} (hI : jInj X T) (a0 : Nat) (a1 : Nat) (a2 : Int32) (M : jMem) (Q : Option Value → jMem → Prop) (h : jKd T a0 = 1 ∧ jOk X T d q_X1_lay [.ref a0, .ref a1, .int a2] M (fun v M1 => v = none ∧ (∀ M2, M2 = jP M1 a0 3 0 → jRun X T (d + 1) q_X1_growFrom (13, [.ref a0, .ref a1, .int a2, .int 0, .null], [], M2) Q))) : jOk X T (d + 1) q_X1_growFrom [.ref a0, .ref a1, .int a2] M Q := by
  refine jOk.intro (ml := 5) (ls := [.ref a0, .ref a1, .int a2, .null, .null]) (jTl (by decide)) rfl (Nat.le_of_ble_eq_true rfl) rfl hI ?_
  obtain ⟨o1, h⟩ := h
  refine jRun.call (k := jk_X1_growFrom) rfl 4 (f := q_X1_lay) (As := [.ref a0, .ref a1, .int a2]) (c1 := (6, [.ref a0, .ref a1, .int a2, .null, .null], [], M)) (ob := True ∧ True ∧ True ∧ jKd T a0 = 1) rfl ⟨trivial, trivial, trivial, o1⟩ h (fun v M1 h => ?_)
  obtain ⟨rfl, h⟩ := h
  show jRun X T (d + 1) q_X1_growFrom (6, [.ref a0, .ref a1, .int a2, .null, .null], [], M1) Q
  refine jRun.cut (k := jk_X1_growFrom) rfl 3 (c' := (11, [.ref a0, .ref a1, .int a2, .null, .null], [], (jP M1 a0 3 0))) (ob := True ∧ True ∧ jKd T a0 = 1 ∧ True) rfl ⟨trivial, trivial, o1, trivial⟩ ?_
  refine jRun.nm (fun M2 eM2 => ?_)
  have h := h M2 eM2
  refine jRun.cut (k := jk_X1_growFrom) rfl 2 (c' := (13, [.ref a0, .ref a1, .int a2, .int 0, .null], [], M2)) (ob := True ∧ True ∧ True) rfl ⟨trivial, trivial, trivial⟩ ?_
  exact h
theorem w_X1_growFrom_13 {X : jX} {T : jT} {d : Nat} (a0 : Nat) (a1 : Nat) (a2 : Int32) (a3 : Int32) (M : jMem) (Q : Option Value → jMem → Prop) (h : ((10 ≤ a3 → Q none M) ∧ (¬ 10 ≤ a3 → jKd T a0 = 1 ∧ jOk X T d q_X1_strandedJumps [.ref a0, .ref a1] M (fun v M1 => ∃ r1, v = some (.int r1) ∧ ((¬ r1 = 0 → (∀ M2, M2 = jP M1 a0 3 ((M1 a0 3) + 1) → jOk X T d q_X1_lay [.ref a0, .ref a1, .int ((M2 a0 2) ||| r1)] M2 (fun v M3 => v = none ∧ jRun X T (d + 1) q_X1_growFrom (13, [.ref a0, .ref a1, .int a2, .int (a3 + 1), .null], [], M3) Q))) ∧ (r1 = 0 → Q none M1)))))) : jRun X T (d + 1) q_X1_growFrom (13, [.ref a0, .ref a1, .int a2, .int a3, .null], [], M) Q := by
  refine jRun.cut (k := jk_X1_growFrom) rfl 3 (c' := (if 10 ≤ a3 then 60 else 19, [.ref a0, .ref a1, .int a2, .int a3, .null], [], M)) (ob := True ∧ True ∧ True ∧ True) rfl ⟨trivial, trivial, trivial, trivial⟩ ?_
  refine jRun.br (fun g => ?_) (fun g => ?_)
  · have h := h.1 g
    exact jRun.ret (k := jk_X1_growFrom) rfl 1 (v := none) (M1 := M) (ob := True) rfl trivial h
  · have h := h.2 g
    obtain ⟨o1, h⟩ := h
    refine jRun.call (k := jk_X1_growFrom) rfl 3 (f := q_X1_strandedJumps) (As := [.ref a0, .ref a1]) (c1 := (24, [.ref a0, .ref a1, .int a2, .int a3, .null], [], M)) (ob := True ∧ True ∧ jKd T a0 = 1) rfl ⟨trivial, trivial, o1⟩ h (fun v M1 h => ?_)
    obtain ⟨r1, rfl, h⟩ := h
    show jRun X T (d + 1) q_X1_growFrom (24, [.ref a0, .ref a1, .int a2, .int a3, .null], [.int r1], M1) Q
    refine jRun.cut (k := jk_X1_growFrom) rfl 3 (c' := (if ¬ r1 = 0 then 32 else 31, [.ref a0, .ref a1, .int a2, .int a3, .int r1], [], M1)) (ob := True ∧ True ∧ True ∧ True) rfl ⟨trivial, trivial, trivial, trivial⟩ ?_
    refine jRun.brn (fun g => ?_) (fun g => ?_)
    · have h := h.1 g
      refine jRun.cut (k := jk_X1_growFrom) rfl 6 (c' := (42, [.ref a0, .ref a1, .int a2, .int a3, .int r1], [], (jP M1 a0 3 ((M1 a0 3) + 1)))) (ob := True ∧ True ∧ jKd T a0 = 1 ∧ True ∧ True ∧ jKd T a0 = 1 ∧ True) rfl ⟨trivial, trivial, o1, trivial, trivial, o1, trivial⟩ ?_
      refine jRun.nm (fun M2 eM2 => ?_)
      have h := h M2 eM2
      refine jRun.call (k := jk_X1_growFrom) rfl 7 (f := q_X1_lay) (As := [.ref a0, .ref a1, .int ((M2 a0 2) ||| r1)]) (c1 := (54, [.ref a0, .ref a1, .int a2, .int a3, .int r1], [], M2)) (ob := True ∧ True ∧ True ∧ jKd T a0 = 1 ∧ True ∧ True ∧ jKd T a0 = 1) rfl ⟨trivial, trivial, trivial, o1, trivial, trivial, o1⟩ h (fun v M3 h => ?_)
      obtain ⟨rfl, h⟩ := h
      show jRun X T (d + 1) q_X1_growFrom (54, [.ref a0, .ref a1, .int a2, .int a3, .int r1], [], M3) Q
      refine jRun.cut (k := jk_X1_growFrom) rfl 2 (c' := (13, [.ref a0, .ref a1, .int a2, .int (a3 + 1), .int r1], [], M3)) (ob := True ∧ True ∧ True) rfl ⟨trivial, trivial, trivial⟩ ?_
      exact jRun.weak (by simp [jFew]) h
    · have h := h.2 g
      exact jRun.ret (k := jk_X1_growFrom) rfl 1 (v := none) (M1 := M1) (ob := True) rfl trivial h
theorem w_X1_shrink {X : jX} {T : jT} {d : Nat} (hI : jInj X T) (a0 : Nat) (a1 : Nat) (M : jMem) (Q : Option Value → jMem → Prop) (h : jKd T a0 = 1 ∧ jKd T (jRf T a0 0) = 3 ∧ jOk X T d q_X3_allJumps [.ref (jRf T a0 0)] M (fun v M1 => ∃ r1, v = some (.int r1) ∧ jOk X T d q_X1_lay [.ref a0, .ref a1, .int r1] M1 (fun v M2 => v = none ∧ jRun X T (d + 1) q_X1_shrink (19, [.ref a0, .ref a1, .int 0, .int 0, .int 0, .null, .null], [], M2) Q))) : jOk X T (d + 1) q_X1_shrink [.ref a0, .ref a1] M Q := by
  refine jOk.intro (ml := 7) (ls := [.ref a0, .ref a1, .null, .null, .null, .null, .null]) (jTl (by decide)) rfl (Nat.le_of_ble_eq_true rfl) rfl hI ?_
  obtain ⟨o1, o2, h⟩ := h
  refine jRun.call (k := jk_X1_shrink) rfl 9 (f := q_X3_allJumps) (As := [.ref (jRf T a0 0)]) (c1 := (13, [.ref a0, .ref a1, .int 0, .int 0, .null, .null, .null], [.ref a1, .ref a0], M)) (ob := True ∧ True ∧ True ∧ True ∧ True ∧ True ∧ True ∧ jKd T a0 = 1 ∧ jKd T (jRf T a0 0) = 3) rfl ⟨trivial, trivial, trivial, trivial, trivial, trivial, trivial, o1, o2⟩ h (fun v M1 h => ?_)
  obtain ⟨r1, rfl, h⟩ := h
  show jRun X T (d + 1) q_X1_shrink (13, [.ref a0, .ref a1, .int 0, .int 0, .null, .null, .null], [.int r1, .ref a1, .ref a0], M1) Q
  refine jRun.call (k := jk_X1_shrink) rfl 1 (f := q_X1_lay) (As := [.ref a0, .ref a1, .int r1]) (c1 := (16, [.ref a0, .ref a1, .int 0, .int 0, .null, .null, .null], [], M1)) (ob := jKd T a0 = 1) rfl o1 h (fun v M2 h => ?_)
  obtain ⟨rfl, h⟩ := h
  show jRun X T (d + 1) q_X1_shrink (16, [.ref a0, .ref a1, .int 0, .int 0, .null, .null, .null], [], M2) Q
  refine jRun.cut (k := jk_X1_shrink) rfl 2 (c' := (19, [.ref a0, .ref a1, .int 0, .int 0, .int 0, .null, .null], [], M2)) (ob := True ∧ True ∧ True) rfl ⟨trivial, trivial, trivial⟩ ?_
  exact h
theorem w_X1_shrink_19 {X : jX} {T : jT} {d : Nat} (a0 : Nat) (a1 : Nat) (a2 : Int32) (a3 : Int32) (a4 : Int32) (M : jMem) (Q : Option Value → jMem → Prop) (h : ((10 ≤ a4 → jKd T a0 = 1 ∧ (∀ M1, M1 = jP M a0 3 a2 → Q none M1)) ∧ (¬ 10 ≤ a4 → jKd T a0 = 1 ∧ jOk X T d q_X1_wouldReach [.ref a0, .ref a1] M (fun v M2 => ∃ r1, v = some (.int r1) ∧ jKd T a1 = 5 ∧ ((¬ ((r1 &&& ((M2 a1 1) ^^^ (-1))) &&& (a3 ^^^ (-1))) = 0 → jOk X T d q_X1_growFrom [.ref a0, .ref a1, .int ((M2 a0 2) &&& (((r1 &&& ((M2 a1 1) ^^^ (-1))) &&& (a3 ^^^ (-1))) ^^^ (-1)))] M2 (fun v M3 => v = none ∧ jRun X T (d + 1) q_X1_shrink (19, [.ref a0, .ref a1, .int (a2 + 1), .int (a3 ||| ((M3 a0 2) &&& (((M2 a0 2) &&& (((r1 &&& ((M2 a1 1) ^^^ (-1))) &&& (a3 ^^^ (-1))) ^^^ (-1))) ^^^ (-1)))), .int (a4 + 1), .null, .null], [], M3) Q)) ∧ (((r1 &&& ((M2 a1 1) ^^^ (-1))) &&& (a3 ^^^ (-1))) = 0 → (∀ M4, M4 = jP M2 a0 3 a2 → Q none M4))))))) : jRun X T (d + 1) q_X1_shrink (19, [.ref a0, .ref a1, .int a2, .int a3, .int a4, .null, .null], [], M) Q := by
  refine jRun.cut (k := jk_X1_shrink) rfl 3 (c' := (if 10 ≤ a4 then 91 else 26, [.ref a0, .ref a1, .int a2, .int a3, .int a4, .null, .null], [], M)) (ob := True ∧ True ∧ True ∧ True) rfl ⟨trivial, trivial, trivial, trivial⟩ ?_
  refine jRun.br (fun g => ?_) (fun g => ?_)
  · have h := h.1 g
    obtain ⟨o1, h⟩ := h
    refine jRun.cut (k := jk_X1_shrink) rfl 3 (c' := (96, [.ref a0, .ref a1, .int a2, .int a3, .int a4, .null, .null], [], (jP M a0 3 a2))) (ob := True ∧ True ∧ jKd T a0 = 1 ∧ True) rfl ⟨trivial, trivial, o1, trivial⟩ ?_
    refine jRun.nm (fun M1 eM1 => ?_)
    have h := h M1 eM1
    exact jRun.ret (k := jk_X1_shrink) rfl 1 (v := none) (M1 := M1) (ob := True) rfl trivial h
  · have h := h.2 g
    obtain ⟨o2, h⟩ := h
    refine jRun.call (k := jk_X1_shrink) rfl 3 (f := q_X1_wouldReach) (As := [.ref a0, .ref a1]) (c1 := (31, [.ref a0, .ref a1, .int a2, .int a3, .int a4, .null, .null], [], M)) (ob := True ∧ True ∧ jKd T a0 = 1) rfl ⟨trivial, trivial, o2⟩ h (fun v M2 h => ?_)
    obtain ⟨r1, rfl, h⟩ := h
    show jRun X T (d + 1) q_X1_shrink (31, [.ref a0, .ref a1, .int a2, .int a3, .int a4, .null, .null], [.int r1], M2) Q
    obtain ⟨o3, h⟩ := h
    refine jRun.cut (k := jk_X1_shrink) rfl 12 (c' := (if ¬ ((r1 &&& ((M2 a1 1) ^^^ (-1))) &&& (a3 ^^^ (-1))) = 0 then 52 else 49, [.ref a0, .ref a1, .int a2, .int a3, .int a4, .int ((r1 &&& ((M2 a1 1) ^^^ (-1))) &&& (a3 ^^^ (-1))), .null], [], M2)) (ob := True ∧ jKd T a1 = 5 ∧ True ∧ True ∧ True ∧ True ∧ True ∧ True ∧ True ∧ True ∧ True ∧ True ∧ True) rfl ⟨trivial, o3, trivial, trivial, trivial, trivial, trivial, trivial, trivial, trivial, trivial, trivial, trivial⟩ ?_
    refine jRun.brn (fun g => ?_) (fun g => ?_)
    · have h := h.1 g
      refine jRun.call (k := jk_X1_shrink) rfl 12 (f := q_X1_growFrom) (As := [.ref a0, .ref a1, .int ((M2 a0 2) &&& (((r1 &&& ((M2 a1 1) ^^^ (-1))) &&& (a3 ^^^ (-1))) ^^^ (-1)))]) (c1 := (73, [.ref a0, .ref a1, .int (a2 + 1), .int a3, .int a4, .int ((r1 &&& ((M2 a1 1) ^^^ (-1))) &&& (a3 ^^^ (-1))), .int ((M2 a0 2) &&& (((r1 &&& ((M2 a1 1) ^^^ (-1))) &&& (a3 ^^^ (-1))) ^^^ (-1)))], [], M2)) (ob := True ∧ True ∧ jKd T a0 = 1 ∧ True ∧ True ∧ True ∧ True ∧ True ∧ True ∧ True ∧ True ∧ jKd T a0 = 1) rfl ⟨trivial, trivial, o2, trivial, trivial, trivial, trivial, trivial, trivial, trivial, trivial, o2⟩ h (fun v M3 h => ?_)
      obtain ⟨rfl, h⟩ := h
      show jRun X T (d + 1) q_X1_shrink (73, [.ref a0, .ref a1, .int (a2 + 1), .int a3, .int a4, .int ((r1 &&& ((M2 a1 1) ^^^ (-1))) &&& (a3 ^^^ (-1))), .int ((M2 a0 2) &&& (((r1 &&& ((M2 a1 1) ^^^ (-1))) &&& (a3 ^^^ (-1))) ^^^ (-1)))], [], M3) Q
      refine jRun.cut (k := jk_X1_shrink) rfl 11 (c' := (19, [.ref a0, .ref a1, .int (a2 + 1), .int (a3 ||| ((M3 a0 2) &&& (((M2 a0 2) &&& (((r1 &&& ((M2 a1 1) ^^^ (-1))) &&& (a3 ^^^ (-1))) ^^^ (-1))) ^^^ (-1)))), .int (a4 + 1), .int ((r1 &&& ((M2 a1 1) ^^^ (-1))) &&& (a3 ^^^ (-1))), .int ((M2 a0 2) &&& (((r1 &&& ((M2 a1 1) ^^^ (-1))) &&& (a3 ^^^ (-1))) ^^^ (-1)))], [], M3)) (ob := True ∧ True ∧ jKd T a0 = 1 ∧ True ∧ True ∧ True ∧ True ∧ True ∧ True ∧ True ∧ True ∧ True) rfl ⟨trivial, trivial, o2, trivial, trivial, trivial, trivial, trivial, trivial, trivial, trivial, trivial⟩ ?_
      exact jRun.weak (by simp [jFew]) h
    · have h := h.2 g
      refine jRun.cut (k := jk_X1_shrink) rfl 4 (c' := (96, [.ref a0, .ref a1, .int a2, .int a3, .int a4, .int ((r1 &&& ((M2 a1 1) ^^^ (-1))) &&& (a3 ^^^ (-1))), .null], [], (jP M2 a0 3 a2))) (ob := True ∧ True ∧ True ∧ jKd T a0 = 1 ∧ True) rfl ⟨trivial, trivial, trivial, o2, trivial⟩ ?_
      refine jRun.nm (fun M4 eM4 => ?_)
      have h := h M4 eM4
      exact jRun.ret (k := jk_X1_shrink) rfl 1 (v := none) (M1 := M4) (ob := True) rfl trivial h
theorem w_X1_tryAll {X : jX} {T : jT} {d : Nat} (hI : jInj X T) (a0 : Nat) (a1 : Nat) (M : jMem) (Q : Option Value → jMem → Prop) (h : jKd T a0 = 1 ∧ jKd T (jRf T a0 0) = 3 ∧ jOk X T d q_X3_allJumps [.ref (jRf T a0 0)] M (fun v M1 => ∃ r1, v = some (.int r1) ∧ jOk X T d q_X1_lay [.ref a0, .ref a1, .int r1] M1 (fun v M2 => v = none ∧ jOk X T d q_X1_size [.ref a0] M2 (fun v M3 => ∃ r3, v = some (.int r3) ∧ jRun X T (d + 1) q_X1_tryAll (22, [.ref a0, .ref a1, .int r1, .int r3, .int 0, .null], [], M3) Q)))) : jOk X T (d + 1) q_X1_tryAll [.ref a0, .ref a1] M Q := by
  refine jOk.intro (ml := 6) (ls := [.ref a0, .ref a1, .null, .null, .null, .null]) (jTl (by decide)) rfl (Nat.le_of_ble_eq_true rfl) rfl hI ?_
  obtain ⟨o1, o2, h⟩ := h
  refine jRun.call (k := jk_X1_tryAll) rfl 3 (f := q_X3_allJumps) (As := [.ref (jRf T a0 0)]) (c1 := (7, [.ref a0, .ref a1, .null, .null, .null, .null], [], M)) (ob := True ∧ jKd T a0 = 1 ∧ jKd T (jRf T a0 0) = 3) rfl ⟨trivial, o1, o2⟩ h (fun v M1 h => ?_)
  obtain ⟨r1, rfl, h⟩ := h
  show jRun X T (d + 1) q_X1_tryAll (7, [.ref a0, .ref a1, .null, .null, .null, .null], [.int r1], M1) Q
  refine jRun.call (k := jk_X1_tryAll) rfl 5 (f := q_X1_lay) (As := [.ref a0, .ref a1, .int r1]) (c1 := (14, [.ref a0, .ref a1, .int r1, .null, .null, .null], [], M1)) (ob := True ∧ True ∧ True ∧ True ∧ jKd T a0 = 1) rfl ⟨trivial, trivial, trivial, trivial, o1⟩ h (fun v M2 h => ?_)
  obtain ⟨rfl, h⟩ := h
  show jRun X T (d + 1) q_X1_tryAll (14, [.ref a0, .ref a1, .int r1, .null, .null, .null], [], M2) Q
  refine jRun.call (k := jk_X1_tryAll) rfl 2 (f := q_X1_size) (As := [.ref a0]) (c1 := (18, [.ref a0, .ref a1, .int r1, .null, .null, .null], [], M2)) (ob := True ∧ jKd T a0 = 1) rfl ⟨trivial, o1⟩ h (fun v M3 h => ?_)
  obtain ⟨r3, rfl, h⟩ := h
  show jRun X T (d + 1) q_X1_tryAll (18, [.ref a0, .ref a1, .int r1, .null, .null, .null], [.int r3], M3) Q
  refine jRun.cut (k := jk_X1_tryAll) rfl 3 (c' := (22, [.ref a0, .ref a1, .int r1, .int r3, .int 0, .null], [], M3)) (ob := True ∧ True ∧ True ∧ True) rfl ⟨trivial, trivial, trivial, trivial⟩ ?_
  exact h
theorem w_X1_tryAll_22 {X : jX} {T : jT} {d : Nat} (a0 : Nat) (a1 : Nat) (a2 : Int32) (a3 : Int32) (a4 : Int32) (M : jMem) (Q : Option Value → jMem → Prop) (h : jKd T a0 = 1 ∧ jKd T (jRf T a0 0) = 3 ∧ jOk X T d q_X3_allJumps [.ref (jRf T a0 0)] M (fun v M1 => ∃ r1, v = some (.int r1) ∧ ((r1 ≤ a4 → jOk X T d q_X1_lay [.ref a0, .ref a1, .int a2] M1 (fun v M2 => v = none ∧ (∀ M3, M3 = jP M2 a0 3 0 → Q none M3))) ∧ (¬ r1 ≤ a4 → jKd T a1 = 5 ∧ (((a4 &&& (M1 a1 1)) = (M1 a1 1) → jOk X T d q_X1_lay [.ref a0, .ref a1, .int a4] M1 (fun v M4 => v = none ∧ jOk X T d q_X1_size [.ref a0] M4 (fun v M5 => ∃ r4, v = some (.int r4) ∧ ((r4 < a3 → jRun X T (d + 1) q_X1_tryAll (86, [.ref a0, .ref a1, .int a2, .int a3, .int a4, .null], [], M5) Q) ∧ (¬ r4 < a3 → jOk X T d q_X1_size [.ref a0] M5 (fun v M6 => ∃ r5, v = some (.int r5) ∧ ((¬ r5 = a3 → jRun X T (d + 1) q_X1_tryAll (90, [.ref a0, .ref a1, .int a2, .int a3, .int a4, .null], [], M6) Q) ∧ (r5 = a3 → jOk X T d q_J6_bitCount_0f7a4 [.int a4] M6 (fun v M7 => ∃ r6, v = some (.int r6) ∧ jOk X T d q_J6_bitCount_0f7a4 [.int a2] M7 (fun v M8 => ∃ r7, v = some (.int r7) ∧ ((r7 ≤ r6 → jRun X T (d + 1) q_X1_tryAll (90, [.ref a0, .ref a1, .int a2, .int a3, .int a4, .null], [], M8) Q) ∧ (¬ r7 ≤ r6 → jRun X T (d + 1) q_X1_tryAll (86, [.ref a0, .ref a1, .int a2, .int a3, .int a4, .null], [], M8) Q)))))))))))) ∧ (¬ (a4 &&& (M1 a1 1)) = (M1 a1 1) → jRun X T (d + 1) q_X1_tryAll (114, [.ref a0, .ref a1, .int a2, .int a3, .int a4, .null], [], M1) Q)))))) : jRun X T (d + 1) q_X1_tryAll (22, [.ref a0, .ref a1, .int a2, .int a3, .int a4, .null], [], M) Q := by
  obtain ⟨o1, o2, h⟩ := h
  refine jRun.call (k := jk_X1_tryAll) rfl 4 (f := q_X3_allJumps) (As := [.ref (jRf T a0 0)]) (c1 := (31, [.ref a0, .ref a1, .int a2, .int a3, .int a4, .null], [.int a4], M)) (ob := True ∧ True ∧ jKd T a0 = 1 ∧ jKd T (jRf T a0 0) = 3) rfl ⟨trivial, trivial, o1, o2⟩ h (fun v M1 h => ?_)
  obtain ⟨r1, rfl, h⟩ := h
  show jRun X T (d + 1) q_X1_tryAll (31, [.ref a0, .ref a1, .int a2, .int a3, .int a4, .null], [.int r1, .int a4], M1) Q
  refine jRun.cut (k := jk_X1_tryAll) rfl 1 (c' := (if r1 ≤ a4 then 120 else 34, [.ref a0, .ref a1, .int a2, .int a3, .int a4, .null], [], M1)) (ob := True ∧ True) rfl ⟨trivial, trivial⟩ ?_
  refine jRun.br (fun g => ?_) (fun g => ?_)
  · have h := h.1 g
    refine jRun.call (k := jk_X1_tryAll) rfl 4 (f := q_X1_lay) (As := [.ref a0, .ref a1, .int a2]) (c1 := (126, [.ref a0, .ref a1, .int a2, .int a3, .int a4, .null], [], M1)) (ob := True ∧ True ∧ True ∧ jKd T a0 = 1) rfl ⟨trivial, trivial, trivial, o1⟩ h (fun v M2 h => ?_)
    obtain ⟨rfl, h⟩ := h
    show jRun X T (d + 1) q_X1_tryAll (126, [.ref a0, .ref a1, .int a2, .int a3, .int a4, .null], [], M2) Q
    refine jRun.cut (k := jk_X1_tryAll) rfl 3 (c' := (131, [.ref a0, .ref a1, .int a2, .int a3, .int a4, .null], [], (jP M2 a0 3 0))) (ob := True ∧ True ∧ jKd T a0 = 1 ∧ True) rfl ⟨trivial, trivial, o1, trivial⟩ ?_
    refine jRun.nm (fun M3 eM3 => ?_)
    have h := h M3 eM3
    exact jRun.ret (k := jk_X1_tryAll) rfl 1 (v := none) (M1 := M3) (ob := True) rfl trivial h
  · have h := h.2 g
    obtain ⟨o3, h⟩ := h
    refine jRun.cut (k := jk_X1_tryAll) rfl 7 (c' := (if (a4 &&& (M1 a1 1)) = (M1 a1 1) then 51 else 48, [.ref a0, .ref a1, .int a2, .int a3, .int a4, .null], [], M1)) (ob := True ∧ True ∧ jKd T a1 = 5 ∧ True ∧ True ∧ jKd T a1 = 5 ∧ True ∧ True) rfl ⟨trivial, trivial, o3, trivial, trivial, o3, trivial, trivial⟩ ?_
    refine jRun.br (fun g => ?_) (fun g => ?_)
    · have h := h.1 g
      refine jRun.call (k := jk_X1_tryAll) rfl 4 (f := q_X1_lay) (As := [.ref a0, .ref a1, .int a4]) (c1 := (58, [.ref a0, .ref a1, .int a2, .int a3, .int a4, .null], [], M1)) (ob := True ∧ True ∧ True ∧ jKd T a0 = 1) rfl ⟨trivial, trivial, trivial, o1⟩ h (fun v M4 h => ?_)
      obtain ⟨rfl, h⟩ := h
      show jRun X T (d + 1) q_X1_tryAll (58, [.ref a0, .ref a1, .int a2, .int a3, .int a4, .null], [], M4) Q
      refine jRun.call (k := jk_X1_tryAll) rfl 2 (f := q_X1_size) (As := [.ref a0]) (c1 := (62, [.ref a0, .ref a1, .int a2, .int a3, .int a4, .null], [], M4)) (ob := True ∧ jKd T a0 = 1) rfl ⟨trivial, o1⟩ h (fun v M5 h => ?_)
      obtain ⟨r4, rfl, h⟩ := h
      show jRun X T (d + 1) q_X1_tryAll (62, [.ref a0, .ref a1, .int a2, .int a3, .int a4, .null], [.int r4], M5) Q
      refine jRun.cut (k := jk_X1_tryAll) rfl 2 (c' := (if r4 < a3 then 86 else 66, [.ref a0, .ref a1, .int a2, .int a3, .int a4, .null], [], M5)) (ob := True ∧ True ∧ True) rfl ⟨trivial, trivial, trivial⟩ ?_
      refine jRun.br (fun g => ?_) (fun g => ?_)
      · have h := h.1 g
        exact h
      · have h := h.2 g
        refine jRun.call (k := jk_X1_tryAll) rfl 2 (f := q_X1_size) (As := [.ref a0]) (c1 := (70, [.ref a0, .ref a1, .int a2, .int a3, .int a4, .null], [], M5)) (ob := True ∧ jKd T a0 = 1) rfl ⟨trivial, o1⟩ h (fun v M6 h => ?_)
        obtain ⟨r5, rfl, h⟩ := h
        show jRun X T (d + 1) q_X1_tryAll (70, [.ref a0, .ref a1, .int a2, .int a3, .int a4, .null], [.int r5], M6) Q
        refine jRun.cut (k := jk_X1_tryAll) rfl 2 (c' := (if ¬ r5 = a3 then 90 else 74, [.ref a0, .ref a1, .int a2, .int a3, .int a4, .null], [], M6)) (ob := True ∧ True ∧ True) rfl ⟨trivial, trivial, trivial⟩ ?_
        refine jRun.brn (fun g => ?_) (fun g => ?_)
        · have h := h.1 g
          exact h
        · have h := h.2 g
          refine jRun.call (k := jk_X1_tryAll) rfl 2 (f := q_J6_bitCount_0f7a4) (As := [.int a4]) (c1 := (79, [.ref a0, .ref a1, .int a2, .int a3, .int a4, .null], [], M6)) (ob := True ∧ True) rfl ⟨trivial, trivial⟩ h (fun v M7 h => ?_)
          obtain ⟨r6, rfl, h⟩ := h
          show jRun X T (d + 1) q_X1_tryAll (79, [.ref a0, .ref a1, .int a2, .int a3, .int a4, .null], [.int r6], M7) Q
          refine jRun.call (k := jk_X1_tryAll) rfl 2 (f := q_J6_bitCount_0f7a4) (As := [.int a2]) (c1 := (83, [.ref a0, .ref a1, .int a2, .int a3, .int a4, .null], [.int r6], M7)) (ob := True ∧ True) rfl ⟨trivial, trivial⟩ h (fun v M8 h => ?_)
          obtain ⟨r7, rfl, h⟩ := h
          show jRun X T (d + 1) q_X1_tryAll (83, [.ref a0, .ref a1, .int a2, .int a3, .int a4, .null], [.int r7, .int r6], M8) Q
          refine jRun.cut (k := jk_X1_tryAll) rfl 1 (c' := (if r7 ≤ r6 then 90 else 86, [.ref a0, .ref a1, .int a2, .int a3, .int a4, .null], [], M8)) (ob := True ∧ True) rfl ⟨trivial, trivial⟩ ?_
          refine jRun.br (fun g => ?_) (fun g => ?_)
          · have h := h.1 g
            exact h
          · have h := h.2 g
            exact h
    · have h := h.2 g
      refine jRun.cut (k := jk_X1_tryAll) rfl 1 (c' := (114, [.ref a0, .ref a1, .int a2, .int a3, .int a4, .null], [], M1)) (ob := True ∧ True) rfl ⟨trivial, trivial⟩ ?_
      exact h
theorem w_X1_tryAll_86 {X : jX} {T : jT} {d : Nat} (a0 : Nat) (a1 : Nat) (a2 : Int32) (a3 : Int32) (a4 : Int32) (M : jMem) (Q : Option Value → jMem → Prop) (h : jRun X T (d + 1) q_X1_tryAll (91, [.ref a0, .ref a1, .int a2, .int a3, .int a4, .null], [.int 1], M) Q) : jRun X T (d + 1) q_X1_tryAll (86, [.ref a0, .ref a1, .int a2, .int a3, .int a4, .null], [], M) Q := by
  refine jRun.cut (k := jk_X1_tryAll) rfl 2 (c' := (91, [.ref a0, .ref a1, .int a2, .int a3, .int a4, .null], [.int 1], M)) (ob := True ∧ True ∧ True) rfl ⟨trivial, trivial, trivial⟩ ?_
  exact h
theorem w_X1_tryAll_90 {X : jX} {T : jT} {d : Nat} (a0 : Nat) (a1 : Nat) (a2 : Int32) (a3 : Int32) (a4 : Int32) (M : jMem) (Q : Option Value → jMem → Prop) (h : jRun X T (d + 1) q_X1_tryAll (91, [.ref a0, .ref a1, .int a2, .int a3, .int a4, .null], [.int 0], M) Q) : jRun X T (d + 1) q_X1_tryAll (90, [.ref a0, .ref a1, .int a2, .int a3, .int a4, .null], [], M) Q := by
  refine jRun.cut (k := jk_X1_tryAll) rfl 1 (c' := (91, [.ref a0, .ref a1, .int a2, .int a3, .int a4, .null], [.int 0], M)) (ob := True ∧ True) rfl ⟨trivial, trivial⟩ ?_
  exact h
theorem w_X1_tryAll_91 {X : jX} {T : jT} {d : Nat} (a0 : Nat) (a1 : Nat) (a2 : Int32) (a3 : Int32) (a4 : Int32) (s0 : Int32) (M : jMem) (Q : Option Value → jMem → Prop) (h : ((s0 = 0 → jRun X T (d + 1) q_X1_tryAll (114, [.ref a0, .ref a1, .int a2, .int a3, .int a4, .null], [], M) Q) ∧ (¬ s0 = 0 → jKd T a0 = 1 ∧ jOk X T d q_X1_strandedJumps [.ref a0, .ref a1] M (fun v M1 => ∃ r1, v = some (.int r1) ∧ ((¬ r1 = 0 → jRun X T (d + 1) q_X1_tryAll (114, [.ref a0, .ref a1, .int a2, .int a3, .int a4, .null], [], M1) Q) ∧ (r1 = 0 → jOk X T d q_X1_size [.ref a0] M1 (fun v M2 => ∃ r2, v = some (.int r2) ∧ jRun X T (d + 1) q_X1_tryAll (114, [.ref a0, .ref a1, .int a4, .int r2, .int a4, .null], [], M2) Q))))))) : jRun X T (d + 1) q_X1_tryAll (91, [.ref a0, .ref a1, .int a2, .int a3, .int a4, .null], [.int s0], M) Q := by
  refine jRun.cut (k := jk_X1_tryAll) rfl 3 (c' := (if s0 = 0 then 114 else 98, [.ref a0, .ref a1, .int a2, .int a3, .int a4, .int s0], [], M)) (ob := True ∧ True ∧ True ∧ True) rfl ⟨trivial, trivial, trivial, trivial⟩ ?_
  refine jRun.br (fun g => ?_) (fun g => ?_)
  · have h := h.1 g
    exact jRun.weak (by simp [jFew]) h
  · have h := h.2 g
    obtain ⟨o1, h⟩ := h
    refine jRun.call (k := jk_X1_tryAll) rfl 3 (f := q_X1_strandedJumps) (As := [.ref a0, .ref a1]) (c1 := (103, [.ref a0, .ref a1, .int a2, .int a3, .int a4, .int s0], [], M)) (ob := True ∧ True ∧ jKd T a0 = 1) rfl ⟨trivial, trivial, o1⟩ h (fun v M1 h => ?_)
    obtain ⟨r1, rfl, h⟩ := h
    show jRun X T (d + 1) q_X1_tryAll (103, [.ref a0, .ref a1, .int a2, .int a3, .int a4, .int s0], [.int r1], M1) Q
    refine jRun.cut (k := jk_X1_tryAll) rfl 1 (c' := (if ¬ r1 = 0 then 114 else 106, [.ref a0, .ref a1, .int a2, .int a3, .int a4, .int s0], [], M1)) (ob := True ∧ True) rfl ⟨trivial, trivial⟩ ?_
    refine jRun.brn (fun g => ?_) (fun g => ?_)
    · have h := h.1 g
      exact jRun.weak (by simp [jFew]) h
    · have h := h.2 g
      refine jRun.call (k := jk_X1_tryAll) rfl 4 (f := q_X1_size) (As := [.ref a0]) (c1 := (113, [.ref a0, .ref a1, .int a4, .int a3, .int a4, .int s0], [], M1)) (ob := True ∧ True ∧ True ∧ jKd T a0 = 1) rfl ⟨trivial, trivial, trivial, o1⟩ h (fun v M2 h => ?_)
      obtain ⟨r2, rfl, h⟩ := h
      show jRun X T (d + 1) q_X1_tryAll (113, [.ref a0, .ref a1, .int a4, .int a3, .int a4, .int s0], [.int r2], M2) Q
      refine jRun.cut (k := jk_X1_tryAll) rfl 1 (c' := (114, [.ref a0, .ref a1, .int a4, .int r2, .int a4, .int s0], [], M2)) (ob := True ∧ True) rfl ⟨trivial, trivial⟩ ?_
      exact jRun.weak (by simp [jFew]) h
theorem w_X1_tryAll_114 {X : jX} {T : jT} {d : Nat} (a0 : Nat) (a1 : Nat) (a2 : Int32) (a3 : Int32) (a4 : Int32) (M : jMem) (Q : Option Value → jMem → Prop) (h : jRun X T (d + 1) q_X1_tryAll (22, [.ref a0, .ref a1, .int a2, .int a3, .int (a4 + 1), .null], [], M) Q) : jRun X T (d + 1) q_X1_tryAll (114, [.ref a0, .ref a1, .int a2, .int a3, .int a4, .null], [], M) Q := by
  refine jRun.cut (k := jk_X1_tryAll) rfl 2 (c' := (22, [.ref a0, .ref a1, .int a2, .int a3, .int (a4 + 1), .null], [], M)) (ob := True ∧ True ∧ True) rfl ⟨trivial, trivial, trivial⟩ ?_
  exact h
theorem w_X1_isLong {X : jX} {T : jT} {d : Nat} (hI : jInj X T) (a0 : Nat) (a1 : Int32) (M : jMem) (Q : Option Value → jMem → Prop) (h : jKd T a0 = 1 ∧ (((((M a0 2) >>> (a1 &&& 31)) &&& 1) = 0 → Q (some (.int 0)) M) ∧ (¬ (((M a0 2) >>> (a1 &&& 31)) &&& 1) = 0 → Q (some (.int 1)) M))) : jOk X T d q_X1_isLong [.ref a0, .int a1] M Q := by
  refine jOk.intro (ml := 2) (ls := [.ref a0, .int a1]) (jTl (by decide)) rfl (Nat.le_of_ble_eq_true rfl) rfl hI ?_
  obtain ⟨o1, h⟩ := h
  refine jRun.cut (k := jk_X1_isLong) rfl 7 (c' := (if (((M a0 2) >>> (a1 &&& 31)) &&& 1) = 0 then 15 else 11, [.ref a0, .int a1], [], M)) (ob := True ∧ jKd T a0 = 1 ∧ True ∧ True ∧ True ∧ True ∧ True ∧ True) rfl ⟨trivial, o1, trivial, trivial, trivial, trivial, trivial, trivial⟩ ?_
  refine jRun.br (fun g => ?_) (fun g => ?_)
  · have h := h.1 g
    exact jRun.ret (k := jk_X1_isLong) rfl 2 (v := some (.int 0)) (M1 := M) (ob := True ∧ (0 = 0 ∨ 0 = 1)) rfl ⟨trivial, (Or.inl rfl)⟩ h
  · have h := h.2 g
    exact jRun.ret (k := jk_X1_isLong) rfl 3 (v := some (.int 1)) (M1 := M) (ob := True ∧ True ∧ (1 = 0 ∨ 1 = 1)) rfl ⟨trivial, trivial, (Or.inr rfl)⟩ h
theorem w_X1_farOf {X : jX} {T : jT} {d : Nat} (hI : jInj X T) (a0 : Nat) (a1 : Int32) (M : jMem) (Q : Option Value → jMem → Prop) (h : jKd T a0 = 1 ∧ jKd T (jRf T a0 0) = 3 ∧ jKd T (jRf T (jRf T a0 0) 3) = 9 ∧ vp_in a1 (jLn T (jRf T (jRf T a0 0) 3)) ∧ jKd T (jRf T a0 1) = 9 ∧ vp_in (M (jRf T (jRf T a0 0) 3) a1.toNatClampNeg) (jLn T (jRf T a0 1)) ∧ vp_in (a1 + 1) (jLn T (jRf T a0 1)) ∧ Q (some (.int ((M (jRf T a0 1) (M (jRf T (jRf T a0 0) 3) a1.toNatClampNeg).toNatClampNeg) - (M (jRf T a0 1) (a1 + 1).toNatClampNeg)))) M) : jOk X T d q_X1_farOf [.ref a0, .int a1] M Q := by
  refine jOk.intro (ml := 2) (ls := [.ref a0, .int a1]) (jTl (by decide)) rfl (Nat.le_of_ble_eq_true rfl) rfl hI ?_
  obtain ⟨o1, o2, o3, o4, o5, o6, o7, h⟩ := h
  exact jRun.ret (k := jk_X1_farOf) rfl 16 (v := some (.int ((M (jRf T a0 1) (M (jRf T (jRf T a0 0) 3) a1.toNatClampNeg).toNatClampNeg) - (M (jRf T a0 1) (a1 + 1).toNatClampNeg)))) (M1 := M) (ob := True ∧ jKd T a0 = 1 ∧ True ∧ jKd T a0 = 1 ∧ jKd T (jRf T a0 0) = 3 ∧ True ∧ (jKd T (jRf T (jRf T a0 0) 3) = 9 ∧ vp_in a1 (jLn T (jRf T (jRf T a0 0) 3))) ∧ (jKd T (jRf T a0 1) = 9 ∧ vp_in (M (jRf T (jRf T a0 0) 3) a1.toNatClampNeg) (jLn T (jRf T a0 1))) ∧ True ∧ jKd T a0 = 1 ∧ True ∧ True ∧ True ∧ (jKd T (jRf T a0 1) = 9 ∧ vp_in (a1 + 1) (jLn T (jRf T a0 1))) ∧ True ∧ True) rfl ⟨trivial, o1, trivial, o1, o2, trivial, ⟨o3, o4⟩, ⟨o5, o6⟩, trivial, o1, trivial, trivial, trivial, ⟨o5, o7⟩, trivial, trivial⟩ h
theorem w_X1_servedCalls {X : jX} {T : jT} {d : Nat} (hI : jInj X T) (a0 : Nat) (a1 : Nat) (M : jMem) (Q : Option Value → jMem → Prop) (h : jRun X T (d + 1) q_X1_servedCalls (4, [.ref a0, .ref a1, .int 0, .int 0], [], M) Q) : jOk X T (d + 1) q_X1_servedCalls [.ref a0, .ref a1] M Q := by
  refine jOk.intro (ml := 4) (ls := [.ref a0, .ref a1, .null, .null]) (jTl (by decide)) rfl (Nat.le_of_ble_eq_true rfl) rfl hI ?_
  refine jRun.cut (k := jk_X1_servedCalls) rfl 4 (c' := (4, [.ref a0, .ref a1, .int 0, .int 0], [], M)) (ob := True ∧ True ∧ True ∧ True ∧ True) rfl ⟨trivial, trivial, trivial, trivial, trivial⟩ ?_
  exact h
theorem w_X1_servedCalls_4 {X : jX} {T : jT} {d : Nat} (a0 : Nat) (a1 : Nat) (a2 : Int32) (a3 : Int32) (M : jMem) (Q : Option Value → jMem → Prop) (h : jKd T a0 = 1 ∧ jKd T (jRf T a0 0) = 3 ∧ (((M (jRf T a0 0) 11) ≤ a3 → Q (some (.int a2)) M) ∧ (¬ (M (jRf T a0 0) 11) ≤ a3 → jKd T (jRf T (jRf T a0 0) 6) = 9 ∧ vp_in a3 (jLn T (jRf T (jRf T a0 0) 6)) ∧ jOk X T d q_X1_farServed [.ref a0, .ref a1, .int (M (jRf T (jRf T a0 0) 6) a3.toNatClampNeg)] M (fun v M1 => ∃ r1, v = some (.int r1) ∧ ((r1 = (-1000000) → jRun X T (d + 1) q_X1_servedCalls (4, [.ref a0, .ref a1, .int a2, .int (a3 + 1)], [], M1) Q) ∧ (¬ r1 = (-1000000) → jRun X T (d + 1) q_X1_servedCalls (4, [.ref a0, .ref a1, .int (a2 ||| (1 <<< (a3 &&& 31))), .int (a3 + 1)], [], M1) Q)))))) : jRun X T (d + 1) q_X1_servedCalls (4, [.ref a0, .ref a1, .int a2, .int a3], [], M) Q := by
  obtain ⟨o1, o2, h⟩ := h
  refine jRun.cut (k := jk_X1_servedCalls) rfl 5 (c' := (if (M (jRf T a0 0) 11) ≤ a3 then 46 else 15, [.ref a0, .ref a1, .int a2, .int a3], [], M)) (ob := True ∧ True ∧ jKd T a0 = 1 ∧ jKd T (jRf T a0 0) = 3 ∧ True ∧ True) rfl ⟨trivial, trivial, o1, o2, trivial, trivial⟩ ?_
  refine jRun.br (fun g => ?_) (fun g => ?_)
  · have h := h.1 g
    exact jRun.ret (k := jk_X1_servedCalls) rfl 2 (v := some (.int a2)) (M1 := M) (ob := True ∧ True) rfl ⟨trivial, trivial⟩ h
  · have h := h.2 g
    obtain ⟨o3, o4, h⟩ := h
    refine jRun.call (k := jk_X1_servedCalls) rfl 8 (f := q_X1_farServed) (As := [.ref a0, .ref a1, .int (M (jRf T (jRf T a0 0) 6) a3.toNatClampNeg)]) (c1 := (29, [.ref a0, .ref a1, .int a2, .int a3], [], M)) (ob := True ∧ True ∧ True ∧ jKd T a0 = 1 ∧ jKd T (jRf T a0 0) = 3 ∧ True ∧ (jKd T (jRf T (jRf T a0 0) 6) = 9 ∧ vp_in a3 (jLn T (jRf T (jRf T a0 0) 6))) ∧ jKd T a0 = 1) rfl ⟨trivial, trivial, trivial, o1, o2, trivial, ⟨o3, o4⟩, o1⟩ h (fun v M1 h => ?_)
    obtain ⟨r1, rfl, h⟩ := h
    show jRun X T (d + 1) q_X1_servedCalls (29, [.ref a0, .ref a1, .int a2, .int a3], [.int r1], M1) Q
    refine jRun.cut (k := jk_X1_servedCalls) rfl 2 (c' := (if r1 = (-1000000) then 40 else 34, [.ref a0, .ref a1, .int a2, .int a3], [], M1)) (ob := True ∧ True ∧ True) rfl ⟨trivial, trivial, trivial⟩ ?_
    refine jRun.br (fun g => ?_) (fun g => ?_)
    · have h := h.1 g
      refine jRun.cut (k := jk_X1_servedCalls) rfl 2 (c' := (4, [.ref a0, .ref a1, .int a2, .int (a3 + 1)], [], M1)) (ob := True ∧ True ∧ True) rfl ⟨trivial, trivial, trivial⟩ ?_
      exact h
    · have h := h.2 g
      refine jRun.cut (k := jk_X1_servedCalls) rfl 8 (c' := (4, [.ref a0, .ref a1, .int (a2 ||| (1 <<< (a3 &&& 31))), .int (a3 + 1)], [], M1)) (ob := True ∧ True ∧ True ∧ True ∧ True ∧ True ∧ True ∧ True ∧ True) rfl ⟨trivial, trivial, trivial, trivial, trivial, trivial, trivial, trivial, trivial⟩ ?_
      exact h
theorem w_X1_servesAll {X : jX} {T : jT} {d : Nat} (hI : jInj X T) (a0 : Nat) (a1 : Nat) (M : jMem) (Q : Option Value → jMem → Prop) (h : jRun X T (d + 1) q_X1_servesAll (2, [.ref a0, .ref a1, .int 0], [], M) Q) : jOk X T (d + 1) q_X1_servesAll [.ref a0, .ref a1] M Q := by
  refine jOk.intro (ml := 3) (ls := [.ref a0, .ref a1, .null]) (jTl (by decide)) rfl (Nat.le_of_ble_eq_true rfl) rfl hI ?_
  refine jRun.cut (k := jk_X1_servesAll) rfl 2 (c' := (2, [.ref a0, .ref a1, .int 0], [], M)) (ob := True ∧ True ∧ True) rfl ⟨trivial, trivial, trivial⟩ ?_
  exact h
theorem w_X1_servesAll_2 {X : jX} {T : jT} {d : Nat} (a0 : Nat) (a1 : Nat) (a2 : Int32) (M : jMem) (Q : Option Value → jMem → Prop) (h : jKd T a0 = 1 ∧ jKd T (jRf T a0 0) = 3 ∧ (((M (jRf T a0 0) 11) ≤ a2 → Q (some (.int 1)) M) ∧ (¬ (M (jRf T a0 0) 11) ≤ a2 → jKd T (jRf T (jRf T a0 0) 6) = 9 ∧ vp_in a2 (jLn T (jRf T (jRf T a0 0) 6)) ∧ jOk X T d q_X1_farServed [.ref a0, .ref a1, .int (M (jRf T (jRf T a0 0) 6) a2.toNatClampNeg)] M (fun v M1 => ∃ r1, v = some (.int r1) ∧ ((¬ r1 = (-1000000) → jRun X T (d + 1) q_X1_servesAll (2, [.ref a0, .ref a1, .int (a2 + 1)], [], M1) Q) ∧ (r1 = (-1000000) → Q (some (.int 0)) M1)))))) : jRun X T (d + 1) q_X1_servesAll (2, [.ref a0, .ref a1, .int a2], [], M) Q := by
  obtain ⟨o1, o2, h⟩ := h
  refine jRun.cut (k := jk_X1_servesAll) rfl 5 (c' := (if (M (jRf T a0 0) 11) ≤ a2 then 40 else 13, [.ref a0, .ref a1, .int a2], [], M)) (ob := True ∧ True ∧ jKd T a0 = 1 ∧ jKd T (jRf T a0 0) = 3 ∧ True ∧ True) rfl ⟨trivial, trivial, o1, o2, trivial, trivial⟩ ?_
  refine jRun.br (fun g => ?_) (fun g => ?_)
  · have h := h.1 g
    exact jRun.ret (k := jk_X1_servesAll) rfl 2 (v := some (.int 1)) (M1 := M) (ob := True ∧ (1 = 0 ∨ 1 = 1)) rfl ⟨trivial, (Or.inr rfl)⟩ h
  · have h := h.2 g
    obtain ⟨o3, o4, h⟩ := h
    refine jRun.call (k := jk_X1_servesAll) rfl 8 (f := q_X1_farServed) (As := [.ref a0, .ref a1, .int (M (jRf T (jRf T a0 0) 6) a2.toNatClampNeg)]) (c1 := (27, [.ref a0, .ref a1, .int a2], [], M)) (ob := True ∧ True ∧ True ∧ jKd T a0 = 1 ∧ jKd T (jRf T a0 0) = 3 ∧ True ∧ (jKd T (jRf T (jRf T a0 0) 6) = 9 ∧ vp_in a2 (jLn T (jRf T (jRf T a0 0) 6))) ∧ jKd T a0 = 1) rfl ⟨trivial, trivial, trivial, o1, o2, trivial, ⟨o3, o4⟩, o1⟩ h (fun v M1 h => ?_)
    obtain ⟨r1, rfl, h⟩ := h
    show jRun X T (d + 1) q_X1_servesAll (27, [.ref a0, .ref a1, .int a2], [.int r1], M1) Q
    refine jRun.cut (k := jk_X1_servesAll) rfl 2 (c' := (if ¬ r1 = (-1000000) then 34 else 32, [.ref a0, .ref a1, .int a2], [], M1)) (ob := True ∧ True ∧ True) rfl ⟨trivial, trivial, trivial⟩ ?_
    refine jRun.brn (fun g => ?_) (fun g => ?_)
    · have h := h.1 g
      refine jRun.cut (k := jk_X1_servesAll) rfl 2 (c' := (2, [.ref a0, .ref a1, .int (a2 + 1)], [], M1)) (ob := True ∧ True ∧ True) rfl ⟨trivial, trivial, trivial⟩ ?_
      exact h
    · have h := h.2 g
      exact jRun.ret (k := jk_X1_servesAll) rfl 2 (v := some (.int 0)) (M1 := M1) (ob := True ∧ (0 = 0 ∨ 0 = 1)) rfl ⟨trivial, (Or.inl rfl)⟩ h
theorem w_X1_sumOfBytes {X : jX} {T : jT} {d : Nat} (hI : jInj X T) (a0 : Nat) (a1 : Nat) (M : jMem) (Q : Option Value → jMem → Prop) (h : jRun X T (d + 1) q_X1_sumOfBytes (4, [.ref a0, .ref a1, .int 0, .int 0, .null, .null], [], M) Q) : jOk X T (d + 1) q_X1_sumOfBytes [.ref a0, .ref a1] M Q := by
  refine jOk.intro (ml := 6) (ls := [.ref a0, .ref a1, .null, .null, .null, .null]) (jTl (by decide)) rfl (Nat.le_of_ble_eq_true rfl) rfl hI ?_
  refine jRun.cut (k := jk_X1_sumOfBytes) rfl 4 (c' := (4, [.ref a0, .ref a1, .int 0, .int 0, .null, .null], [], M)) (ob := True ∧ True ∧ True ∧ True ∧ True) rfl ⟨trivial, trivial, trivial, trivial, trivial⟩ ?_
  exact h
theorem w_X1_sumOfBytes_4 {X : jX} {T : jT} {d : Nat} (a0 : Nat) (a1 : Nat) (a2 : Int32) (a3 : Int32) (M : jMem) (Q : Option Value → jMem → Prop) (h : jKd T a0 = 1 ∧ jKd T (jRf T a0 0) = 3 ∧ (((M (jRf T a0 0) 8) ≤ a3 → Q (some (.int a2)) M) ∧ (¬ (M (jRf T a0 0) 8) ≤ a3 → jKd T (jRf T a0 1) = 9 ∧ vp_in (a3 + 1) (jLn T (jRf T a0 1)) ∧ vp_in a3 (jLn T (jRf T a0 1)) ∧ jRun X T (d + 1) q_X1_sumOfBytes (35, [.ref a0, .ref a1, .int a2, .int a3, .int ((M (jRf T a0 1) (a3 + 1).toNatClampNeg) - (M (jRf T a0 1) a3.toNatClampNeg)), .int 0], [], M) Q))) : jRun X T (d + 1) q_X1_sumOfBytes (4, [.ref a0, .ref a1, .int a2, .int a3, .null, .null], [], M) Q := by
  obtain ⟨o1, o2, h⟩ := h
  refine jRun.cut (k := jk_X1_sumOfBytes) rfl 5 (c' := (if (M (jRf T a0 0) 8) ≤ a3 then 65 else 15, [.ref a0, .ref a1, .int a2, .int a3, .null, .null], [], M)) (ob := True ∧ True ∧ jKd T a0 = 1 ∧ jKd T (jRf T a0 0) = 3 ∧ True ∧ True) rfl ⟨trivial, trivial, o1, o2, trivial, trivial⟩ ?_
  refine jRun.br (fun g => ?_) (fun g => ?_)
  · have h := h.1 g
    exact jRun.ret (k := jk_X1_sumOfBytes) rfl 2 (v := some (.int a2)) (M1 := M) (ob := True ∧ True) rfl ⟨trivial, trivial⟩ h
  · have h := h.2 g
    obtain ⟨o3, o4, o5, h⟩ := h
    refine jRun.cut (k := jk_X1_sumOfBytes) rfl 14 (c' := (35, [.ref a0, .ref a1, .int a2, .int a3, .int ((M (jRf T a0 1) (a3 + 1).toNatClampNeg) - (M (jRf T a0 1) a3.toNatClampNeg)), .int 0], [], M)) (ob := True ∧ jKd T a0 = 1 ∧ True ∧ True ∧ True ∧ (jKd T (jRf T a0 1) = 9 ∧ vp_in (a3 + 1) (jLn T (jRf T a0 1))) ∧ True ∧ jKd T a0 = 1 ∧ True ∧ (jKd T (jRf T a0 1) = 9 ∧ vp_in a3 (jLn T (jRf T a0 1))) ∧ True ∧ True ∧ True ∧ True ∧ True) rfl ⟨trivial, o1, trivial, trivial, trivial, ⟨o3, o4⟩, trivial, o1, trivial, ⟨o3, o5⟩, trivial, trivial, trivial, trivial, trivial⟩ ?_
    exact h
theorem w_X1_sumOfBytes_35 {X : jX} {T : jT} {d : Nat} (a0 : Nat) (a1 : Nat) (a2 : Int32) (a3 : Int32) (a4 : Int32) (a5 : Int32) (M : jMem) (Q : Option Value → jMem → Prop) (h : ((a4 ≤ a5 → jRun X T (d + 1) q_X1_sumOfBytes (4, [.ref a0, .ref a1, .int a2, .int (a3 + 1), .null, .null], [], M) Q) ∧ (¬ a4 ≤ a5 → jKd T a0 = 1 ∧ jOk X T d q_X1_byteOf [.ref a0, .ref a1, .int a3, .int a5] M (fun v M1 => ∃ r1, v = some (.int r1) ∧ jRun X T (d + 1) q_X1_sumOfBytes (35, [.ref a0, .ref a1, .int (a2 + r1), .int a3, .int a4, .int (a5 + 1)], [], M1) Q)))) : jRun X T (d + 1) q_X1_sumOfBytes (35, [.ref a0, .ref a1, .int a2, .int a3, .int a4, .int a5], [], M) Q := by
  refine jRun.cut (k := jk_X1_sumOfBytes) rfl 3 (c' := (if a4 ≤ a5 then 59 else 42, [.ref a0, .ref a1, .int a2, .int a3, .int a4, .int a5], [], M)) (ob := True ∧ True ∧ True ∧ True) rfl ⟨trivial, trivial, trivial, trivial⟩ ?_
  refine jRun.br (fun g => ?_) (fun g => ?_)
  · have h := h.1 g
    refine jRun.cut (k := jk_X1_sumOfBytes) rfl 2 (c' := (4, [.ref a0, .ref a1, .int a2, .int (a3 + 1), .int a4, .int a5], [], M)) (ob := True ∧ True ∧ True) rfl ⟨trivial, trivial, trivial⟩ ?_
    exact jRun.weak (by simp [jFew]) h
  · have h := h.2 g
    obtain ⟨o1, h⟩ := h
    refine jRun.call (k := jk_X1_sumOfBytes) rfl 6 (f := q_X1_byteOf) (As := [.ref a0, .ref a1, .int a3, .int a5]) (c1 := (51, [.ref a0, .ref a1, .int a2, .int a3, .int a4, .int a5], [.int a2], M)) (ob := True ∧ True ∧ True ∧ True ∧ True ∧ jKd T a0 = 1) rfl ⟨trivial, trivial, trivial, trivial, trivial, o1⟩ h (fun v M1 h => ?_)
    obtain ⟨r1, rfl, h⟩ := h
    show jRun X T (d + 1) q_X1_sumOfBytes (51, [.ref a0, .ref a1, .int a2, .int a3, .int a4, .int a5], [.int r1, .int a2], M1) Q
    refine jRun.cut (k := jk_X1_sumOfBytes) rfl 4 (c' := (35, [.ref a0, .ref a1, .int (a2 + r1), .int a3, .int a4, .int (a5 + 1)], [], M1)) (ob := True ∧ True ∧ True ∧ True ∧ True) rfl ⟨trivial, trivial, trivial, trivial, trivial⟩ ?_
    exact h
theorem w_X1_itemOfByte {X : jX} {T : jT} {d : Nat} (hI : jInj X T) (a0 : Nat) (a1 : Int32) (M : jMem) (Q : Option Value → jMem → Prop) (h : ((0 ≤ a1 → jRun X T d q_X1_itemOfByte (8, [.ref a0, .int a1, .int 0], [], M) Q) ∧ (¬ 0 ≤ a1 → Q (some (.int (-1))) M))) : jOk X T d q_X1_itemOfByte [.ref a0, .int a1] M Q := by
  refine jOk.intro (ml := 3) (ls := [.ref a0, .int a1, .null]) (jTl (by decide)) rfl (Nat.le_of_ble_eq_true rfl) rfl hI ?_
  refine jRun.cut (k := jk_X1_itemOfByte) rfl 2 (c' := (if 0 ≤ a1 then 6 else 4, [.ref a0, .int a1, .null], [], M)) (ob := True ∧ True ∧ True) rfl ⟨trivial, trivial, trivial⟩ ?_
  refine jRun.br (fun g => ?_) (fun g => ?_)
  · have h := h.1 g
    refine jRun.cut (k := jk_X1_itemOfByte) rfl 2 (c' := (8, [.ref a0, .int a1, .int 0], [], M)) (ob := True ∧ True ∧ True) rfl ⟨trivial, trivial, trivial⟩ ?_
    exact h
  · have h := h.2 g
    exact jRun.ret (k := jk_X1_itemOfByte) rfl 2 (v := some (.int (-1))) (M1 := M) (ob := True ∧ True) rfl ⟨trivial, trivial⟩ h
theorem w_X1_itemOfByte_8 {X : jX} {T : jT} {d : Nat} (a0 : Nat) (a1 : Int32) (a2 : Int32) (M : jMem) (Q : Option Value → jMem → Prop) (h : jKd T a0 = 1 ∧ jKd T (jRf T a0 0) = 3 ∧ (((M (jRf T a0 0) 8) ≤ a2 → Q (some (.int (-1))) M) ∧ (¬ (M (jRf T a0 0) 8) ≤ a2 → jKd T (jRf T a0 1) = 9 ∧ vp_in (a2 + 1) (jLn T (jRf T a0 1)) ∧ (((M (jRf T a0 1) (a2 + 1).toNatClampNeg) ≤ a1 → jRun X T d q_X1_itemOfByte (8, [.ref a0, .int a1, .int (a2 + 1)], [], M) Q) ∧ (¬ (M (jRf T a0 1) (a2 + 1).toNatClampNeg) ≤ a1 → Q (some (.int a2)) M))))) : jRun X T d q_X1_itemOfByte (8, [.ref a0, .int a1, .int a2], [], M) Q := by
  obtain ⟨o1, o2, h⟩ := h
  refine jRun.cut (k := jk_X1_itemOfByte) rfl 5 (c' := (if (M (jRf T a0 0) 8) ≤ a2 then 39 else 19, [.ref a0, .int a1, .int a2], [], M)) (ob := True ∧ True ∧ jKd T a0 = 1 ∧ jKd T (jRf T a0 0) = 3 ∧ True ∧ True) rfl ⟨trivial, trivial, o1, o2, trivial, trivial⟩ ?_
  refine jRun.br (fun g => ?_) (fun g => ?_)
  · have h := h.1 g
    exact jRun.ret (k := jk_X1_itemOfByte) rfl 2 (v := some (.int (-1))) (M1 := M) (ob := True ∧ True) rfl ⟨trivial, trivial⟩ h
  · have h := h.2 g
    obtain ⟨o3, o4, h⟩ := h
    refine jRun.cut (k := jk_X1_itemOfByte) rfl 8 (c' := (if (M (jRf T a0 1) (a2 + 1).toNatClampNeg) ≤ a1 then 33 else 31, [.ref a0, .int a1, .int a2], [], M)) (ob := True ∧ True ∧ jKd T a0 = 1 ∧ True ∧ True ∧ True ∧ (jKd T (jRf T a0 1) = 9 ∧ vp_in (a2 + 1) (jLn T (jRf T a0 1))) ∧ True ∧ True) rfl ⟨trivial, trivial, o1, trivial, trivial, trivial, ⟨o3, o4⟩, trivial, trivial⟩ ?_
    refine jRun.br (fun g => ?_) (fun g => ?_)
    · have h := h.1 g
      refine jRun.cut (k := jk_X1_itemOfByte) rfl 2 (c' := (8, [.ref a0, .int a1, .int (a2 + 1)], [], M)) (ob := True ∧ True ∧ True) rfl ⟨trivial, trivial, trivial⟩ ?_
      exact h
    · have h := h.2 g
      exact jRun.ret (k := jk_X1_itemOfByte) rfl 2 (v := some (.int a2)) (M1 := M) (ob := True ∧ True) rfl ⟨trivial, trivial⟩ h
theorem w_X1_byteOf {X : jX} {T : jT} {d : Nat} (hI : jInj X T) (a0 : Nat) (a1 : Nat) (a2 : Int32) (a3 : Int32) (M : jMem) (Q : Option Value → jMem → Prop) (h : jKd T a0 = 1 ∧ jKd T (jRf T a0 0) = 3 ∧ jKd T (jRf T (jRf T a0 0) 0) = 9 ∧ vp_in a2 (jLn T (jRf T (jRf T a0 0) 0)) ∧ (((M (jRf T (jRf T a0 0) 0) a2.toNatClampNeg) = 0 → Q (some (.int 16)) M) ∧ (¬ (M (jRf T (jRf T a0 0) 0) a2.toNatClampNeg) = 0 → (((M (jRf T (jRf T a0 0) 0) a2.toNatClampNeg) = 1 → Q (some (.int 0)) M) ∧ (¬ (M (jRf T (jRf T a0 0) 0) a2.toNatClampNeg) = 1 → (((M (jRf T (jRf T a0 0) 0) a2.toNatClampNeg) = 2 → ((¬ a3 = 0 → jOk X T d q_X1_farOf [.ref a0, .int a2] M (fun v M1 => ∃ r1, v = some (.int r1) ∧ jOk X T d q_X1_byteOfNumber [.int r1, .int (a3 - 1)] M1 (fun v M2 => ∃ r2, v = some (.int r2) ∧ Q (some (.int r2)) M2))) ∧ (a3 = 0 → jKd T (jRf T (jRf T a0 0) 2) = 9 ∧ vp_in a2 (jLn T (jRf T (jRf T a0 0) 2)) ∧ jOk X T d q_X1_isLong [.ref a0, .int (M (jRf T (jRf T a0 0) 2) a2.toNatClampNeg)] M (fun v M3 => ∃ r3, v = some (.int r3) ∧ ((r3 = 0 → Q (some (.int 1)) M3) ∧ (¬ r3 = 0 → Q (some (.int 2)) M3)))))) ∧ (¬ (M (jRf T (jRf T a0 0) 0) a2.toNatClampNeg) = 2 → (((M (jRf T (jRf T a0 0) 0) a2.toNatClampNeg) = 3 → Q (some (.int 0)) M) ∧ (¬ (M (jRf T (jRf T a0 0) 0) a2.toNatClampNeg) = 3 → (((M (jRf T (jRf T a0 0) 0) a2.toNatClampNeg) = 4 → ((¬ a3 = 0 → jOk X T d q_X1_farServed [.ref a0, .ref a1, .int a2] M (fun v M4 => ∃ r4, v = some (.int r4) ∧ ((¬ r4 = (-1000000) → jOk X T d q_X1_byteOfNumber [.int r4, .int 0] M4 (fun v M5 => ∃ r5, v = some (.int r5) ∧ Q (some (.int r5)) M5)) ∧ (r4 = (-1000000) → Q (some (.int 0)) M4)))) ∧ (a3 = 0 → Q (some (.int 3)) M))) ∧ (¬ (M (jRf T (jRf T a0 0) 0) a2.toNatClampNeg) = 4 → (((M (jRf T (jRf T a0 0) 0) a2.toNatClampNeg) = 5 → ((¬ (a3 - a3 / 5 * 5) = 0 → jOk X T d q_X1_farOfIsland [.ref a0, .ref a1, .int a2, .int (a3 / 5)] M (fun v M6 => ∃ r6, v = some (.int r6) ∧ jOk X T d q_X1_byteOfNumber [.int r6, .int ((a3 - a3 / 5 * 5) - 1)] M6 (fun v M7 => ∃ r7, v = some (.int r7) ∧ Q (some (.int r7)) M7))) ∧ ((a3 - a3 / 5 * 5) = 0 → Q (some (.int 4)) M))) ∧ (¬ (M (jRf T (jRf T a0 0) 0) a2.toNatClampNeg) = 5 → Q (some (.int 0)) M))))))))))))) : jOk X T (d + 1) q_X1_byteOf [.ref a0, .ref a1, .int a2, .int a3] M Q := by
  refine jOk.intro (ml := 5) (ls := [.ref a0, .ref a1, .int a2, .int a3, .null]) (jTl (by decide)) rfl (Nat.le_of_ble_eq_true rfl) rfl hI ?_
  obtain ⟨o1, o2, o3, o4, h⟩ := h
  refine jRun.cut (k := jk_X1_byteOf) rfl 6 (c' := (if (M (jRf T (jRf T a0 0) 0) a2.toNatClampNeg) = 0 then 48 else if (M (jRf T (jRf T a0 0) 0) a2.toNatClampNeg) = 1 then 147 else if (M (jRf T (jRf T a0 0) 0) a2.toNatClampNeg) = 2 then 51 else if (M (jRf T (jRf T a0 0) 0) a2.toNatClampNeg) = 3 then 147 else if (M (jRf T (jRf T a0 0) 0) a2.toNatClampNeg) = 4 then 89 else if (M (jRf T (jRf T a0 0) 0) a2.toNatClampNeg) = 5 then 121 else 147, [.ref a0, .ref a1, .int a2, .int a3, .null], [], M)) (ob := True ∧ jKd T a0 = 1 ∧ jKd T (jRf T a0 0) = 3 ∧ True ∧ (jKd T (jRf T (jRf T a0 0) 0) = 9 ∧ vp_in a2 (jLn T (jRf T (jRf T a0 0) 0))) ∧ True ∧ True) rfl ⟨trivial, o1, o2, trivial, ⟨o3, o4⟩, trivial, trivial⟩ ?_
  refine jRun.br (fun g => ?_) (fun g => ?_)
  · have h := h.1 g
    exact jRun.ret (k := jk_X1_byteOf) rfl 2 (v := some (.int 16)) (M1 := M) (ob := True ∧ True) rfl ⟨trivial, trivial⟩ h
  · have h := h.2 g
    refine jRun.br (fun g => ?_) (fun g => ?_)
    · have h := h.1 g
      exact jRun.ret (k := jk_X1_byteOf) rfl 2 (v := some (.int 0)) (M1 := M) (ob := True ∧ True) rfl ⟨trivial, trivial⟩ h
    · have h := h.2 g
      refine jRun.br (fun g => ?_) (fun g => ?_)
      · have h := h.1 g
        refine jRun.cut (k := jk_X1_byteOf) rfl 2 (c' := (if ¬ a3 = 0 then 77 else 55, [.ref a0, .ref a1, .int a2, .int a3, .null], [], M)) (ob := True ∧ True ∧ True) rfl ⟨trivial, trivial, trivial⟩ ?_
        refine jRun.brn (fun g => ?_) (fun g => ?_)
        · have h := h.1 g
          refine jRun.call (k := jk_X1_byteOf) rfl 3 (f := q_X1_farOf) (As := [.ref a0, .int a2]) (c1 := (82, [.ref a0, .ref a1, .int a2, .int a3, .null], [], M)) (ob := True ∧ True ∧ jKd T a0 = 1) rfl ⟨trivial, trivial, o1⟩ h (fun v M1 h => ?_)
          obtain ⟨r1, rfl, h⟩ := h
          show jRun X T (d + 1) q_X1_byteOf (82, [.ref a0, .ref a1, .int a2, .int a3, .null], [.int r1], M1) Q
          refine jRun.call (k := jk_X1_byteOf) rfl 4 (f := q_X1_byteOfNumber) (As := [.int r1, .int (a3 - 1)]) (c1 := (88, [.ref a0, .ref a1, .int a2, .int a3, .null], [], M1)) (ob := True ∧ True ∧ True ∧ True) rfl ⟨trivial, trivial, trivial, trivial⟩ h (fun v M2 h => ?_)
          obtain ⟨r2, rfl, h⟩ := h
          show jRun X T (d + 1) q_X1_byteOf (88, [.ref a0, .ref a1, .int a2, .int a3, .null], [.int r2], M2) Q
          exact jRun.ret (k := jk_X1_byteOf) rfl 1 (v := some (.int r2)) (M1 := M2) (ob := True) rfl trivial h
        · have h := h.2 g
          obtain ⟨o5, o6, h⟩ := h
          refine jRun.call (k := jk_X1_byteOf) rfl 7 (f := q_X1_isLong) (As := [.ref a0, .int (M (jRf T (jRf T a0 0) 2) a2.toNatClampNeg)]) (c1 := (68, [.ref a0, .ref a1, .int a2, .int a3, .null], [], M)) (ob := True ∧ True ∧ jKd T a0 = 1 ∧ jKd T (jRf T a0 0) = 3 ∧ True ∧ (jKd T (jRf T (jRf T a0 0) 2) = 9 ∧ vp_in a2 (jLn T (jRf T (jRf T a0 0) 2))) ∧ jKd T a0 = 1) rfl ⟨trivial, trivial, o1, o2, trivial, ⟨o5, o6⟩, o1⟩ h (fun v M3 h => ?_)
          obtain ⟨r3, rfl, h⟩ := h
          show jRun X T (d + 1) q_X1_byteOf (68, [.ref a0, .ref a1, .int a2, .int a3, .null], [.int r3], M3) Q
          refine jRun.cut (k := jk_X1_byteOf) rfl 1 (c' := (if r3 = 0 then 75 else 71, [.ref a0, .ref a1, .int a2, .int a3, .null], [], M3)) (ob := True ∧ True) rfl ⟨trivial, trivial⟩ ?_
          refine jRun.br (fun g => ?_) (fun g => ?_)
          · have h := h.1 g
            exact jRun.ret (k := jk_X1_byteOf) rfl 2 (v := some (.int 1)) (M1 := M3) (ob := True ∧ True) rfl ⟨trivial, trivial⟩ h
          · have h := h.2 g
            exact jRun.ret (k := jk_X1_byteOf) rfl 3 (v := some (.int 2)) (M1 := M3) (ob := True ∧ True ∧ True) rfl ⟨trivial, trivial, trivial⟩ h
      · have h := h.2 g
        refine jRun.br (fun g => ?_) (fun g => ?_)
        · have h := h.1 g
          exact jRun.ret (k := jk_X1_byteOf) rfl 2 (v := some (.int 0)) (M1 := M) (ob := True ∧ True) rfl ⟨trivial, trivial⟩ h
        · have h := h.2 g
          refine jRun.br (fun g => ?_) (fun g => ?_)
          · have h := h.1 g
            refine jRun.cut (k := jk_X1_byteOf) rfl 2 (c' := (if ¬ a3 = 0 then 95 else 93, [.ref a0, .ref a1, .int a2, .int a3, .null], [], M)) (ob := True ∧ True ∧ True) rfl ⟨trivial, trivial, trivial⟩ ?_
            refine jRun.brn (fun g => ?_) (fun g => ?_)
            · have h := h.1 g
              refine jRun.call (k := jk_X1_byteOf) rfl 4 (f := q_X1_farServed) (As := [.ref a0, .ref a1, .int a2]) (c1 := (101, [.ref a0, .ref a1, .int a2, .int a3, .null], [], M)) (ob := True ∧ True ∧ True ∧ jKd T a0 = 1) rfl ⟨trivial, trivial, trivial, o1⟩ h (fun v M4 h => ?_)
              obtain ⟨r4, rfl, h⟩ := h
              show jRun X T (d + 1) q_X1_byteOf (101, [.ref a0, .ref a1, .int a2, .int a3, .null], [.int r4], M4) Q
              refine jRun.cut (k := jk_X1_byteOf) rfl 4 (c' := (if ¬ r4 = (-1000000) then 114 else 110, [.ref a0, .ref a1, .int a2, .int a3, .int r4], [], M4)) (ob := True ∧ True ∧ True ∧ True ∧ True) rfl ⟨trivial, trivial, trivial, trivial, trivial⟩ ?_
              refine jRun.brn (fun g => ?_) (fun g => ?_)
              · have h := h.1 g
                refine jRun.call (k := jk_X1_byteOf) rfl 3 (f := q_X1_byteOfNumber) (As := [.int r4, .int 0]) (c1 := (120, [.ref a0, .ref a1, .int a2, .int a3, .int r4], [], M4)) (ob := True ∧ True ∧ True) rfl ⟨trivial, trivial, trivial⟩ h (fun v M5 h => ?_)
                obtain ⟨r5, rfl, h⟩ := h
                show jRun X T (d + 1) q_X1_byteOf (120, [.ref a0, .ref a1, .int a2, .int a3, .int r4], [.int r5], M5) Q
                exact jRun.ret (k := jk_X1_byteOf) rfl 1 (v := some (.int r5)) (M1 := M5) (ob := True) rfl trivial h
              · have h := h.2 g
                exact jRun.ret (k := jk_X1_byteOf) rfl 3 (v := some (.int 0)) (M1 := M4) (ob := True ∧ True ∧ True) rfl ⟨trivial, trivial, trivial⟩ h
            · have h := h.2 g
              exact jRun.ret (k := jk_X1_byteOf) rfl 2 (v := some (.int 3)) (M1 := M) (ob := True ∧ True) rfl ⟨trivial, trivial⟩ h
          · have h := h.2 g
            refine jRun.br (fun g => ?_) (fun g => ?_)
            · have h := h.1 g
              refine jRun.cut (k := jk_X1_byteOf) rfl 4 (c' := (if ¬ (a3 - a3 / 5 * 5) = 0 then 129 else 127, [.ref a0, .ref a1, .int a2, .int a3, .null], [], M)) (ob := True ∧ True ∧ ¬ 5 = 0 ∧ True ∧ True) rfl ⟨trivial, trivial, (by decide), trivial, trivial⟩ ?_
              refine jRun.brn (fun g => ?_) (fun g => ?_)
              · have h := h.1 g
                refine jRun.call (k := jk_X1_byteOf) rfl 7 (f := q_X1_farOfIsland) (As := [.ref a0, .ref a1, .int a2, .int (a3 / 5)]) (c1 := (138, [.ref a0, .ref a1, .int a2, .int a3, .null], [], M)) (ob := True ∧ True ∧ True ∧ True ∧ True ∧ ¬ 5 = 0 ∧ jKd T a0 = 1) rfl ⟨trivial, trivial, trivial, trivial, trivial, (by decide), o1⟩ h (fun v M6 h => ?_)
                obtain ⟨r6, rfl, h⟩ := h
                show jRun X T (d + 1) q_X1_byteOf (138, [.ref a0, .ref a1, .int a2, .int a3, .null], [.int r6], M6) Q
                refine jRun.call (k := jk_X1_byteOf) rfl 6 (f := q_X1_byteOfNumber) (As := [.int r6, .int ((a3 - a3 / 5 * 5) - 1)]) (c1 := (146, [.ref a0, .ref a1, .int a2, .int a3, .null], [], M6)) (ob := True ∧ True ∧ ¬ 5 = 0 ∧ True ∧ True ∧ True) rfl ⟨trivial, trivial, (by decide), trivial, trivial, trivial⟩ h (fun v M7 h => ?_)
                obtain ⟨r7, rfl, h⟩ := h
                show jRun X T (d + 1) q_X1_byteOf (146, [.ref a0, .ref a1, .int a2, .int a3, .null], [.int r7], M7) Q
                exact jRun.ret (k := jk_X1_byteOf) rfl 1 (v := some (.int r7)) (M1 := M7) (ob := True) rfl trivial h
              · have h := h.2 g
                exact jRun.ret (k := jk_X1_byteOf) rfl 2 (v := some (.int 4)) (M1 := M) (ob := True ∧ True) rfl ⟨trivial, trivial⟩ h
            · have h := h.2 g
              exact jRun.ret (k := jk_X1_byteOf) rfl 2 (v := some (.int 0)) (M1 := M) (ob := True ∧ True) rfl ⟨trivial, trivial⟩ h
theorem w_X1_byteOfNumber {X : jX} {T : jT} {d : Nat} (hI : jInj X T) (a0 : Int32) (a1 : Int32) (M : jMem) (Q : Option Value → jMem → Prop) (h : Q (some (.int ((a0 >>> ((8 * a1) &&& 31)) &&& 255))) M) : jOk X T d q_X1_byteOfNumber [.int a0, .int a1] M Q := by
  refine jOk.intro (ml := 2) (ls := [.int a0, .int a1]) (jTl (by decide)) rfl (Nat.le_of_ble_eq_true rfl) rfl hI ?_
  exact jRun.ret (k := jk_X1_byteOfNumber) rfl 8 (v := some (.int ((a0 >>> ((8 * a1) &&& 31)) &&& 255))) (M1 := M) (ob := True ∧ True ∧ True ∧ True ∧ True ∧ True ∧ True ∧ True) rfl ⟨trivial, trivial, trivial, trivial, trivial, trivial, trivial, trivial⟩ h
theorem w_X1_lay {X : jX} {T : jT} {d : Nat} (hI : jInj X T) (a0 : Nat) (a1 : Nat) (a2 : Int32) (M : jMem) (Q : Option Value → jMem → Prop) (h : jKd T a0 = 1 ∧ (∀ M1, M1 = jP M a0 2 a2 → jRun X T (d + 1) q_X1_lay (10, [.ref a0, .ref a1, .int a2, .int 0, .int 0], [], M1) Q)) : jOk X T (d + 1) q_X1_lay [.ref a0, .ref a1, .int a2] M Q := by
  refine jOk.intro (ml := 5) (ls := [.ref a0, .ref a1, .int a2, .null, .null]) (jTl (by decide)) rfl (Nat.le_of_ble_eq_true rfl) rfl hI ?_
  obtain ⟨o1, h⟩ := h
  refine jRun.cut (k := jk_X1_lay) rfl 3 (c' := (5, [.ref a0, .ref a1, .int a2, .null, .null], [], (jP M a0 2 a2))) (ob := True ∧ True ∧ jKd T a0 = 1 ∧ True) rfl ⟨trivial, trivial, o1, trivial⟩ ?_
  refine jRun.nm (fun M1 eM1 => ?_)
  have h := h M1 eM1
  refine jRun.cut (k := jk_X1_lay) rfl 4 (c' := (10, [.ref a0, .ref a1, .int a2, .int 0, .int 0], [], M1)) (ob := True ∧ True ∧ True ∧ True ∧ True) rfl ⟨trivial, trivial, trivial, trivial, trivial⟩ ?_
  exact h
theorem w_X1_lay_10 {X : jX} {T : jT} {d : Nat} (a0 : Nat) (a1 : Nat) (a2 : Int32) (a3 : Int32) (a4 : Int32) (M : jMem) (Q : Option Value → jMem → Prop) (h : jKd T a0 = 1 ∧ jKd T (jRf T a0 0) = 3 ∧ (((M (jRf T a0 0) 8) ≤ a4 → jKd T (jRf T a0 1) = 9 ∧ vp_in (M (jRf T a0 0) 8) (jLn T (jRf T a0 1)) ∧ (∀ M1, M1 = jP M (jRf T a0 1) ((M (jRf T a0 0) 8).toNatClampNeg) a3 → Q none M1)) ∧ (¬ (M (jRf T a0 0) 8) ≤ a4 → jKd T (jRf T a0 1) = 9 ∧ vp_in a4 (jLn T (jRf T a0 1)) ∧ (∀ M2, M2 = jP M (jRf T a0 1) a4.toNatClampNeg a3 → jOk X T d q_X1_bytesOf [.ref a0, .ref a1, .int a4, .int a3] M2 (fun v M3 => ∃ r1, v = some (.int r1) ∧ jRun X T (d + 1) q_X1_lay (10, [.ref a0, .ref a1, .int a2, .int (a3 + r1), .int (a4 + 1)], [], M3) Q))))) : jRun X T (d + 1) q_X1_lay (10, [.ref a0, .ref a1, .int a2, .int a3, .int a4], [], M) Q := by
  obtain ⟨o1, o2, h⟩ := h
  refine jRun.cut (k := jk_X1_lay) rfl 5 (c' := (if (M (jRf T a0 0) 8) ≤ a4 then 47 else 22, [.ref a0, .ref a1, .int a2, .int a3, .int a4], [], M)) (ob := True ∧ True ∧ jKd T a0 = 1 ∧ jKd T (jRf T a0 0) = 3 ∧ True ∧ True) rfl ⟨trivial, trivial, o1, o2, trivial, trivial⟩ ?_
  refine jRun.br (fun g => ?_) (fun g => ?_)
  · have h := h.1 g
    obtain ⟨o3, o4, h⟩ := h
    refine jRun.cut (k := jk_X1_lay) rfl 7 (c' := (60, [.ref a0, .ref a1, .int a2, .int a3, .int a4], [], (jP M (jRf T a0 1) ((M (jRf T a0 0) 8).toNatClampNeg) a3))) (ob := True ∧ jKd T a0 = 1 ∧ True ∧ jKd T a0 = 1 ∧ jKd T (jRf T a0 0) = 3 ∧ True ∧ (jKd T (jRf T a0 1) = 9 ∧ vp_in (M (jRf T a0 0) 8) (jLn T (jRf T a0 1))) ∧ True) rfl ⟨trivial, o1, trivial, o1, o2, trivial, ⟨o3, o4⟩, trivial⟩ ?_
    refine jRun.nm (fun M1 eM1 => ?_)
    have h := h M1 eM1
    exact jRun.ret (k := jk_X1_lay) rfl 1 (v := none) (M1 := M1) (ob := True) rfl trivial h
  · have h := h.2 g
    obtain ⟨o5, o6, h⟩ := h
    refine jRun.cut (k := jk_X1_lay) rfl 5 (c' := (30, [.ref a0, .ref a1, .int a2, .int a3, .int a4], [], (jP M (jRf T a0 1) a4.toNatClampNeg a3))) (ob := True ∧ jKd T a0 = 1 ∧ True ∧ True ∧ (jKd T (jRf T a0 1) = 9 ∧ vp_in a4 (jLn T (jRf T a0 1))) ∧ True) rfl ⟨trivial, o1, trivial, trivial, ⟨o5, o6⟩, trivial⟩ ?_
    refine jRun.nm (fun M2 eM2 => ?_)
    have h := h M2 eM2
    refine jRun.call (k := jk_X1_lay) rfl 6 (f := q_X1_bytesOf) (As := [.ref a0, .ref a1, .int a4, .int a3]) (c1 := (39, [.ref a0, .ref a1, .int a2, .int a3, .int a4], [.int a3], M2)) (ob := True ∧ True ∧ True ∧ True ∧ True ∧ jKd T a0 = 1) rfl ⟨trivial, trivial, trivial, trivial, trivial, o1⟩ h (fun v M3 h => ?_)
    obtain ⟨r1, rfl, h⟩ := h
    show jRun X T (d + 1) q_X1_lay (39, [.ref a0, .ref a1, .int a2, .int a3, .int a4], [.int r1, .int a3], M3) Q
    refine jRun.cut (k := jk_X1_lay) rfl 4 (c' := (10, [.ref a0, .ref a1, .int a2, .int (a3 + r1), .int (a4 + 1)], [], M3)) (ob := True ∧ True ∧ True ∧ True ∧ True) rfl ⟨trivial, trivial, trivial, trivial, trivial⟩ ?_
    exact h
theorem w_X1_bytesOf {X : jX} {T : jT} {d : Nat} (hI : jInj X T) (a0 : Nat) (a1 : Nat) (a2 : Int32) (a3 : Int32) (M : jMem) (Q : Option Value → jMem → Prop) (h : jKd T a0 = 1 ∧ jKd T (jRf T a0 0) = 3 ∧ jKd T (jRf T (jRf T a0 0) 0) = 9 ∧ vp_in a2 (jLn T (jRf T (jRf T a0 0) 0)) ∧ (((M (jRf T (jRf T a0 0) 0) a2.toNatClampNeg) = 0 → jKd T a1 = 5 ∧ jKd T (jRf T a1 0) = 9 ∧ vp_in a2 (jLn T (jRf T a1 0)) ∧ Q (some (.int (M (jRf T a1 0) a2.toNatClampNeg))) M) ∧ (¬ (M (jRf T (jRf T a0 0) 0) a2.toNatClampNeg) = 0 → (((M (jRf T (jRf T a0 0) 0) a2.toNatClampNeg) = 1 → Q (some (.int 0)) M) ∧ (¬ (M (jRf T (jRf T a0 0) 0) a2.toNatClampNeg) = 1 → (((M (jRf T (jRf T a0 0) 0) a2.toNatClampNeg) = 2 → jKd T (jRf T (jRf T a0 0) 2) = 9 ∧ vp_in a2 (jLn T (jRf T (jRf T a0 0) 2)) ∧ jOk X T d q_X1_isLong [.ref a0, .int (M (jRf T (jRf T a0 0) 2) a2.toNatClampNeg)] M (fun v M1 => ∃ r1, v = some (.int r1) ∧ ((r1 = 0 → Q (some (.int 2)) M1) ∧ (¬ r1 = 0 → Q (some (.int 5)) M1)))) ∧ (¬ (M (jRf T (jRf T a0 0) 0) a2.toNatClampNeg) = 2 → (((M (jRf T (jRf T a0 0) 0) a2.toNatClampNeg) = 3 → jKd T (jRf T (jRf T a0 0) 1) = 9 ∧ vp_in a2 (jLn T (jRf T (jRf T a0 0) 1)) ∧ Q (some (.int ((-a3) &&& ((M (jRf T (jRf T a0 0) 1) a2.toNatClampNeg) - 1)))) M) ∧ (¬ (M (jRf T (jRf T a0 0) 0) a2.toNatClampNeg) = 3 → (((M (jRf T (jRf T a0 0) 0) a2.toNatClampNeg) = 4 → Q (some (.int 2)) M) ∧ (¬ (M (jRf T (jRf T a0 0) 0) a2.toNatClampNeg) = 4 → (((M (jRf T (jRf T a0 0) 0) a2.toNatClampNeg) = 5 → jKd T (jRf T (jRf T a0 0) 2) = 9 ∧ vp_in a2 (jLn T (jRf T (jRf T a0 0) 2)) ∧ jKd T a1 = 5 ∧ jOk X T d q_X5_labelsIn [.ref a1, .int (M (jRf T (jRf T a0 0) 2) a2.toNatClampNeg)] M (fun v M2 => ∃ r2, v = some (.int r2) ∧ jOk X T d q_J6_bitCount_0f7a4 [.int r2] M2 (fun v M3 => ∃ r3, v = some (.int r3) ∧ Q (some (.int (5 * r3))) M3))) ∧ (¬ (M (jRf T (jRf T a0 0) 0) a2.toNatClampNeg) = 5 → Q (some (.int 0)) M))))))))))))) : jOk X T (d + 1) q_X1_bytesOf [.ref a0, .ref a1, .int a2, .int a3] M Q := by
  refine jOk.intro (ml := 4) (ls := [.ref a0, .ref a1, .int a2, .int a3]) (jTl (by decide)) rfl (Nat.le_of_ble_eq_true rfl) rfl hI ?_
  obtain ⟨o1, o2, o3, o4, h⟩ := h
  refine jRun.cut (k := jk_X1_bytesOf) rfl 6 (c' := (if (M (jRf T (jRf T a0 0) 0) a2.toNatClampNeg) = 0 then 48 else if (M (jRf T (jRf T a0 0) 0) a2.toNatClampNeg) = 1 then 113 else if (M (jRf T (jRf T a0 0) 0) a2.toNatClampNeg) = 2 then 55 else if (M (jRf T (jRf T a0 0) 0) a2.toNatClampNeg) = 3 then 77 else if (M (jRf T (jRf T a0 0) 0) a2.toNatClampNeg) = 4 then 92 else if (M (jRf T (jRf T a0 0) 0) a2.toNatClampNeg) = 5 then 94 else 113, [.ref a0, .ref a1, .int a2, .int a3], [], M)) (ob := True ∧ jKd T a0 = 1 ∧ jKd T (jRf T a0 0) = 3 ∧ True ∧ (jKd T (jRf T (jRf T a0 0) 0) = 9 ∧ vp_in a2 (jLn T (jRf T (jRf T a0 0) 0))) ∧ True ∧ True) rfl ⟨trivial, o1, o2, trivial, ⟨o3, o4⟩, trivial, trivial⟩ ?_
  refine jRun.br (fun g => ?_) (fun g => ?_)
  · have h := h.1 g
    obtain ⟨o5, o6, o7, h⟩ := h
    exact jRun.ret (k := jk_X1_bytesOf) rfl 5 (v := some (.int (M (jRf T a1 0) a2.toNatClampNeg))) (M1 := M) (ob := True ∧ jKd T a1 = 5 ∧ True ∧ (jKd T (jRf T a1 0) = 9 ∧ vp_in a2 (jLn T (jRf T a1 0))) ∧ True) rfl ⟨trivial, o5, trivial, ⟨o6, o7⟩, trivial⟩ h
  · have h := h.2 g
    refine jRun.br (fun g => ?_) (fun g => ?_)
    · have h := h.1 g
      exact jRun.ret (k := jk_X1_bytesOf) rfl 2 (v := some (.int 0)) (M1 := M) (ob := True ∧ True) rfl ⟨trivial, trivial⟩ h
    · have h := h.2 g
      refine jRun.br (fun g => ?_) (fun g => ?_)
      · have h := h.1 g
        obtain ⟨o8, o9, h⟩ := h
        refine jRun.call (k := jk_X1_bytesOf) rfl 7 (f := q_X1_isLong) (As := [.ref a0, .int (M (jRf T (jRf T a0 0) 2) a2.toNatClampNeg)]) (c1 := (68, [.ref a0, .ref a1, .int a2, .int a3], [], M)) (ob := True ∧ True ∧ jKd T a0 = 1 ∧ jKd T (jRf T a0 0) = 3 ∧ True ∧ (jKd T (jRf T (jRf T a0 0) 2) = 9 ∧ vp_in a2 (jLn T (jRf T (jRf T a0 0) 2))) ∧ jKd T a0 = 1) rfl ⟨trivial, trivial, o1, o2, trivial, ⟨o8, o9⟩, o1⟩ h (fun v M1 h => ?_)
        obtain ⟨r1, rfl, h⟩ := h
        show jRun X T (d + 1) q_X1_bytesOf (68, [.ref a0, .ref a1, .int a2, .int a3], [.int r1], M1) Q
        refine jRun.cut (k := jk_X1_bytesOf) rfl 1 (c' := (if r1 = 0 then 75 else 71, [.ref a0, .ref a1, .int a2, .int a3], [], M1)) (ob := True ∧ True) rfl ⟨trivial, trivial⟩ ?_
        refine jRun.br (fun g => ?_) (fun g => ?_)
        · have h := h.1 g
          exact jRun.ret (k := jk_X1_bytesOf) rfl 2 (v := some (.int 2)) (M1 := M1) (ob := True ∧ True) rfl ⟨trivial, trivial⟩ h
        · have h := h.2 g
          exact jRun.ret (k := jk_X1_bytesOf) rfl 3 (v := some (.int 5)) (M1 := M1) (ob := True ∧ True ∧ True) rfl ⟨trivial, trivial, trivial⟩ h
      · have h := h.2 g
        refine jRun.br (fun g => ?_) (fun g => ?_)
        · have h := h.1 g
          obtain ⟨o10, o11, h⟩ := h
          exact jRun.ret (k := jk_X1_bytesOf) rfl 11 (v := some (.int ((-a3) &&& ((M (jRf T (jRf T a0 0) 1) a2.toNatClampNeg) - 1)))) (M1 := M) (ob := True ∧ True ∧ True ∧ jKd T a0 = 1 ∧ jKd T (jRf T a0 0) = 3 ∧ True ∧ (jKd T (jRf T (jRf T a0 0) 1) = 9 ∧ vp_in a2 (jLn T (jRf T (jRf T a0 0) 1))) ∧ True ∧ True ∧ True ∧ True) rfl ⟨trivial, trivial, trivial, o1, o2, trivial, ⟨o10, o11⟩, trivial, trivial, trivial, trivial⟩ h
        · have h := h.2 g
          refine jRun.br (fun g => ?_) (fun g => ?_)
          · have h := h.1 g
            exact jRun.ret (k := jk_X1_bytesOf) rfl 2 (v := some (.int 2)) (M1 := M) (ob := True ∧ True) rfl ⟨trivial, trivial⟩ h
          · have h := h.2 g
            refine jRun.br (fun g => ?_) (fun g => ?_)
            · have h := h.1 g
              obtain ⟨o12, o13, o14, h⟩ := h
              refine jRun.call (k := jk_X1_bytesOf) rfl 8 (f := q_X5_labelsIn) (As := [.ref a1, .int (M (jRf T (jRf T a0 0) 2) a2.toNatClampNeg)]) (c1 := (108, [.ref a0, .ref a1, .int a2, .int a3], [.int 5], M)) (ob := True ∧ True ∧ True ∧ jKd T a0 = 1 ∧ jKd T (jRf T a0 0) = 3 ∧ True ∧ (jKd T (jRf T (jRf T a0 0) 2) = 9 ∧ vp_in a2 (jLn T (jRf T (jRf T a0 0) 2))) ∧ jKd T a1 = 5) rfl ⟨trivial, trivial, trivial, o1, o2, trivial, ⟨o12, o13⟩, o14⟩ h (fun v M2 h => ?_)
              obtain ⟨r2, rfl, h⟩ := h
              show jRun X T (d + 1) q_X1_bytesOf (108, [.ref a0, .ref a1, .int a2, .int a3], [.int r2, .int 5], M2) Q
              refine jRun.call (k := jk_X1_bytesOf) rfl 1 (f := q_J6_bitCount_0f7a4) (As := [.int r2]) (c1 := (111, [.ref a0, .ref a1, .int a2, .int a3], [.int 5], M2)) (ob := True) rfl trivial h (fun v M3 h => ?_)
              obtain ⟨r3, rfl, h⟩ := h
              show jRun X T (d + 1) q_X1_bytesOf (111, [.ref a0, .ref a1, .int a2, .int a3], [.int r3, .int 5], M3) Q
              exact jRun.ret (k := jk_X1_bytesOf) rfl 2 (v := some (.int (5 * r3))) (M1 := M3) (ob := True ∧ True) rfl ⟨trivial, trivial⟩ h
            · have h := h.2 g
              exact jRun.ret (k := jk_X1_bytesOf) rfl 2 (v := some (.int 0)) (M1 := M) (ob := True ∧ True) rfl ⟨trivial, trivial⟩ h
theorem w_X1_strandedJumps {X : jX} {T : jT} {d : Nat} (hI : jInj X T) (a0 : Nat) (a1 : Nat) (M : jMem) (Q : Option Value → jMem → Prop) (h : jRun X T (d + 1) q_X1_strandedJumps (4, [.ref a0, .ref a1, .int 0, .int 0], [], M) Q) : jOk X T (d + 1) q_X1_strandedJumps [.ref a0, .ref a1] M Q := by
  refine jOk.intro (ml := 4) (ls := [.ref a0, .ref a1, .null, .null]) (jTl (by decide)) rfl (Nat.le_of_ble_eq_true rfl) rfl hI ?_
  refine jRun.cut (k := jk_X1_strandedJumps) rfl 4 (c' := (4, [.ref a0, .ref a1, .int 0, .int 0], [], M)) (ob := True ∧ True ∧ True ∧ True ∧ True) rfl ⟨trivial, trivial, trivial, trivial, trivial⟩ ?_
  exact h
theorem w_X1_strandedJumps_4 {X : jX} {T : jT} {d : Nat} (a0 : Nat) (a1 : Nat) (a2 : Int32) (a3 : Int32) (M : jMem) (Q : Option Value → jMem → Prop) (h : jKd T a0 = 1 ∧ jKd T (jRf T a0 0) = 3 ∧ (((M (jRf T a0 0) 10) ≤ a3 → Q (some (.int a2)) M) ∧ (¬ (M (jRf T a0 0) 10) ≤ a3 → jOk X T d q_X1_isLong [.ref a0, .int a3] M (fun v M1 => ∃ r1, v = some (.int r1) ∧ ((¬ r1 = 0 → jRun X T (d + 1) q_X1_strandedJumps (4, [.ref a0, .ref a1, .int a2, .int (a3 + 1)], [], M1) Q) ∧ (r1 = 0 → jKd T (jRf T (jRf T a0 0) 5) = 9 ∧ vp_in a3 (jLn T (jRf T (jRf T a0 0) 5)) ∧ jOk X T d q_X1_farOf [.ref a0, .int (M1 (jRf T (jRf T a0 0) 5) a3.toNatClampNeg)] M1 (fun v M2 => ∃ r2, v = some (.int r2) ∧ jKd T a1 = 5 ∧ jOk X T d q_X5_reaches [.ref a1, .int r2] M2 (fun v M3 => ∃ r3, v = some (.int r3) ∧ ((¬ r3 = 0 → jRun X T (d + 1) q_X1_strandedJumps (4, [.ref a0, .ref a1, .int a2, .int (a3 + 1)], [], M3) Q) ∧ (r3 = 0 → jRun X T (d + 1) q_X1_strandedJumps (4, [.ref a0, .ref a1, .int (a2 ||| (1 <<< (a3 &&& 31))), .int (a3 + 1)], [], M3) Q)))))))))) : jRun X T (d + 1) q_X1_strandedJumps (4, [.ref a0, .ref a1, .int a2, .int a3], [], M) Q := by
  obtain ⟨o1, o2, h⟩ := h
  refine jRun.cut (k := jk_X1_strandedJumps) rfl 5 (c' := (if (M (jRf T a0 0) 10) ≤ a3 then 55 else 15, [.ref a0, .ref a1, .int a2, .int a3], [], M)) (ob := True ∧ True ∧ jKd T a0 = 1 ∧ jKd T (jRf T a0 0) = 3 ∧ True ∧ True) rfl ⟨trivial, trivial, o1, o2, trivial, trivial⟩ ?_
  refine jRun.br (fun g => ?_) (fun g => ?_)
  · have h := h.1 g
    exact jRun.ret (k := jk_X1_strandedJumps) rfl 2 (v := some (.int a2)) (M1 := M) (ob := True ∧ True) rfl ⟨trivial, trivial⟩ h
  · have h := h.2 g
    refine jRun.call (k := jk_X1_strandedJumps) rfl 3 (f := q_X1_isLong) (As := [.ref a0, .int a3]) (c1 := (20, [.ref a0, .ref a1, .int a2, .int a3], [], M)) (ob := True ∧ True ∧ jKd T a0 = 1) rfl ⟨trivial, trivial, o1⟩ h (fun v M1 h => ?_)
    obtain ⟨r1, rfl, h⟩ := h
    show jRun X T (d + 1) q_X1_strandedJumps (20, [.ref a0, .ref a1, .int a2, .int a3], [.int r1], M1) Q
    refine jRun.cut (k := jk_X1_strandedJumps) rfl 1 (c' := (if ¬ r1 = 0 then 49 else 23, [.ref a0, .ref a1, .int a2, .int a3], [], M1)) (ob := True ∧ True) rfl ⟨trivial, trivial⟩ ?_
    refine jRun.brn (fun g => ?_) (fun g => ?_)
    · have h := h.1 g
      refine jRun.cut (k := jk_X1_strandedJumps) rfl 2 (c' := (4, [.ref a0, .ref a1, .int a2, .int (a3 + 1)], [], M1)) (ob := True ∧ True ∧ True) rfl ⟨trivial, trivial, trivial⟩ ?_
      exact h
    · have h := h.2 g
      obtain ⟨o3, o4, h⟩ := h
      refine jRun.call (k := jk_X1_strandedJumps) rfl 8 (f := q_X1_farOf) (As := [.ref a0, .int (M1 (jRf T (jRf T a0 0) 5) a3.toNatClampNeg)]) (c1 := (37, [.ref a0, .ref a1, .int a2, .int a3], [.ref a1], M1)) (ob := True ∧ True ∧ True ∧ jKd T a0 = 1 ∧ jKd T (jRf T a0 0) = 3 ∧ True ∧ (jKd T (jRf T (jRf T a0 0) 5) = 9 ∧ vp_in a3 (jLn T (jRf T (jRf T a0 0) 5))) ∧ jKd T a0 = 1) rfl ⟨trivial, trivial, trivial, o1, o2, trivial, ⟨o3, o4⟩, o1⟩ h (fun v M2 h => ?_)
      obtain ⟨r2, rfl, h⟩ := h
      show jRun X T (d + 1) q_X1_strandedJumps (37, [.ref a0, .ref a1, .int a2, .int a3], [.int r2, .ref a1], M2) Q
      obtain ⟨o5, h⟩ := h
      refine jRun.call (k := jk_X1_strandedJumps) rfl 1 (f := q_X5_reaches) (As := [.ref a1, .int r2]) (c1 := (40, [.ref a0, .ref a1, .int a2, .int a3], [], M2)) (ob := jKd T a1 = 5) rfl o5 h (fun v M3 h => ?_)
      obtain ⟨r3, rfl, h⟩ := h
      show jRun X T (d + 1) q_X1_strandedJumps (40, [.ref a0, .ref a1, .int a2, .int a3], [.int r3], M3) Q
      refine jRun.cut (k := jk_X1_strandedJumps) rfl 1 (c' := (if ¬ r3 = 0 then 49 else 43, [.ref a0, .ref a1, .int a2, .int a3], [], M3)) (ob := True ∧ True) rfl ⟨trivial, trivial⟩ ?_
      refine jRun.brn (fun g => ?_) (fun g => ?_)
      · have h := h.1 g
        refine jRun.cut (k := jk_X1_strandedJumps) rfl 2 (c' := (4, [.ref a0, .ref a1, .int a2, .int (a3 + 1)], [], M3)) (ob := True ∧ True ∧ True) rfl ⟨trivial, trivial, trivial⟩ ?_
        exact h
      · have h := h.2 g
        refine jRun.cut (k := jk_X1_strandedJumps) rfl 8 (c' := (4, [.ref a0, .ref a1, .int (a2 ||| (1 <<< (a3 &&& 31))), .int (a3 + 1)], [], M3)) (ob := True ∧ True ∧ True ∧ True ∧ True ∧ True ∧ True ∧ True ∧ True) rfl ⟨trivial, trivial, trivial, trivial, trivial, trivial, trivial, trivial, trivial⟩ ?_
        exact h
theorem w_X1_wouldReach {X : jX} {T : jT} {d : Nat} (hI : jInj X T) (a0 : Nat) (a1 : Nat) (M : jMem) (Q : Option Value → jMem → Prop) (h : jRun X T (d + 1) q_X1_wouldReach (4, [.ref a0, .ref a1, .int 0, .int 0, .null], [], M) Q) : jOk X T (d + 1) q_X1_wouldReach [.ref a0, .ref a1] M Q := by
  refine jOk.intro (ml := 5) (ls := [.ref a0, .ref a1, .null, .null, .null]) (jTl (by decide)) rfl (Nat.le_of_ble_eq_true rfl) rfl hI ?_
  refine jRun.cut (k := jk_X1_wouldReach) rfl 4 (c' := (4, [.ref a0, .ref a1, .int 0, .int 0, .null], [], M)) (ob := True ∧ True ∧ True ∧ True ∧ True) rfl ⟨trivial, trivial, trivial, trivial, trivial⟩ ?_
  exact h
theorem w_X1_wouldReach_4 {X : jX} {T : jT} {d : Nat} (a0 : Nat) (a1 : Nat) (a2 : Int32) (a3 : Int32) (M : jMem) (Q : Option Value → jMem → Prop) (h : jKd T a0 = 1 ∧ jKd T (jRf T a0 0) = 3 ∧ (((M (jRf T a0 0) 10) ≤ a3 → Q (some (.int a2)) M) ∧ (¬ (M (jRf T a0 0) 10) ≤ a3 → jKd T (jRf T (jRf T a0 0) 5) = 9 ∧ vp_in a3 (jLn T (jRf T (jRf T a0 0) 5)) ∧ jOk X T d q_X1_farOf [.ref a0, .int (M (jRf T (jRf T a0 0) 5) a3.toNatClampNeg)] M (fun v M1 => ∃ r1, v = some (.int r1) ∧ ((0 ≤ r1 → jRun X T (d + 1) q_X1_wouldReach (38, [.ref a0, .ref a1, .int a2, .int a3, .int r1], [], M1) Q) ∧ (¬ 0 ≤ r1 → jRun X T (d + 1) q_X1_wouldReach (38, [.ref a0, .ref a1, .int a2, .int a3, .int (r1 + 3)], [], M1) Q)))))) : jRun X T (d + 1) q_X1_wouldReach (4, [.ref a0, .ref a1, .int a2, .int a3, .null], [], M) Q := by
  obtain ⟨o1, o2, h⟩ := h
  refine jRun.cut (k := jk_X1_wouldReach) rfl 5 (c' := (if (M (jRf T a0 0) 10) ≤ a3 then 67 else 15, [.ref a0, .ref a1, .int a2, .int a3, .null], [], M)) (ob := True ∧ True ∧ jKd T a0 = 1 ∧ jKd T (jRf T a0 0) = 3 ∧ True ∧ True) rfl ⟨trivial, trivial, o1, o2, trivial, trivial⟩ ?_
  refine jRun.br (fun g => ?_) (fun g => ?_)
  · have h := h.1 g
    exact jRun.ret (k := jk_X1_wouldReach) rfl 2 (v := some (.int a2)) (M1 := M) (ob := True ∧ True) rfl ⟨trivial, trivial⟩ h
  · have h := h.2 g
    obtain ⟨o3, o4, h⟩ := h
    refine jRun.call (k := jk_X1_wouldReach) rfl 7 (f := q_X1_farOf) (As := [.ref a0, .int (M (jRf T (jRf T a0 0) 5) a3.toNatClampNeg)]) (c1 := (28, [.ref a0, .ref a1, .int a2, .int a3, .null], [], M)) (ob := True ∧ True ∧ jKd T a0 = 1 ∧ jKd T (jRf T a0 0) = 3 ∧ True ∧ (jKd T (jRf T (jRf T a0 0) 5) = 9 ∧ vp_in a3 (jLn T (jRf T (jRf T a0 0) 5))) ∧ jKd T a0 = 1) rfl ⟨trivial, trivial, o1, o2, trivial, ⟨o3, o4⟩, o1⟩ h (fun v M1 h => ?_)
    obtain ⟨r1, rfl, h⟩ := h
    show jRun X T (d + 1) q_X1_wouldReach (28, [.ref a0, .ref a1, .int a2, .int a3, .null], [.int r1], M1) Q
    refine jRun.cut (k := jk_X1_wouldReach) rfl 3 (c' := (if 0 ≤ r1 then 38 else 35, [.ref a0, .ref a1, .int a2, .int a3, .int r1], [], M1)) (ob := True ∧ True ∧ True ∧ True) rfl ⟨trivial, trivial, trivial, trivial⟩ ?_
    refine jRun.br (fun g => ?_) (fun g => ?_)
    · have h := h.1 g
      exact h
    · have h := h.2 g
      refine jRun.cut (k := jk_X1_wouldReach) rfl 1 (c' := (38, [.ref a0, .ref a1, .int a2, .int a3, .int (r1 + 3)], [], M1)) (ob := True ∧ True) rfl ⟨trivial, trivial⟩ ?_
      exact h
theorem w_X1_wouldReach_38 {X : jX} {T : jT} {d : Nat} (a0 : Nat) (a1 : Nat) (a2 : Int32) (a3 : Int32) (a4 : Int32) (M : jMem) (Q : Option Value → jMem → Prop) (h : jKd T a0 = 1 ∧ jOk X T d q_X1_isLong [.ref a0, .int a3] M (fun v M1 => ∃ r1, v = some (.int r1) ∧ ((r1 = 0 → jRun X T (d + 1) q_X1_wouldReach (61, [.ref a0, .ref a1, .int a2, .int a3, .int a4], [], M1) Q) ∧ (¬ r1 = 0 → jKd T a1 = 5 ∧ jOk X T d q_X5_reaches [.ref a1, .int a4] M1 (fun v M2 => ∃ r2, v = some (.int r2) ∧ ((r2 = 0 → jRun X T (d + 1) q_X1_wouldReach (61, [.ref a0, .ref a1, .int a2, .int a3, .int a4], [], M2) Q) ∧ (¬ r2 = 0 → jRun X T (d + 1) q_X1_wouldReach (61, [.ref a0, .ref a1, .int (a2 ||| (1 <<< (a3 &&& 31))), .int a3, .int a4], [], M2) Q))))))) : jRun X T (d + 1) q_X1_wouldReach (38, [.ref a0, .ref a1, .int a2, .int a3, .int a4], [], M) Q := by
  obtain ⟨o1, h⟩ := h
  refine jRun.call (k := jk_X1_wouldReach) rfl 3 (f := q_X1_isLong) (As := [.ref a0, .int a3]) (c1 := (43, [.ref a0, .ref a1, .int a2, .int a3, .int a4], [], M)) (ob := True ∧ True ∧ jKd T a0 = 1) rfl ⟨trivial, trivial, o1⟩ h (fun v M1 h => ?_)
  obtain ⟨r1, rfl, h⟩ := h
  show jRun X T (d + 1) q_X1_wouldReach (43, [.ref a0, .ref a1, .int a2, .int a3, .int a4], [.int r1], M1) Q
  refine jRun.cut (k := jk_X1_wouldReach) rfl 1 (c' := (if r1 = 0 then 61 else 46, [.ref a0, .ref a1, .int a2, .int a3, .int a4], [], M1)) (ob := True ∧ True) rfl ⟨trivial, trivial⟩ ?_
  refine jRun.br (fun g => ?_) (fun g => ?_)
  · have h := h.1 g
    exact h
  · have h := h.2 g
    obtain ⟨o2, h⟩ := h
    refine jRun.call (k := jk_X1_wouldReach) rfl 3 (f := q_X5_reaches) (As := [.ref a1, .int a4]) (c1 := (52, [.ref a0, .ref a1, .int a2, .int a3, .int a4], [], M1)) (ob := True ∧ True ∧ jKd T a1 = 5) rfl ⟨trivial, trivial, o2⟩ h (fun v M2 h => ?_)
    obtain ⟨r2, rfl, h⟩ := h
    show jRun X T (d + 1) q_X1_wouldReach (52, [.ref a0, .ref a1, .int a2, .int a3, .int a4], [.int r2], M2) Q
    refine jRun.cut (k := jk_X1_wouldReach) rfl 1 (c' := (if r2 = 0 then 61 else 55, [.ref a0, .ref a1, .int a2, .int a3, .int a4], [], M2)) (ob := True ∧ True) rfl ⟨trivial, trivial⟩ ?_
    refine jRun.br (fun g => ?_) (fun g => ?_)
    · have h := h.1 g
      exact h
    · have h := h.2 g
      refine jRun.cut (k := jk_X1_wouldReach) rfl 6 (c' := (61, [.ref a0, .ref a1, .int (a2 ||| (1 <<< (a3 &&& 31))), .int a3, .int a4], [], M2)) (ob := True ∧ True ∧ True ∧ True ∧ True ∧ True ∧ True) rfl ⟨trivial, trivial, trivial, trivial, trivial, trivial, trivial⟩ ?_
      exact h
theorem w_X1_wouldReach_61 {X : jX} {T : jT} {d : Nat} (a0 : Nat) (a1 : Nat) (a2 : Int32) (a3 : Int32) (a4 : Int32) (M : jMem) (Q : Option Value → jMem → Prop) (h : jRun X T (d + 1) q_X1_wouldReach (4, [.ref a0, .ref a1, .int a2, .int (a3 + 1), .null], [], M) Q) : jRun X T (d + 1) q_X1_wouldReach (61, [.ref a0, .ref a1, .int a2, .int a3, .int a4], [], M) Q := by
  refine jRun.cut (k := jk_X1_wouldReach) rfl 2 (c' := (4, [.ref a0, .ref a1, .int a2, .int (a3 + 1), .int a4], [], M)) (ob := True ∧ True ∧ True) rfl ⟨trivial, trivial, trivial⟩ ?_
  exact jRun.weak (by simp [jFew]) h
theorem w_X1_farServed {X : jX} {T : jT} {d : Nat} (hI : jInj X T) (a0 : Nat) (a1 : Nat) (a2 : Int32) (M : jMem) (Q : Option Value → jMem → Prop) (h : jKd T a0 = 1 ∧ jOk X T d q_X1_farOf [.ref a0, .int a2] M (fun v M1 => ∃ r1, v = some (.int r1) ∧ jKd T a1 = 5 ∧ jOk X T d q_X5_reaches [.ref a1, .int r1] M1 (fun v M2 => ∃ r2, v = some (.int r2) ∧ ((r2 = 0 → jKd T (jRf T a0 0) = 3 ∧ jKd T (jRf T (jRf T a0 0) 1) = 9 ∧ vp_in a2 (jLn T (jRf T (jRf T a0 0) 1)) ∧ jRun X T (d + 1) q_X1_farServed (30, [.ref a0, .ref a1, .int a2, .int r1, .int (M2 (jRf T (jRf T a0 0) 1) a2.toNatClampNeg), .int 0, .null], [], M2) Q) ∧ (¬ r2 = 0 → Q (some (.int r1)) M2))))) : jOk X T (d + 1) q_X1_farServed [.ref a0, .ref a1, .int a2] M Q := by
  refine jOk.intro (ml := 7) (ls := [.ref a0, .ref a1, .int a2, .null, .null, .null, .null]) (jTl (by decide)) rfl (Nat.le_of_ble_eq_true rfl) rfl hI ?_
  obtain ⟨o1, h⟩ := h
  refine jRun.call (k := jk_X1_farServed) rfl 3 (f := q_X1_farOf) (As := [.ref a0, .int a2]) (c1 := (5, [.ref a0, .ref a1, .int a2, .null, .null, .null, .null], [], M)) (ob := True ∧ True ∧ jKd T a0 = 1) rfl ⟨trivial, trivial, o1⟩ h (fun v M1 h => ?_)
  obtain ⟨r1, rfl, h⟩ := h
  show jRun X T (d + 1) q_X1_farServed (5, [.ref a0, .ref a1, .int a2, .null, .null, .null, .null], [.int r1], M1) Q
  obtain ⟨o2, h⟩ := h
  refine jRun.call (k := jk_X1_farServed) rfl 4 (f := q_X5_reaches) (As := [.ref a1, .int r1]) (c1 := (11, [.ref a0, .ref a1, .int a2, .int r1, .null, .null, .null], [], M1)) (ob := True ∧ True ∧ True ∧ jKd T a1 = 5) rfl ⟨trivial, trivial, trivial, o2⟩ h (fun v M2 h => ?_)
  obtain ⟨r2, rfl, h⟩ := h
  show jRun X T (d + 1) q_X1_farServed (11, [.ref a0, .ref a1, .int a2, .int r1, .null, .null, .null], [.int r2], M2) Q
  refine jRun.cut (k := jk_X1_farServed) rfl 1 (c' := (if r2 = 0 then 16 else 14, [.ref a0, .ref a1, .int a2, .int r1, .null, .null, .null], [], M2)) (ob := True ∧ True) rfl ⟨trivial, trivial⟩ ?_
  refine jRun.br (fun g => ?_) (fun g => ?_)
  · have h := h.1 g
    obtain ⟨o3, o4, o5, h⟩ := h
    refine jRun.cut (k := jk_X1_farServed) rfl 8 (c' := (30, [.ref a0, .ref a1, .int a2, .int r1, .int (M2 (jRf T (jRf T a0 0) 1) a2.toNatClampNeg), .int 0, .null], [], M2)) (ob := True ∧ jKd T a0 = 1 ∧ jKd T (jRf T a0 0) = 3 ∧ True ∧ (jKd T (jRf T (jRf T a0 0) 1) = 9 ∧ vp_in a2 (jLn T (jRf T (jRf T a0 0) 1))) ∧ True ∧ True ∧ True ∧ True) rfl ⟨trivial, o1, o3, trivial, ⟨o4, o5⟩, trivial, trivial, trivial, trivial⟩ ?_
    exact h
  · have h := h.2 g
    exact jRun.ret (k := jk_X1_farServed) rfl 2 (v := some (.int r1)) (M1 := M2) (ob := True ∧ True) rfl ⟨trivial, trivial⟩ h
theorem w_X1_farServed_30 {X : jX} {T : jT} {d : Nat} (a0 : Nat) (a1 : Nat) (a2 : Int32) (a3 : Int32) (a4 : Int32) (a5 : Int32) (M : jMem) (Q : Option Value → jMem → Prop) (h : jKd T a0 = 1 ∧ jKd T (jRf T a0 0) = 3 ∧ (((M (jRf T a0 0) 12) ≤ a5 → Q (some (.int (-1000000))) M) ∧ (¬ (M (jRf T a0 0) 12) ≤ a5 → jKd T a1 = 5 ∧ jOk X T d q_X5_hasIsland [.ref a1, .int a5, .int a4] M (fun v M1 => ∃ r1, v = some (.int r1) ∧ ((¬ r1 = 0 → jOk X T d q_X5_labelsIn [.ref a1, .int a5] M1 (fun v M2 => ∃ r2, v = some (.int r2) ∧ jOk X T d q_J6_bitCount_0f7a4 [.int (r2 &&& ((1 <<< (a4 &&& 31)) - 1))] M2 (fun v M3 => ∃ r3, v = some (.int r3) ∧ jKd T (jRf T (jRf T a0 0) 7) = 9 ∧ vp_in a5 (jLn T (jRf T (jRf T a0 0) 7)) ∧ jKd T (jRf T a0 1) = 9 ∧ vp_in (M3 (jRf T (jRf T a0 0) 7) a5.toNatClampNeg) (jLn T (jRf T a0 1)) ∧ vp_in (a2 + 1) (jLn T (jRf T a0 1)) ∧ jOk X T d q_X5_reaches [.ref a1, .int (((M3 (jRf T a0 1) (M3 (jRf T (jRf T a0 0) 7) a5.toNatClampNeg).toNatClampNeg) + (5 * r3)) - (M3 (jRf T a0 1) (a2 + 1).toNatClampNeg))] M3 (fun v M4 => ∃ r4, v = some (.int r4) ∧ ((r4 = 0 → jRun X T (d + 1) q_X1_farServed (30, [.ref a0, .ref a1, .int a2, .int (((M3 (jRf T a0 1) (M3 (jRf T (jRf T a0 0) 7) a5.toNatClampNeg).toNatClampNeg) + (5 * r3)) - (M3 (jRf T a0 1) (a2 + 1).toNatClampNeg)), .int a4, .int (a5 + 1), .null], [], M4) Q) ∧ (¬ r4 = 0 → Q (some (.int (((M3 (jRf T a0 1) (M3 (jRf T (jRf T a0 0) 7) a5.toNatClampNeg).toNatClampNeg) + (5 * r3)) - (M3 (jRf T a0 1) (a2 + 1).toNatClampNeg)))) M4)))))) ∧ (r1 = 0 → jRun X T (d + 1) q_X1_farServed (30, [.ref a0, .ref a1, .int a2, .int a3, .int a4, .int (a5 + 1), .null], [], M1) Q)))))) : jRun X T (d + 1) q_X1_farServed (30, [.ref a0, .ref a1, .int a2, .int a3, .int a4, .int a5, .null], [], M) Q := by
  obtain ⟨o1, o2, h⟩ := h
  refine jRun.cut (k := jk_X1_farServed) rfl 5 (c' := (if (M (jRf T a0 0) 12) ≤ a5 then 120 else 42, [.ref a0, .ref a1, .int a2, .int a3, .int a4, .int a5, .null], [], M)) (ob := True ∧ True ∧ jKd T a0 = 1 ∧ jKd T (jRf T a0 0) = 3 ∧ True ∧ True) rfl ⟨trivial, trivial, o1, o2, trivial, trivial⟩ ?_
  refine jRun.br (fun g => ?_) (fun g => ?_)
  · have h := h.1 g
    exact jRun.ret (k := jk_X1_farServed) rfl 2 (v := some (.int (-1000000))) (M1 := M) (ob := True ∧ True) rfl ⟨trivial, trivial⟩ h
  · have h := h.2 g
    obtain ⟨o3, h⟩ := h
    refine jRun.call (k := jk_X1_farServed) rfl 4 (f := q_X5_hasIsland) (As := [.ref a1, .int a5, .int a4]) (c1 := (50, [.ref a0, .ref a1, .int a2, .int a3, .int a4, .int a5, .null], [], M)) (ob := True ∧ True ∧ True ∧ jKd T a1 = 5) rfl ⟨trivial, trivial, trivial, o3⟩ h (fun v M1 h => ?_)
    obtain ⟨r1, rfl, h⟩ := h
    show jRun X T (d + 1) q_X1_farServed (50, [.ref a0, .ref a1, .int a2, .int a3, .int a4, .int a5, .null], [.int r1], M1) Q
    refine jRun.cut (k := jk_X1_farServed) rfl 1 (c' := (if ¬ r1 = 0 then 56 else 53, [.ref a0, .ref a1, .int a2, .int a3, .int a4, .int a5, .null], [], M1)) (ob := True ∧ True) rfl ⟨trivial, trivial⟩ ?_
    refine jRun.brn (fun g => ?_) (fun g => ?_)
    · have h := h.1 g
      refine jRun.call (k := jk_X1_farServed) rfl 3 (f := q_X5_labelsIn) (As := [.ref a1, .int a5]) (c1 := (62, [.ref a0, .ref a1, .int a2, .int a3, .int a4, .int a5, .null], [], M1)) (ob := True ∧ True ∧ jKd T a1 = 5) rfl ⟨trivial, trivial, o3⟩ h (fun v M2 h => ?_)
      obtain ⟨r2, rfl, h⟩ := h
      show jRun X T (d + 1) q_X1_farServed (62, [.ref a0, .ref a1, .int a2, .int a3, .int a4, .int a5, .null], [.int r2], M2) Q
      refine jRun.call (k := jk_X1_farServed) rfl 7 (f := q_J6_bitCount_0f7a4) (As := [.int (r2 &&& ((1 <<< (a4 &&& 31)) - 1))]) (c1 := (72, [.ref a0, .ref a1, .int a2, .int a3, .int a4, .int a5, .null], [], M2)) (ob := True ∧ True ∧ True ∧ True ∧ True ∧ True ∧ True) rfl ⟨trivial, trivial, trivial, trivial, trivial, trivial, trivial⟩ h (fun v M3 h => ?_)
      obtain ⟨r3, rfl, h⟩ := h
      show jRun X T (d + 1) q_X1_farServed (72, [.ref a0, .ref a1, .int a2, .int a3, .int a4, .int a5, .null], [.int r3], M3) Q
      obtain ⟨o4, o5, o6, o7, o8, h⟩ := h
      refine jRun.call (k := jk_X1_farServed) rfl 24 (f := q_X5_reaches) (As := [.ref a1, .int (((M3 (jRf T a0 1) (M3 (jRf T (jRf T a0 0) 7) a5.toNatClampNeg).toNatClampNeg) + (5 * r3)) - (M3 (jRf T a0 1) (a2 + 1).toNatClampNeg))]) (c1 := (109, [.ref a0, .ref a1, .int a2, .int (((M3 (jRf T a0 1) (M3 (jRf T (jRf T a0 0) 7) a5.toNatClampNeg).toNatClampNeg) + (5 * r3)) - (M3 (jRf T a0 1) (a2 + 1).toNatClampNeg)), .int a4, .int a5, .int r3], [], M3)) (ob := True ∧ True ∧ jKd T a0 = 1 ∧ True ∧ jKd T a0 = 1 ∧ jKd T (jRf T a0 0) = 3 ∧ True ∧ (jKd T (jRf T (jRf T a0 0) 7) = 9 ∧ vp_in a5 (jLn T (jRf T (jRf T a0 0) 7))) ∧ (jKd T (jRf T a0 1) = 9 ∧ vp_in (M3 (jRf T (jRf T a0 0) 7) a5.toNatClampNeg) (jLn T (jRf T a0 1))) ∧ True ∧ True ∧ True ∧ True ∧ True ∧ jKd T a0 = 1 ∧ True ∧ True ∧ True ∧ (jKd T (jRf T a0 1) = 9 ∧ vp_in (a2 + 1) (jLn T (jRf T a0 1))) ∧ True ∧ True ∧ True ∧ True ∧ jKd T a1 = 5) rfl ⟨trivial, trivial, o1, trivial, o1, o2, trivial, ⟨o4, o5⟩, ⟨o6, o7⟩, trivial, trivial, trivial, trivial, trivial, o1, trivial, trivial, trivial, ⟨o6, o8⟩, trivial, trivial, trivial, trivial, o3⟩ h (fun v M4 h => ?_)
      obtain ⟨r4, rfl, h⟩ := h
      show jRun X T (d + 1) q_X1_farServed (109, [.ref a0, .ref a1, .int a2, .int (((M3 (jRf T a0 1) (M3 (jRf T (jRf T a0 0) 7) a5.toNatClampNeg).toNatClampNeg) + (5 * r3)) - (M3 (jRf T a0 1) (a2 + 1).toNatClampNeg)), .int a4, .int a5, .int r3], [.int r4], M4) Q
      refine jRun.cut (k := jk_X1_farServed) rfl 1 (c' := (if r4 = 0 then 114 else 112, [.ref a0, .ref a1, .int a2, .int (((M3 (jRf T a0 1) (M3 (jRf T (jRf T a0 0) 7) a5.toNatClampNeg).toNatClampNeg) + (5 * r3)) - (M3 (jRf T a0 1) (a2 + 1).toNatClampNeg)), .int a4, .int a5, .int r3], [], M4)) (ob := True ∧ True) rfl ⟨trivial, trivial⟩ ?_
      refine jRun.br (fun g => ?_) (fun g => ?_)
      · have h := h.1 g
        refine jRun.cut (k := jk_X1_farServed) rfl 2 (c' := (30, [.ref a0, .ref a1, .int a2, .int (((M3 (jRf T a0 1) (M3 (jRf T (jRf T a0 0) 7) a5.toNatClampNeg).toNatClampNeg) + (5 * r3)) - (M3 (jRf T a0 1) (a2 + 1).toNatClampNeg)), .int a4, .int (a5 + 1), .int r3], [], M4)) (ob := True ∧ True ∧ True) rfl ⟨trivial, trivial, trivial⟩ ?_
        exact jRun.weak (by simp [jFew]) h
      · have h := h.2 g
        exact jRun.ret (k := jk_X1_farServed) rfl 2 (v := some (.int (((M3 (jRf T a0 1) (M3 (jRf T (jRf T a0 0) 7) a5.toNatClampNeg).toNatClampNeg) + (5 * r3)) - (M3 (jRf T a0 1) (a2 + 1).toNatClampNeg)))) (M1 := M4) (ob := True ∧ True) rfl ⟨trivial, trivial⟩ h
    · have h := h.2 g
      refine jRun.cut (k := jk_X1_farServed) rfl 3 (c' := (30, [.ref a0, .ref a1, .int a2, .int a3, .int a4, .int (a5 + 1), .null], [], M1)) (ob := True ∧ True ∧ True ∧ True) rfl ⟨trivial, trivial, trivial, trivial⟩ ?_
      exact h
theorem w_X1_farOfIsland {X : jX} {T : jT} {d : Nat} (hI : jInj X T) (a0 : Nat) (a1 : Nat) (a2 : Int32) (a3 : Int32) (M : jMem) (Q : Option Value → jMem → Prop) (h : jKd T a0 = 1 ∧ jKd T (jRf T a0 0) = 3 ∧ jKd T (jRf T (jRf T a0 0) 2) = 9 ∧ vp_in a2 (jLn T (jRf T (jRf T a0 0) 2)) ∧ jKd T a1 = 5 ∧ jOk X T d q_X5_labelsIn [.ref a1, .int (M (jRf T (jRf T a0 0) 2) a2.toNatClampNeg)] M (fun v M1 => ∃ r1, v = some (.int r1) ∧ jRun X T (d + 1) q_X1_farOfIsland (21, [.ref a0, .ref a1, .int a2, .int a3, .int r1, .int 0, .int 0], [], M1) Q)) : jOk X T (d + 1) q_X1_farOfIsland [.ref a0, .ref a1, .int a2, .int a3] M Q := by
  refine jOk.intro (ml := 7) (ls := [.ref a0, .ref a1, .int a2, .int a3, .null, .null, .null]) (jTl (by decide)) rfl (Nat.le_of_ble_eq_true rfl) rfl hI ?_
  obtain ⟨o1, o2, o3, o4, o5, h⟩ := h
  refine jRun.call (k := jk_X1_farOfIsland) rfl 7 (f := q_X5_labelsIn) (As := [.ref a1, .int (M (jRf T (jRf T a0 0) 2) a2.toNatClampNeg)]) (c1 := (13, [.ref a0, .ref a1, .int a2, .int a3, .null, .null, .null], [], M)) (ob := True ∧ True ∧ jKd T a0 = 1 ∧ jKd T (jRf T a0 0) = 3 ∧ True ∧ (jKd T (jRf T (jRf T a0 0) 2) = 9 ∧ vp_in a2 (jLn T (jRf T (jRf T a0 0) 2))) ∧ jKd T a1 = 5) rfl ⟨trivial, trivial, o1, o2, trivial, ⟨o3, o4⟩, o5⟩ h (fun v M1 h => ?_)
  obtain ⟨r1, rfl, h⟩ := h
  show jRun X T (d + 1) q_X1_farOfIsland (13, [.ref a0, .ref a1, .int a2, .int a3, .null, .null, .null], [.int r1], M1) Q
  refine jRun.cut (k := jk_X1_farOfIsland) rfl 5 (c' := (21, [.ref a0, .ref a1, .int a2, .int a3, .int r1, .int 0, .int 0], [], M1)) (ob := True ∧ True ∧ True ∧ True ∧ True ∧ True) rfl ⟨trivial, trivial, trivial, trivial, trivial, trivial⟩ ?_
  exact h
theorem w_X1_farOfIsland_21 {X : jX} {T : jT} {d : Nat} (a0 : Nat) (a1 : Nat) (a2 : Int32) (a3 : Int32) (a4 : Int32) (a5 : Int32) (a6 : Int32) (M : jMem) (Q : Option Value → jMem → Prop) (h : ((8 ≤ a6 → Q (some (.int 0)) M) ∧ (¬ 8 ≤ a6 → ((¬ ((a4 >>> (a6 &&& 31)) &&& 1) = 0 → ((¬ a5 = a3 → jRun X T (d + 1) q_X1_farOfIsland (21, [.ref a0, .ref a1, .int a2, .int a3, .int a4, .int (a5 + 1), .int (a6 + 1)], [], M) Q) ∧ (a5 = a3 → jKd T a0 = 1 ∧ jKd T (jRf T a0 0) = 3 ∧ jOk X T d q_X3_hasLabel [.ref (jRf T a0 0), .int a6] M (fun v M1 => ∃ r1, v = some (.int r1) ∧ ((r1 = 0 → jRun X T (d + 1) q_X1_farOfIsland (21, [.ref a0, .ref a1, .int a2, .int a3, .int a4, .int (a5 + 1), .int (a6 + 1)], [], M1) Q) ∧ (¬ r1 = 0 → jKd T (jRf T (jRf T a0 0) 4) = 9 ∧ vp_in a6 (jLn T (jRf T (jRf T a0 0) 4)) ∧ jKd T (jRf T a0 1) = 9 ∧ vp_in (M1 (jRf T (jRf T a0 0) 4) a6.toNatClampNeg) (jLn T (jRf T a0 1)) ∧ vp_in a2 (jLn T (jRf T a0 1)) ∧ Q (some (.int (((M1 (jRf T a0 1) (M1 (jRf T (jRf T a0 0) 4) a6.toNatClampNeg).toNatClampNeg) - (M1 (jRf T a0 1) a2.toNatClampNeg)) - (5 * (a3 + 1))))) M1)))))) ∧ (((a4 >>> (a6 &&& 31)) &&& 1) = 0 → jRun X T (d + 1) q_X1_farOfIsland (21, [.ref a0, .ref a1, .int a2, .int a3, .int a4, .int a5, .int (a6 + 1)], [], M) Q))))) : jRun X T (d + 1) q_X1_farOfIsland (21, [.ref a0, .ref a1, .int a2, .int a3, .int a4, .int a5, .int a6], [], M) Q := by
  refine jRun.cut (k := jk_X1_farOfIsland) rfl 3 (c' := (if 8 ≤ a6 then 97 else 28, [.ref a0, .ref a1, .int a2, .int a3, .int a4, .int a5, .int a6], [], M)) (ob := True ∧ True ∧ True ∧ True) rfl ⟨trivial, trivial, trivial, trivial⟩ ?_
  refine jRun.br (fun g => ?_) (fun g => ?_)
  · have h := h.1 g
    exact jRun.ret (k := jk_X1_farOfIsland) rfl 2 (v := some (.int 0)) (M1 := M) (ob := True ∧ True) rfl ⟨trivial, trivial⟩ h
  · have h := h.2 g
    refine jRun.cut (k := jk_X1_farOfIsland) rfl 6 (c' := (if ¬ ((a4 >>> (a6 &&& 31)) &&& 1) = 0 then 41 else 38, [.ref a0, .ref a1, .int a2, .int a3, .int a4, .int a5, .int a6], [], M)) (ob := True ∧ True ∧ True ∧ True ∧ True ∧ True ∧ True) rfl ⟨trivial, trivial, trivial, trivial, trivial, trivial, trivial⟩ ?_
    refine jRun.brn (fun g => ?_) (fun g => ?_)
    · have h := h.1 g
      refine jRun.cut (k := jk_X1_farOfIsland) rfl 3 (c' := (if ¬ a5 = a3 then 88 else 47, [.ref a0, .ref a1, .int a2, .int a3, .int a4, .int a5, .int a6], [], M)) (ob := True ∧ True ∧ True ∧ True) rfl ⟨trivial, trivial, trivial, trivial⟩ ?_
      refine jRun.brn (fun g => ?_) (fun g => ?_)
      · have h := h.1 g
        refine jRun.cut (k := jk_X1_farOfIsland) rfl 3 (c' := (21, [.ref a0, .ref a1, .int a2, .int a3, .int a4, .int (a5 + 1), .int (a6 + 1)], [], M)) (ob := True ∧ True ∧ True ∧ True) rfl ⟨trivial, trivial, trivial, trivial⟩ ?_
        exact h
      · have h := h.2 g
        obtain ⟨o1, o2, h⟩ := h
        refine jRun.call (k := jk_X1_farOfIsland) rfl 4 (f := q_X3_hasLabel) (As := [.ref (jRf T a0 0), .int a6]) (c1 := (56, [.ref a0, .ref a1, .int a2, .int a3, .int a4, .int a5, .int a6], [], M)) (ob := True ∧ jKd T a0 = 1 ∧ True ∧ jKd T (jRf T a0 0) = 3) rfl ⟨trivial, o1, trivial, o2⟩ h (fun v M1 h => ?_)
        obtain ⟨r1, rfl, h⟩ := h
        show jRun X T (d + 1) q_X1_farOfIsland (56, [.ref a0, .ref a1, .int a2, .int a3, .int a4, .int a5, .int a6], [.int r1], M1) Q
        refine jRun.cut (k := jk_X1_farOfIsland) rfl 1 (c' := (if r1 = 0 then 88 else 59, [.ref a0, .ref a1, .int a2, .int a3, .int a4, .int a5, .int a6], [], M1)) (ob := True ∧ True) rfl ⟨trivial, trivial⟩ ?_
        refine jRun.br (fun g => ?_) (fun g => ?_)
        · have h := h.1 g
          refine jRun.cut (k := jk_X1_farOfIsland) rfl 3 (c' := (21, [.ref a0, .ref a1, .int a2, .int a3, .int a4, .int (a5 + 1), .int (a6 + 1)], [], M1)) (ob := True ∧ True ∧ True ∧ True) rfl ⟨trivial, trivial, trivial, trivial⟩ ?_
          exact h
        · have h := h.2 g
          obtain ⟨o3, o4, o5, o6, o7, h⟩ := h
          exact jRun.ret (k := jk_X1_farOfIsland) rfl 20 (v := some (.int (((M1 (jRf T a0 1) (M1 (jRf T (jRf T a0 0) 4) a6.toNatClampNeg).toNatClampNeg) - (M1 (jRf T a0 1) a2.toNatClampNeg)) - (5 * (a3 + 1))))) (M1 := M1) (ob := True ∧ jKd T a0 = 1 ∧ True ∧ jKd T a0 = 1 ∧ jKd T (jRf T a0 0) = 3 ∧ True ∧ (jKd T (jRf T (jRf T a0 0) 4) = 9 ∧ vp_in a6 (jLn T (jRf T (jRf T a0 0) 4))) ∧ (jKd T (jRf T a0 1) = 9 ∧ vp_in (M1 (jRf T (jRf T a0 0) 4) a6.toNatClampNeg) (jLn T (jRf T a0 1))) ∧ True ∧ jKd T a0 = 1 ∧ True ∧ (jKd T (jRf T a0 1) = 9 ∧ vp_in a2 (jLn T (jRf T a0 1))) ∧ True ∧ True ∧ True ∧ True ∧ True ∧ True ∧ True ∧ True) rfl ⟨trivial, o1, trivial, o1, o2, trivial, ⟨o3, o4⟩, ⟨o5, o6⟩, trivial, o1, trivial, ⟨o5, o7⟩, trivial, trivial, trivial, trivial, trivial, trivial, trivial, trivial⟩ h
    · have h := h.2 g
      refine jRun.cut (k := jk_X1_farOfIsland) rfl 3 (c' := (21, [.ref a0, .ref a1, .int a2, .int a3, .int a4, .int a5, .int (a6 + 1)], [], M)) (ob := True ∧ True ∧ True ∧ True) rfl ⟨trivial, trivial, trivial, trivial⟩ ?_
      exact h
