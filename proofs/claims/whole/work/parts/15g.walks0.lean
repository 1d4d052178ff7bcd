theorem v_X8_isNear {X : jX} {d : Nat} (hI : jInj X T0) (a1 : Int32) (M : jMem) (Q : Option Value → jMem → Prop) (h : jOk X T0 d q_X8_in [.long a1.toInt64, .long (((-(M 54 8)) - 1).toInt64), .long ((M 54 8).toInt64)] M (fun v M1 => ∃ r1, v = some (.int r1) ∧ (r1 = 0 ∨ r1 = 1) ∧ Q (some (.int r1)) M1)) : jOk X T0 (d + 1) q_X8_isNear [.ref 54, .int a1] M Q := by
  refine jOk.intro (ml := 2) (ls := [.ref 54, .int a1]) (jTl (by decide)) rfl (Nat.le_of_ble_eq_true rfl) rfl hI ?_
  refine jRun.call (k := jk_X8_isNear) rfl 12 (f := q_X8_in) (As := [.long a1.toInt64, .long (((-(M 54 8)) - 1).toInt64), .long ((M 54 8).toInt64)]) (c1 := (18, [.ref 54, .int a1], [], M)) (ob := True ∧ True ∧ True ∧ jKd T0 54 = 8 ∧ True ∧ True ∧ True ∧ True ∧ True ∧ jKd T0 54 = 8 ∧ True ∧ True) rfl ⟨trivial, trivial, trivial, rfl, trivial, trivial, trivial, trivial, trivial, rfl, trivial, trivial⟩ h (fun v M1 h => ?_)
  obtain ⟨r1, rfl, h⟩ := h
  show jRun X T0 (d + 1) q_X8_isNear (18, [.ref 54, .int a1], [.int r1], M1) Q
  obtain ⟨o1, h⟩ := h
  exact jRun.ret (k := jk_X8_isNear) rfl 1 (v := some (.int r1)) (M1 := M1) (ob := (r1 = 0 ∨ r1 = 1)) rfl o1 h
theorem v_X8_shortOnes {X : jX} {d : Nat} (hI : jInj X T0)  (M : jMem) (Q : Option Value → jMem → Prop) (h : jRun X T0 (d + 1) q_X8_shortOnes (4, [.ref 54, .int 0, .int 0], [], M) Q) : jOk X T0 (d + 1) q_X8_shortOnes [.ref 54] M Q := by
  refine jOk.intro (ml := 3) (ls := [.ref 54, .null, .null]) (jTl (by decide)) rfl (Nat.le_of_ble_eq_true rfl) rfl hI ?_
  refine jRun.cut (k := jk_X8_shortOnes) rfl 4 (c' := (4, [.ref 54, .int 0, .int 0], [], M)) (ob := True ∧ True ∧ True ∧ True ∧ True) rfl ⟨trivial, trivial, trivial, trivial, trivial⟩ ?_
  exact h
theorem v_X8_shortOnes_4 {X : jX} {d : Nat} (a1 : Int32) (a2 : Int32) (M : jMem) (Q : Option Value → jMem → Prop) (h : (((M 54 12) ≤ a2 → Q (some (.int a1)) M) ∧ (¬ (M 54 12) ≤ a2 → jOk X T0 d q_X8_has [.int (M 54 30), .int a2] M (fun v M1 => ∃ r1, v = some (.int r1) ∧ ((¬ r1 = 0 → jRun X T0 (d + 1) q_X8_shortOnes (4, [.ref 54, .int (a1 ||| 0), .int (a2 + 1)], [], M1) Q) ∧ (r1 = 0 → vp_in a2 10 ∧ jOk X T0 d q_X8_farOf [.ref 54, .int (M1 58 a2.toNatClampNeg)] M1 (fun v M2 => ∃ r2, v = some (.int r2) ∧ jOk X T0 d q_X8_isNear [.ref 54, .int r2] M2 (fun v M3 => ∃ r3, v = some (.int r3) ∧ ((¬ r3 = 0 → jRun X T0 (d + 1) q_X8_shortOnes (4, [.ref 54, .int (a1 ||| 0), .int (a2 + 1)], [], M3) Q) ∧ (r3 = 0 → jRun X T0 (d + 1) q_X8_shortOnes (4, [.ref 54, .int (a1 ||| (1 <<< (a2 &&& 31))), .int (a2 + 1)], [], M3) Q)))))))))) : jRun X T0 (d + 1) q_X8_shortOnes (4, [.ref 54, .int a1, .int a2], [], M) Q := by
  refine jRun.cut (k := jk_X8_shortOnes) rfl 4 (c' := (if (M 54 12) ≤ a2 then 56 else 12, [.ref 54, .int a1, .int a2], [], M)) (ob := True ∧ True ∧ jKd T0 54 = 8 ∧ True ∧ True) rfl ⟨trivial, trivial, rfl, trivial, trivial⟩ ?_
  refine jRun.br (fun g => ?_) (fun g => ?_)
  · have h := h.1 g
    exact jRun.ret (k := jk_X8_shortOnes) rfl 2 (v := some (.int a1)) (M1 := M) (ob := True ∧ True) rfl ⟨trivial, trivial⟩ h
  · have h := h.2 g
    refine jRun.call (k := jk_X8_shortOnes) rfl 5 (f := q_X8_has) (As := [.int (M 54 30), .int a2]) (c1 := (21, [.ref 54, .int a1, .int a2], [.int a1], M)) (ob := True ∧ True ∧ jKd T0 54 = 8 ∧ True ∧ True) rfl ⟨trivial, trivial, rfl, trivial, trivial⟩ h (fun v M1 h => ?_)
    obtain ⟨r1, rfl, h⟩ := h
    show jRun X T0 (d + 1) q_X8_shortOnes (21, [.ref 54, .int a1, .int a2], [.int r1, .int a1], M1) Q
    refine jRun.cut (k := jk_X8_shortOnes) rfl 1 (c' := (if ¬ r1 = 0 then 47 else 24, [.ref 54, .int a1, .int a2], [.int a1], M1)) (ob := True ∧ True) rfl ⟨trivial, trivial⟩ ?_
    refine jRun.brn (fun g => ?_) (fun g => ?_)
    · have h := h.1 g
      refine jRun.cut (k := jk_X8_shortOnes) rfl 5 (c' := (4, [.ref 54, .int (a1 ||| 0), .int (a2 + 1)], [], M1)) (ob := True ∧ True ∧ True ∧ True ∧ True ∧ True) rfl ⟨trivial, trivial, trivial, trivial, trivial, trivial⟩ ?_
      exact h
    · have h := h.2 g
      obtain ⟨o1, h⟩ := h
      refine jRun.call (k := jk_X8_shortOnes) rfl 7 (f := q_X8_farOf) (As := [.ref 54, .int (M1 58 a2.toNatClampNeg)]) (c1 := (35, [.ref 54, .int a1, .int a2], [.ref 54, .int a1], M1)) (ob := True ∧ True ∧ True ∧ jKd T0 54 = 8 ∧ True ∧ (jKd T0 58 = 9 ∧ vp_in a2 10) ∧ jKd T0 54 = 8) rfl ⟨trivial, trivial, trivial, rfl, trivial, ⟨rfl, o1⟩, rfl⟩ h (fun v M2 h => ?_)
      obtain ⟨r2, rfl, h⟩ := h
      show jRun X T0 (d + 1) q_X8_shortOnes (35, [.ref 54, .int a1, .int a2], [.int r2, .ref 54, .int a1], M2) Q
      refine jRun.call (k := jk_X8_shortOnes) rfl 1 (f := q_X8_isNear) (As := [.ref 54, .int r2]) (c1 := (38, [.ref 54, .int a1, .int a2], [.int a1], M2)) (ob := jKd T0 54 = 8) rfl rfl h (fun v M3 h => ?_)
      obtain ⟨r3, rfl, h⟩ := h
      show jRun X T0 (d + 1) q_X8_shortOnes (38, [.ref 54, .int a1, .int a2], [.int r3, .int a1], M3) Q
      refine jRun.cut (k := jk_X8_shortOnes) rfl 1 (c' := (if ¬ r3 = 0 then 47 else 41, [.ref 54, .int a1, .int a2], [.int a1], M3)) (ob := True ∧ True) rfl ⟨trivial, trivial⟩ ?_
      refine jRun.brn (fun g => ?_) (fun g => ?_)
      · have h := h.1 g
        refine jRun.cut (k := jk_X8_shortOnes) rfl 5 (c' := (4, [.ref 54, .int (a1 ||| 0), .int (a2 + 1)], [], M3)) (ob := True ∧ True ∧ True ∧ True ∧ True ∧ True) rfl ⟨trivial, trivial, trivial, trivial, trivial, trivial⟩ ?_
        exact h
      · have h := h.2 g
        refine jRun.cut (k := jk_X8_shortOnes) rfl 8 (c' := (4, [.ref 54, .int (a1 ||| (1 <<< (a2 &&& 31))), .int (a2 + 1)], [], M3)) (ob := True ∧ True ∧ True ∧ True ∧ True ∧ True ∧ True ∧ True ∧ True) rfl ⟨trivial, trivial, trivial, trivial, trivial, trivial, trivial, trivial, trivial⟩ ?_
        exact h
theorem v_X8_grow {X : jX} {d : Nat} (hI : jInj X T0)  (M : jMem) (Q : Option Value → jMem → Prop) (h : (∀ M1, M1 = jP M 54 31 0 → jOk X T0 d q_X8_layOut [.ref 54, .int (M1 57 32)] M1 (fun v M2 => v = none ∧ jOk X T0 d q_X8_shortOnes [.ref 54] M2 (fun v M3 => ∃ r2, v = some (.int r2) ∧ jRun X T0 (d + 1) q_X8_grow (21, [.ref 54, .int r2], [], M3) Q)))) : jOk X T0 (d + 1) q_X8_grow [.ref 54] M Q := by
  refine jOk.intro (ml := 2) (ls := [.ref 54, .null]) (jTl (by decide)) rfl (Nat.le_of_ble_eq_true rfl) rfl hI ?_
  refine jRun.cut (k := jk_X8_grow) rfl 3 (c' := (5, [.ref 54, .null], [], (jP M 54 31 0))) (ob := True ∧ True ∧ jKd T0 54 = 8 ∧ True) rfl ⟨trivial, trivial, rfl, trivial⟩ ?_
  refine jRun.nm (fun M1 eM1 => ?_)
  have h := h M1 eM1
  refine jRun.call (k := jk_X8_grow) rfl 6 (f := q_X8_layOut) (As := [.ref 54, .int (M1 57 32)]) (c1 := (16, [.ref 54, .null], [], M1)) (ob := True ∧ True ∧ jKd T0 54 = 8 ∧ True ∧ (jKd T0 57 = 9 ∧ vp_in 32 36) ∧ jKd T0 54 = 8) rfl ⟨trivial, trivial, rfl, trivial, ⟨rfl, (vp_in_iff.mpr (by decide))⟩, rfl⟩ h (fun v M2 h => ?_)
  obtain ⟨rfl, h⟩ := h
  show jRun X T0 (d + 1) q_X8_grow (16, [.ref 54, .null], [], M2) Q
  refine jRun.call (k := jk_X8_grow) rfl 2 (f := q_X8_shortOnes) (As := [.ref 54]) (c1 := (20, [.ref 54, .null], [], M2)) (ob := True ∧ jKd T0 54 = 8) rfl ⟨trivial, rfl⟩ h (fun v M3 h => ?_)
  obtain ⟨r2, rfl, h⟩ := h
  show jRun X T0 (d + 1) q_X8_grow (20, [.ref 54, .null], [.int r2], M3) Q
  refine jRun.cut (k := jk_X8_grow) rfl 1 (c' := (21, [.ref 54, .int r2], [], M3)) (ob := True ∧ True) rfl ⟨trivial, trivial⟩ ?_
  exact h
theorem v_X8_grow_21 {X : jX} {d : Nat} (a1 : Int32) (M : jMem) (Q : Option Value → jMem → Prop) (h : ((a1 = 0 → Q none M) ∧ (¬ a1 = 0 → (∀ M1, M1 = jP M 54 31 ((M 54 31) + 1) → jOk X T0 d q_X8_layOut [.ref 54, .int ((M1 54 30) ||| a1)] M1 (fun v M2 => v = none ∧ jOk X T0 d q_X8_shortOnes [.ref 54] M2 (fun v M3 => ∃ r2, v = some (.int r2) ∧ jRun X T0 (d + 1) q_X8_grow (21, [.ref 54, .int r2], [], M3) Q)))))) : jRun X T0 (d + 1) q_X8_grow (21, [.ref 54, .int a1], [], M) Q := by
  refine jRun.cut (k := jk_X8_grow) rfl 2 (c' := (if a1 = 0 then 53 else 25, [.ref 54, .int a1], [], M)) (ob := True ∧ True ∧ True) rfl ⟨trivial, trivial, trivial⟩ ?_
  refine jRun.br (fun g => ?_) (fun g => ?_)
  · have h := h.1 g
    exact jRun.ret (k := jk_X8_grow) rfl 1 (v := none) (M1 := M) (ob := True) rfl trivial h
  · have h := h.2 g
    refine jRun.cut (k := jk_X8_grow) rfl 6 (c' := (35, [.ref 54, .int a1], [], (jP M 54 31 ((M 54 31) + 1)))) (ob := True ∧ True ∧ jKd T0 54 = 8 ∧ True ∧ True ∧ jKd T0 54 = 8 ∧ True) rfl ⟨trivial, trivial, rfl, trivial, trivial, rfl, trivial⟩ ?_
    refine jRun.nm (fun M1 eM1 => ?_)
    have h := h M1 eM1
    refine jRun.call (k := jk_X8_grow) rfl 6 (f := q_X8_layOut) (As := [.ref 54, .int ((M1 54 30) ||| a1)]) (c1 := (45, [.ref 54, .int a1], [], M1)) (ob := True ∧ True ∧ jKd T0 54 = 8 ∧ True ∧ True ∧ jKd T0 54 = 8) rfl ⟨trivial, trivial, rfl, trivial, trivial, rfl⟩ h (fun v M2 h => ?_)
    obtain ⟨rfl, h⟩ := h
    show jRun X T0 (d + 1) q_X8_grow (45, [.ref 54, .int a1], [], M2) Q
    refine jRun.call (k := jk_X8_grow) rfl 2 (f := q_X8_shortOnes) (As := [.ref 54]) (c1 := (49, [.ref 54, .int a1], [], M2)) (ob := True ∧ jKd T0 54 = 8) rfl ⟨trivial, rfl⟩ h (fun v M3 h => ?_)
    obtain ⟨r2, rfl, h⟩ := h
    show jRun X T0 (d + 1) q_X8_grow (49, [.ref 54, .int a1], [.int r2], M3) Q
    refine jRun.cut (k := jk_X8_grow) rfl 2 (c' := (21, [.ref 54, .int r2], [], M3)) (ob := True ∧ True ∧ True) rfl ⟨trivial, trivial, trivial⟩ ?_
    exact h
theorem v_X8_shrink {X : jX} {d : Nat} (hI : jInj X T0)  (M : jMem) (Q : Option Value → jMem → Prop) (h : (∀ M1, M1 = jP M 54 31 0 → jOk X T0 d q_X8_layOut [.ref 54, .int ((1 <<< ((M1 54 12) &&& 31)) - 1)] M1 (fun v M2 => v = none ∧ jRun X T0 (d + 1) q_X8_shrink (21, [.ref 54, .int 0, .int 1, .null, .null, .null], [], M2) Q))) : jOk X T0 (d + 1) q_X8_shrink [.ref 54] M Q := by
  refine jOk.intro (ml := 6) (ls := [.ref 54, .null, .null, .null, .null, .null]) (jTl (by decide)) rfl (Nat.le_of_ble_eq_true rfl) rfl hI ?_
  refine jRun.cut (k := jk_X8_shrink) rfl 3 (c' := (5, [.ref 54, .null, .null, .null, .null, .null], [], (jP M 54 31 0))) (ob := True ∧ True ∧ jKd T0 54 = 8 ∧ True) rfl ⟨trivial, trivial, rfl, trivial⟩ ?_
  refine jRun.nm (fun M1 eM1 => ?_)
  have h := h M1 eM1
  refine jRun.call (k := jk_X8_shrink) rfl 8 (f := q_X8_layOut) (As := [.ref 54, .int ((1 <<< ((M1 54 12) &&& 31)) - 1)]) (c1 := (17, [.ref 54, .null, .null, .null, .null, .null], [], M1)) (ob := True ∧ True ∧ True ∧ jKd T0 54 = 8 ∧ True ∧ True ∧ True ∧ jKd T0 54 = 8) rfl ⟨trivial, trivial, trivial, rfl, trivial, trivial, trivial, rfl⟩ h (fun v M2 h => ?_)
  obtain ⟨rfl, h⟩ := h
  show jRun X T0 (d + 1) q_X8_shrink (17, [.ref 54, .null, .null, .null, .null, .null], [], M2) Q
  refine jRun.cut (k := jk_X8_shrink) rfl 4 (c' := (21, [.ref 54, .int 0, .int 1, .null, .null, .null], [], M2)) (ob := True ∧ True ∧ True ∧ True ∧ True) rfl ⟨trivial, trivial, trivial, trivial, trivial⟩ ?_
  exact h
theorem v_X8_shrink_21 {X : jX} {d : Nat} (a1 : Int32) (a2 : Int32) (M : jMem) (Q : Option Value → jMem → Prop) (h : ((a2 = 0 → Q none M) ∧ (¬ a2 = 0 → jRun X T0 (d + 1) q_X8_shrink (29, [.ref 54, .int a1, .int 0, .int 0, .null, .null], [], M) Q))) : jRun X T0 (d + 1) q_X8_shrink (21, [.ref 54, .int a1, .int a2, .null, .null, .null], [], M) Q := by
  refine jRun.cut (k := jk_X8_shrink) rfl 2 (c' := (if a2 = 0 then 192 else 25, [.ref 54, .int a1, .int a2, .null, .null, .null], [], M)) (ob := True ∧ True ∧ True) rfl ⟨trivial, trivial, trivial⟩ ?_
  refine jRun.br (fun g => ?_) (fun g => ?_)
  · have h := h.1 g
    exact jRun.ret (k := jk_X8_shrink) rfl 1 (v := none) (M1 := M) (ob := True) rfl trivial h
  · have h := h.2 g
    refine jRun.cut (k := jk_X8_shrink) rfl 4 (c' := (29, [.ref 54, .int a1, .int 0, .int 0, .null, .null], [], M)) (ob := True ∧ True ∧ True ∧ True ∧ True) rfl ⟨trivial, trivial, trivial, trivial, trivial⟩ ?_
    exact h
theorem v_X8_shrink_29 {X : jX} {d : Nat} (a1 : Int32) (a2 : Int32) (a3 : Int32) (M : jMem) (Q : Option Value → jMem → Prop) (h : (((M 54 12) ≤ a3 → ((a2 = 0 → jRun X T0 (d + 1) q_X8_shrink (142, [.ref 54, .int a1, .int a2, .int a3, .null, .null], [.int 0, .int (M 54 31), .ref 54], M) Q) ∧ (¬ a2 = 0 → jRun X T0 (d + 1) q_X8_shrink (142, [.ref 54, .int a1, .int a2, .int a3, .null, .null], [.int 1, .int (M 54 31), .ref 54], M) Q))) ∧ (¬ (M 54 12) ≤ a3 → vp_in a3 10 ∧ jOk X T0 d q_X8_farOf [.ref 54, .int (M 58 a3.toNatClampNeg)] M (fun v M1 => ∃ r1, v = some (.int r1) ∧ vp_in (M 58 a3.toNatClampNeg) 36 ∧ vp_in (M1 57 (M 58 a3.toNatClampNeg).toNatClampNeg) 8 ∧ (((M 58 a3.toNatClampNeg) ≤ (M1 61 (M1 57 (M 58 a3.toNatClampNeg).toNatClampNeg).toNatClampNeg) → jRun X T0 (d + 1) q_X8_shrink (73, [.ref 54, .int a1, .int a2, .int a3, .int (M 58 a3.toNatClampNeg), .null], [.int 0, .int r1], M1) Q) ∧ (¬ (M 58 a3.toNatClampNeg) ≤ (M1 61 (M1 57 (M 58 a3.toNatClampNeg).toNatClampNeg).toNatClampNeg) → jRun X T0 (d + 1) q_X8_shrink (73, [.ref 54, .int a1, .int a2, .int a3, .int (M 58 a3.toNatClampNeg), .null], [.int 3, .int r1], M1) Q)))))) : jRun X T0 (d + 1) q_X8_shrink (29, [.ref 54, .int a1, .int a2, .int a3, .null, .null], [], M) Q := by
  refine jRun.cut (k := jk_X8_shrink) rfl 4 (c' := (if (M 54 12) ≤ a3 then 128 else 37, [.ref 54, .int a1, .int a2, .int a3, .null, .null], [], M)) (ob := True ∧ True ∧ jKd T0 54 = 8 ∧ True ∧ True) rfl ⟨trivial, trivial, rfl, trivial, trivial⟩ ?_
  refine jRun.br (fun g => ?_) (fun g => ?_)
  · have h := h.1 g
    refine jRun.cut (k := jk_X8_shrink) rfl 5 (c' := (if a2 = 0 then 141 else 137, [.ref 54, .int a1, .int a2, .int a3, .null, .null], [.int (M 54 31), .ref 54], M)) (ob := True ∧ True ∧ jKd T0 54 = 8 ∧ True ∧ True ∧ True) rfl ⟨trivial, trivial, rfl, trivial, trivial, trivial⟩ ?_
    refine jRun.br (fun g => ?_) (fun g => ?_)
    · have h := h.1 g
      refine jRun.cut (k := jk_X8_shrink) rfl 1 (c' := (142, [.ref 54, .int a1, .int a2, .int a3, .null, .null], [.int 0, .int (M 54 31), .ref 54], M)) (ob := True ∧ True) rfl ⟨trivial, trivial⟩ ?_
      exact h
    · have h := h.2 g
      refine jRun.cut (k := jk_X8_shrink) rfl 2 (c' := (142, [.ref 54, .int a1, .int a2, .int a3, .null, .null], [.int 1, .int (M 54 31), .ref 54], M)) (ob := True ∧ True ∧ True) rfl ⟨trivial, trivial, trivial⟩ ?_
      exact h
  · have h := h.2 g
    obtain ⟨o1, h⟩ := h
    refine jRun.call (k := jk_X8_shrink) rfl 8 (f := q_X8_farOf) (As := [.ref 54, .int (M 58 a3.toNatClampNeg)]) (c1 := (51, [.ref 54, .int a1, .int a2, .int a3, .int (M 58 a3.toNatClampNeg), .null], [], M)) (ob := True ∧ jKd T0 54 = 8 ∧ True ∧ (jKd T0 58 = 9 ∧ vp_in a3 10) ∧ True ∧ True ∧ True ∧ jKd T0 54 = 8) rfl ⟨trivial, rfl, trivial, ⟨rfl, o1⟩, trivial, trivial, trivial, rfl⟩ h (fun v M1 h => ?_)
    obtain ⟨r1, rfl, h⟩ := h
    show jRun X T0 (d + 1) q_X8_shrink (51, [.ref 54, .int a1, .int a2, .int a3, .int (M 58 a3.toNatClampNeg), .null], [.int r1], M1) Q
    obtain ⟨o2, o3, h⟩ := h
    refine jRun.cut (k := jk_X8_shrink) rfl 9 (c' := (if (M 58 a3.toNatClampNeg) ≤ (M1 61 (M1 57 (M 58 a3.toNatClampNeg).toNatClampNeg).toNatClampNeg) then 72 else 68, [.ref 54, .int a1, .int a2, .int a3, .int (M 58 a3.toNatClampNeg), .null], [.int r1], M1)) (ob := True ∧ jKd T0 54 = 8 ∧ True ∧ jKd T0 54 = 8 ∧ True ∧ (jKd T0 57 = 9 ∧ vp_in (M 58 a3.toNatClampNeg) 36) ∧ (jKd T0 61 = 9 ∧ vp_in (M1 57 (M 58 a3.toNatClampNeg).toNatClampNeg) 8) ∧ True ∧ True ∧ True) rfl ⟨trivial, rfl, trivial, rfl, trivial, ⟨rfl, o2⟩, ⟨rfl, o3⟩, trivial, trivial, trivial⟩ ?_
    refine jRun.br (fun g => ?_) (fun g => ?_)
    · have h := h.1 g
      refine jRun.cut (k := jk_X8_shrink) rfl 1 (c' := (73, [.ref 54, .int a1, .int a2, .int a3, .int (M 58 a3.toNatClampNeg), .null], [.int 0, .int r1], M1)) (ob := True ∧ True) rfl ⟨trivial, trivial⟩ ?_
      exact h
    · have h := h.2 g
      refine jRun.cut (k := jk_X8_shrink) rfl 2 (c' := (73, [.ref 54, .int a1, .int a2, .int a3, .int (M 58 a3.toNatClampNeg), .null], [.int 3, .int r1], M1)) (ob := True ∧ True ∧ True) rfl ⟨trivial, trivial, trivial⟩ ?_
      exact h
theorem v_X8_shrink_73 {X : jX} {d : Nat} (a1 : Int32) (a2 : Int32) (a3 : Int32) (a4 : Int32) (s0 : Int32) (s1 : Int32) (M : jMem) (Q : Option Value → jMem → Prop) (h : jOk X T0 d q_X8_has [.int (M 54 30), .int a3] M (fun v M1 => ∃ r1, v = some (.int r1) ∧ ((r1 = 0 → jRun X T0 (d + 1) q_X8_shrink (119, [.ref 54, .int a1, .int a2, .int a3, .int a4, .int (s1 + s0)], [.int a2], M1) Q) ∧ (¬ r1 = 0 → jOk X T0 d q_X8_has [.int ((M1 57 32) ||| a1), .int a3] M1 (fun v M2 => ∃ r2, v = some (.int r2) ∧ ((¬ r2 = 0 → jRun X T0 (d + 1) q_X8_shrink (119, [.ref 54, .int a1, .int a2, .int a3, .int a4, .int (s1 + s0)], [.int a2], M2) Q) ∧ (r2 = 0 → jOk X T0 d q_X8_isNear [.ref 54, .int (s1 + s0)] M2 (fun v M3 => ∃ r3, v = some (.int r3) ∧ ((r3 = 0 → jRun X T0 (d + 1) q_X8_shrink (119, [.ref 54, .int a1, .int a2, .int a3, .int a4, .int (s1 + s0)], [.int a2], M3) Q) ∧ (¬ r3 = 0 → jRun X T0 (d + 1) q_X8_shrink (120, [.ref 54, .int a1, .int a2, .int a3, .int a4, .int (s1 + s0)], [.int (1 <<< (a3 &&& 31)), .int a2], M3) Q)))))))))) : jRun X T0 (d + 1) q_X8_shrink (73, [.ref 54, .int a1, .int a2, .int a3, .int a4, .null], [.int s0, .int s1], M) Q := by
  refine jRun.call (k := jk_X8_shrink) rfl 7 (f := q_X8_has) (As := [.int (M 54 30), .int a3]) (c1 := (85, [.ref 54, .int a1, .int a2, .int a3, .int a4, .int (s1 + s0)], [.int a2], M)) (ob := True ∧ True ∧ True ∧ True ∧ jKd T0 54 = 8 ∧ True ∧ True) rfl ⟨trivial, trivial, trivial, trivial, rfl, trivial, trivial⟩ h (fun v M1 h => ?_)
  obtain ⟨r1, rfl, h⟩ := h
  show jRun X T0 (d + 1) q_X8_shrink (85, [.ref 54, .int a1, .int a2, .int a3, .int a4, .int (s1 + s0)], [.int r1, .int a2], M1) Q
  refine jRun.cut (k := jk_X8_shrink) rfl 1 (c' := (if r1 = 0 then 119 else 88, [.ref 54, .int a1, .int a2, .int a3, .int a4, .int (s1 + s0)], [.int a2], M1)) (ob := True ∧ True) rfl ⟨trivial, trivial⟩ ?_
  refine jRun.br (fun g => ?_) (fun g => ?_)
  · have h := h.1 g
    exact h
  · have h := h.2 g
    refine jRun.call (k := jk_X8_shrink) rfl 8 (f := q_X8_has) (As := [.int ((M1 57 32) ||| a1), .int a3]) (c1 := (101, [.ref 54, .int a1, .int a2, .int a3, .int a4, .int (s1 + s0)], [.int a2], M1)) (ob := True ∧ jKd T0 54 = 8 ∧ True ∧ (jKd T0 57 = 9 ∧ vp_in 32 36) ∧ True ∧ True ∧ True ∧ True) rfl ⟨trivial, rfl, trivial, ⟨rfl, (vp_in_iff.mpr (by decide))⟩, trivial, trivial, trivial, trivial⟩ h (fun v M2 h => ?_)
    obtain ⟨r2, rfl, h⟩ := h
    show jRun X T0 (d + 1) q_X8_shrink (101, [.ref 54, .int a1, .int a2, .int a3, .int a4, .int (s1 + s0)], [.int r2, .int a2], M2) Q
    refine jRun.cut (k := jk_X8_shrink) rfl 1 (c' := (if ¬ r2 = 0 then 119 else 104, [.ref 54, .int a1, .int a2, .int a3, .int a4, .int (s1 + s0)], [.int a2], M2)) (ob := True ∧ True) rfl ⟨trivial, trivial⟩ ?_
    refine jRun.brn (fun g => ?_) (fun g => ?_)
    · have h := h.1 g
      exact h
    · have h := h.2 g
      refine jRun.call (k := jk_X8_shrink) rfl 3 (f := q_X8_isNear) (As := [.ref 54, .int (s1 + s0)]) (c1 := (110, [.ref 54, .int a1, .int a2, .int a3, .int a4, .int (s1 + s0)], [.int a2], M2)) (ob := True ∧ True ∧ jKd T0 54 = 8) rfl ⟨trivial, trivial, rfl⟩ h (fun v M3 h => ?_)
      obtain ⟨r3, rfl, h⟩ := h
      show jRun X T0 (d + 1) q_X8_shrink (110, [.ref 54, .int a1, .int a2, .int a3, .int a4, .int (s1 + s0)], [.int r3, .int a2], M3) Q
      refine jRun.cut (k := jk_X8_shrink) rfl 1 (c' := (if r3 = 0 then 119 else 113, [.ref 54, .int a1, .int a2, .int a3, .int a4, .int (s1 + s0)], [.int a2], M3)) (ob := True ∧ True) rfl ⟨trivial, trivial⟩ ?_
      refine jRun.br (fun g => ?_) (fun g => ?_)
      · have h := h.1 g
        exact h
      · have h := h.2 g
        refine jRun.cut (k := jk_X8_shrink) rfl 4 (c' := (120, [.ref 54, .int a1, .int a2, .int a3, .int a4, .int (s1 + s0)], [.int (1 <<< (a3 &&& 31)), .int a2], M3)) (ob := True ∧ True ∧ True ∧ True ∧ True) rfl ⟨trivial, trivial, trivial, trivial, trivial⟩ ?_
        exact h
theorem v_X8_shrink_119 {X : jX} {d : Nat} (a1 : Int32) (a2 : Int32) (a3 : Int32) (a4 : Int32) (a5 : Int32) (s0 : Int32) (M : jMem) (Q : Option Value → jMem → Prop) (h : jRun X T0 (d + 1) q_X8_shrink (120, [.ref 54, .int a1, .int a2, .int a3, .int a4, .int a5], [.int 0, .int s0], M) Q) : jRun X T0 (d + 1) q_X8_shrink (119, [.ref 54, .int a1, .int a2, .int a3, .int a4, .int a5], [.int s0], M) Q := by
  refine jRun.cut (k := jk_X8_shrink) rfl 1 (c' := (120, [.ref 54, .int a1, .int a2, .int a3, .int a4, .int a5], [.int 0, .int s0], M)) (ob := True ∧ True) rfl ⟨trivial, trivial⟩ ?_
  exact h
theorem v_X8_shrink_120 {X : jX} {d : Nat} (a1 : Int32) (a2 : Int32) (a3 : Int32) (a4 : Int32) (a5 : Int32) (s0 : Int32) (s1 : Int32) (M : jMem) (Q : Option Value → jMem → Prop) (h : jRun X T0 (d + 1) q_X8_shrink (29, [.ref 54, .int a1, .int (s1 ||| s0), .int (a3 + 1), .null, .null], [], M) Q) : jRun X T0 (d + 1) q_X8_shrink (120, [.ref 54, .int a1, .int a2, .int a3, .int a4, .int a5], [.int s0, .int s1], M) Q := by
  refine jRun.cut (k := jk_X8_shrink) rfl 4 (c' := (29, [.ref 54, .int a1, .int (s1 ||| s0), .int (a3 + 1), .int a4, .int a5], [], M)) (ob := True ∧ True ∧ True ∧ True ∧ True) rfl ⟨trivial, trivial, trivial, trivial, trivial⟩ ?_
  exact jRun.weak (by simp [jFew]) h
theorem v_X8_shrink_142 {X : jX} {d : Nat} (a1 : Int32) (a2 : Int32) (a3 : Int32) (s0 : Int32) (s1 : Int32) (s2 : Nat) (M : jMem) (Q : Option Value → jMem → Prop) (h : jKd T0 s2 = 8 ∧ (∀ M1, M1 = jP M s2 31 (s1 + s0) → jOk X T0 d q_X8_layOut [.ref 54, .int ((M1 54 30) &&& (a2 ^^^ (-1)))] M1 (fun v M2 => v = none ∧ jOk X T0 d q_X8_shortOnes [.ref 54] M2 (fun v M3 => ∃ r2, v = some (.int r2) ∧ jRun X T0 (d + 1) q_X8_shrink (163, [.ref 54, .int a1, .int a2, .int r2, .null, .null], [], M3) Q)))) : jRun X T0 (d + 1) q_X8_shrink (142, [.ref 54, .int a1, .int a2, .int a3, .null, .null], [.int s0, .int s1, .ref s2], M) Q := by
  obtain ⟨o1, h⟩ := h
  refine jRun.cut (k := jk_X8_shrink) rfl 2 (c' := (146, [.ref 54, .int a1, .int a2, .int a3, .null, .null], [], (jP M s2 31 (s1 + s0)))) (ob := True ∧ jKd T0 s2 = 8 ∧ True) rfl ⟨trivial, o1, trivial⟩ ?_
  refine jRun.nm (fun M1 eM1 => ?_)
  have h := h M1 eM1
  refine jRun.call (k := jk_X8_shrink) rfl 8 (f := q_X8_layOut) (As := [.ref 54, .int ((M1 54 30) &&& (a2 ^^^ (-1)))]) (c1 := (158, [.ref 54, .int a1, .int a2, .int a3, .null, .null], [], M1)) (ob := True ∧ True ∧ jKd T0 54 = 8 ∧ True ∧ True ∧ True ∧ True ∧ jKd T0 54 = 8) rfl ⟨trivial, trivial, rfl, trivial, trivial, trivial, trivial, rfl⟩ h (fun v M2 h => ?_)
  obtain ⟨rfl, h⟩ := h
  show jRun X T0 (d + 1) q_X8_shrink (158, [.ref 54, .int a1, .int a2, .int a3, .null, .null], [], M2) Q
  refine jRun.call (k := jk_X8_shrink) rfl 2 (f := q_X8_shortOnes) (As := [.ref 54]) (c1 := (162, [.ref 54, .int a1, .int a2, .int a3, .null, .null], [], M2)) (ob := True ∧ jKd T0 54 = 8) rfl ⟨trivial, rfl⟩ h (fun v M3 h => ?_)
  obtain ⟨r2, rfl, h⟩ := h
  show jRun X T0 (d + 1) q_X8_shrink (162, [.ref 54, .int a1, .int a2, .int a3, .null, .null], [.int r2], M3) Q
  refine jRun.cut (k := jk_X8_shrink) rfl 1 (c' := (163, [.ref 54, .int a1, .int a2, .int r2, .null, .null], [], M3)) (ob := True ∧ True) rfl ⟨trivial, trivial⟩ ?_
  exact h
theorem v_X8_shrink_163 {X : jX} {d : Nat} (a1 : Int32) (a2 : Int32) (a3 : Int32) (M : jMem) (Q : Option Value → jMem → Prop) (h : ((a3 = 0 → jRun X T0 (d + 1) q_X8_shrink (21, [.ref 54, .int a1, .int a2, .null, .null, .null], [], M) Q) ∧ (¬ a3 = 0 → jOk X T0 d q_X8_layOut [.ref 54, .int ((M 54 30) ||| a3)] M (fun v M1 => v = none ∧ jOk X T0 d q_X8_shortOnes [.ref 54] M1 (fun v M2 => ∃ r2, v = some (.int r2) ∧ jRun X T0 (d + 1) q_X8_shrink (163, [.ref 54, .int (a1 ||| a3), .int a2, .int r2, .null, .null], [], M2) Q))))) : jRun X T0 (d + 1) q_X8_shrink (163, [.ref 54, .int a1, .int a2, .int a3, .null, .null], [], M) Q := by
  refine jRun.cut (k := jk_X8_shrink) rfl 2 (c' := (if a3 = 0 then 189 else 167, [.ref 54, .int a1, .int a2, .int a3, .null, .null], [], M)) (ob := True ∧ True ∧ True) rfl ⟨trivial, trivial, trivial⟩ ?_
  refine jRun.br (fun g => ?_) (fun g => ?_)
  · have h := h.1 g
    refine jRun.cut (k := jk_X8_shrink) rfl 1 (c' := (21, [.ref 54, .int a1, .int a2, .int a3, .null, .null], [], M)) (ob := True ∧ True) rfl ⟨trivial, trivial⟩ ?_
    exact jRun.weak (by simp [jFew]) h
  · have h := h.2 g
    refine jRun.call (k := jk_X8_shrink) rfl 10 (f := q_X8_layOut) (As := [.ref 54, .int ((M 54 30) ||| a3)]) (c1 := (181, [.ref 54, .int (a1 ||| a3), .int a2, .int a3, .null, .null], [], M)) (ob := True ∧ True ∧ True ∧ True ∧ True ∧ True ∧ jKd T0 54 = 8 ∧ True ∧ True ∧ jKd T0 54 = 8) rfl ⟨trivial, trivial, trivial, trivial, trivial, trivial, rfl, trivial, trivial, rfl⟩ h (fun v M1 h => ?_)
    obtain ⟨rfl, h⟩ := h
    show jRun X T0 (d + 1) q_X8_shrink (181, [.ref 54, .int (a1 ||| a3), .int a2, .int a3, .null, .null], [], M1) Q
    refine jRun.call (k := jk_X8_shrink) rfl 2 (f := q_X8_shortOnes) (As := [.ref 54]) (c1 := (185, [.ref 54, .int (a1 ||| a3), .int a2, .int a3, .null, .null], [], M1)) (ob := True ∧ jKd T0 54 = 8) rfl ⟨trivial, rfl⟩ h (fun v M2 h => ?_)
    obtain ⟨r2, rfl, h⟩ := h
    show jRun X T0 (d + 1) q_X8_shrink (185, [.ref 54, .int (a1 ||| a3), .int a2, .int a3, .null, .null], [.int r2], M2) Q
    refine jRun.cut (k := jk_X8_shrink) rfl 2 (c' := (163, [.ref 54, .int (a1 ||| a3), .int a2, .int r2, .null, .null], [], M2)) (ob := True ∧ True ∧ True) rfl ⟨trivial, trivial, trivial⟩ ?_
    exact h
theorem v_X8_leastOf {X : jX} {d : Nat} (hI : jInj X T0)  (M : jMem) (Q : Option Value → jMem → Prop) (h : (∀ M1, M1 = jP M 54 31 0 → jRun X T0 (d + 1) q_X8_leastOf (12, [.ref 54, .int (-9), .int 0, .int 0, .null, .null], [], M1) Q)) : jOk X T0 (d + 1) q_X8_leastOf [.ref 54] M Q := by
  refine jOk.intro (ml := 6) (ls := [.ref 54, .null, .null, .null, .null, .null]) (jTl (by decide)) rfl (Nat.le_of_ble_eq_true rfl) rfl hI ?_
  refine jRun.cut (k := jk_X8_leastOf) rfl 3 (c' := (5, [.ref 54, .null, .null, .null, .null, .null], [], (jP M 54 31 0))) (ob := True ∧ True ∧ jKd T0 54 = 8 ∧ True) rfl ⟨trivial, trivial, rfl, trivial⟩ ?_
  refine jRun.nm (fun M1 eM1 => ?_)
  have h := h M1 eM1
  refine jRun.cut (k := jk_X8_leastOf) rfl 6 (c' := (12, [.ref 54, .int (-9), .int 0, .int 0, .null, .null], [], M1)) (ob := True ∧ True ∧ True ∧ True ∧ True ∧ True ∧ True) rfl ⟨trivial, trivial, trivial, trivial, trivial, trivial, trivial⟩ ?_
  exact h
theorem v_X8_leastOf_12 {X : jX} {d : Nat} (a1 : Int32) (a2 : Int32) (a3 : Int32) (M : jMem) (Q : Option Value → jMem → Prop) (h : (((1 <<< ((M 54 12) &&& 31)) ≤ a3 → jOk X T0 d q_X8_layOut [.ref 54, .int a1] M (fun v M1 => v = none ∧ Q none M1)) ∧ (¬ (1 <<< ((M 54 12) &&& 31)) ≤ a3 → ((¬ ((M 57 32) &&& (a3 ^^^ (-1))) = 0 → jRun X T0 (d + 1) q_X8_leastOf (127, [.ref 54, .int a1, .int a2, .int a3, .null, .null], [], M) Q) ∧ (((M 57 32) &&& (a3 ^^^ (-1))) = 0 → jOk X T0 d q_X8_layOut [.ref 54, .int a3] M (fun v M2 => v = none ∧ jOk X T0 d q_X8_shortOnes [.ref 54] M2 (fun v M3 => ∃ r3, v = some (.int r3) ∧ ((¬ r3 = 0 → jRun X T0 (d + 1) q_X8_leastOf (53, [.ref 54, .int a1, .int a2, .int a3, .null, .null], [.int 0], M3) Q) ∧ (r3 = 0 → jRun X T0 (d + 1) q_X8_leastOf (53, [.ref 54, .int a1, .int a2, .int a3, .null, .null], [.int 1], M3) Q))))))))) : jRun X T0 (d + 1) q_X8_leastOf (12, [.ref 54, .int a1, .int a2, .int a3, .null, .null], [], M) Q := by
  refine jRun.cut (k := jk_X8_leastOf) rfl 6 (c' := (if (1 <<< ((M 54 12) &&& 31)) ≤ a3 then 133 else 22, [.ref 54, .int a1, .int a2, .int a3, .null, .null], [], M)) (ob := True ∧ True ∧ True ∧ jKd T0 54 = 8 ∧ True ∧ True ∧ True) rfl ⟨trivial, trivial, trivial, rfl, trivial, trivial, trivial⟩ ?_
  refine jRun.br (fun g => ?_) (fun g => ?_)
  · have h := h.1 g
    refine jRun.call (k := jk_X8_leastOf) rfl 3 (f := q_X8_layOut) (As := [.ref 54, .int a1]) (c1 := (138, [.ref 54, .int a1, .int a2, .int a3, .null, .null], [], M)) (ob := True ∧ True ∧ jKd T0 54 = 8) rfl ⟨trivial, trivial, rfl⟩ h (fun v M1 h => ?_)
    obtain ⟨rfl, h⟩ := h
    show jRun X T0 (d + 1) q_X8_leastOf (138, [.ref 54, .int a1, .int a2, .int a3, .null, .null], [], M1) Q
    exact jRun.ret (k := jk_X8_leastOf) rfl 1 (v := none) (M1 := M1) (ob := True) rfl trivial h
  · have h := h.2 g
    refine jRun.cut (k := jk_X8_leastOf) rfl 9 (c' := (if ¬ ((M 57 32) &&& (a3 ^^^ (-1))) = 0 then 127 else 36, [.ref 54, .int a1, .int a2, .int a3, .null, .null], [], M)) (ob := True ∧ jKd T0 54 = 8 ∧ True ∧ (jKd T0 57 = 9 ∧ vp_in 32 36) ∧ True ∧ True ∧ True ∧ True ∧ True ∧ True) rfl ⟨trivial, rfl, trivial, ⟨rfl, (vp_in_iff.mpr (by decide))⟩, trivial, trivial, trivial, trivial, trivial, trivial⟩ ?_
    refine jRun.brn (fun g => ?_) (fun g => ?_)
    · have h := h.1 g
      exact h
    · have h := h.2 g
      refine jRun.call (k := jk_X8_leastOf) rfl 3 (f := q_X8_layOut) (As := [.ref 54, .int a3]) (c1 := (41, [.ref 54, .int a1, .int a2, .int a3, .null, .null], [], M)) (ob := True ∧ True ∧ jKd T0 54 = 8) rfl ⟨trivial, trivial, rfl⟩ h (fun v M2 h => ?_)
      obtain ⟨rfl, h⟩ := h
      show jRun X T0 (d + 1) q_X8_leastOf (41, [.ref 54, .int a1, .int a2, .int a3, .null, .null], [], M2) Q
      refine jRun.call (k := jk_X8_leastOf) rfl 2 (f := q_X8_shortOnes) (As := [.ref 54]) (c1 := (45, [.ref 54, .int a1, .int a2, .int a3, .null, .null], [], M2)) (ob := True ∧ jKd T0 54 = 8) rfl ⟨trivial, rfl⟩ h (fun v M3 h => ?_)
      obtain ⟨r3, rfl, h⟩ := h
      show jRun X T0 (d + 1) q_X8_leastOf (45, [.ref 54, .int a1, .int a2, .int a3, .null, .null], [.int r3], M3) Q
      refine jRun.cut (k := jk_X8_leastOf) rfl 1 (c' := (if ¬ r3 = 0 then 52 else 48, [.ref 54, .int a1, .int a2, .int a3, .null, .null], [], M3)) (ob := True ∧ True) rfl ⟨trivial, trivial⟩ ?_
      refine jRun.brn (fun g => ?_) (fun g => ?_)
      · have h := h.1 g
        refine jRun.cut (k := jk_X8_leastOf) rfl 1 (c' := (53, [.ref 54, .int a1, .int a2, .int a3, .null, .null], [.int 0], M3)) (ob := True ∧ True) rfl ⟨trivial, trivial⟩ ?_
        exact h
      · have h := h.2 g
        refine jRun.cut (k := jk_X8_leastOf) rfl 2 (c' := (53, [.ref 54, .int a1, .int a2, .int a3, .null, .null], [.int 1], M3)) (ob := True ∧ True ∧ True) rfl ⟨trivial, trivial, trivial⟩ ?_
        exact h
theorem v_X8_leastOf_53 {X : jX} {d : Nat} (a1 : Int32) (a2 : Int32) (a3 : Int32) (s0 : Int32) (M : jMem) (Q : Option Value → jMem → Prop) (h : ((a1 = (-9) → jRun X T0 (d + 1) q_X8_leastOf (98, [.ref 54, .int a1, .int a2, .int a3, .int s0, .null], [], M) Q) ∧ (¬ a1 = (-9) → vp_in (M 54 7) 33 ∧ (((M 69 (M 54 7).toNatClampNeg) < a2 → jRun X T0 (d + 1) q_X8_leastOf (98, [.ref 54, .int a1, .int a2, .int a3, .int s0, .null], [], M) Q) ∧ (¬ (M 69 (M 54 7).toNatClampNeg) < a2 → ((¬ (M 69 (M 54 7).toNatClampNeg) = a2 → jRun X T0 (d + 1) q_X8_leastOf (102, [.ref 54, .int a1, .int a2, .int a3, .int s0, .null], [], M) Q) ∧ ((M 69 (M 54 7).toNatClampNeg) = a2 → jOk X T0 d q_X8_bits [.int a3] M (fun v M1 => ∃ r1, v = some (.int r1) ∧ jOk X T0 d q_X8_bits [.int a1] M1 (fun v M2 => ∃ r2, v = some (.int r2) ∧ ((r2 ≤ r1 → jRun X T0 (d + 1) q_X8_leastOf (102, [.ref 54, .int a1, .int a2, .int a3, .int s0, .null], [], M2) Q) ∧ (¬ r2 ≤ r1 → jRun X T0 (d + 1) q_X8_leastOf (98, [.ref 54, .int a1, .int a2, .int a3, .int s0, .null], [], M2) Q))))))))))) : jRun X T0 (d + 1) q_X8_leastOf (53, [.ref 54, .int a1, .int a2, .int a3, .null, .null], [.int s0], M) Q := by
  refine jRun.cut (k := jk_X8_leastOf) rfl 4 (c' := (if a1 = (-9) then 98 else 61, [.ref 54, .int a1, .int a2, .int a3, .int s0, .null], [], M)) (ob := True ∧ True ∧ True ∧ True ∧ True) rfl ⟨trivial, trivial, trivial, trivial, trivial⟩ ?_
  refine jRun.br (fun g => ?_) (fun g => ?_)
  · have h := h.1 g
    exact h
  · have h := h.2 g
    obtain ⟨o1, h⟩ := h
    refine jRun.cut (k := jk_X8_leastOf) rfl 7 (c' := (if (M 69 (M 54 7).toNatClampNeg) < a2 then 98 else 74, [.ref 54, .int a1, .int a2, .int a3, .int s0, .null], [], M)) (ob := True ∧ jKd T0 54 = 8 ∧ True ∧ jKd T0 54 = 8 ∧ (jKd T0 69 = 9 ∧ vp_in (M 54 7) 33) ∧ True ∧ True ∧ True) rfl ⟨trivial, rfl, trivial, rfl, ⟨rfl, o1⟩, trivial, trivial, trivial⟩ ?_
    refine jRun.br (fun g => ?_) (fun g => ?_)
    · have h := h.1 g
      exact h
    · have h := h.2 g
      refine jRun.cut (k := jk_X8_leastOf) rfl 7 (c' := (if ¬ (M 69 (M 54 7).toNatClampNeg) = a2 then 102 else 87, [.ref 54, .int a1, .int a2, .int a3, .int s0, .null], [], M)) (ob := True ∧ jKd T0 54 = 8 ∧ True ∧ jKd T0 54 = 8 ∧ (jKd T0 69 = 9 ∧ vp_in (M 54 7) 33) ∧ True ∧ True ∧ True) rfl ⟨trivial, rfl, trivial, rfl, ⟨rfl, o1⟩, trivial, trivial, trivial⟩ ?_
      refine jRun.brn (fun g => ?_) (fun g => ?_)
      · have h := h.1 g
        exact h
      · have h := h.2 g
        refine jRun.call (k := jk_X8_leastOf) rfl 2 (f := q_X8_bits) (As := [.int a3]) (c1 := (91, [.ref 54, .int a1, .int a2, .int a3, .int s0, .null], [], M)) (ob := True ∧ True) rfl ⟨trivial, trivial⟩ h (fun v M1 h => ?_)
        obtain ⟨r1, rfl, h⟩ := h
        show jRun X T0 (d + 1) q_X8_leastOf (91, [.ref 54, .int a1, .int a2, .int a3, .int s0, .null], [.int r1], M1) Q
        refine jRun.call (k := jk_X8_leastOf) rfl 2 (f := q_X8_bits) (As := [.int a1]) (c1 := (95, [.ref 54, .int a1, .int a2, .int a3, .int s0, .null], [.int r1], M1)) (ob := True ∧ True) rfl ⟨trivial, trivial⟩ h (fun v M2 h => ?_)
        obtain ⟨r2, rfl, h⟩ := h
        show jRun X T0 (d + 1) q_X8_leastOf (95, [.ref 54, .int a1, .int a2, .int a3, .int s0, .null], [.int r2, .int r1], M2) Q
        refine jRun.cut (k := jk_X8_leastOf) rfl 1 (c' := (if r2 ≤ r1 then 102 else 98, [.ref 54, .int a1, .int a2, .int a3, .int s0, .null], [], M2)) (ob := True ∧ True) rfl ⟨trivial, trivial⟩ ?_
        refine jRun.br (fun g => ?_) (fun g => ?_)
        · have h := h.1 g
          exact h
        · have h := h.2 g
          exact h
theorem v_X8_leastOf_98 {X : jX} {d : Nat} (a1 : Int32) (a2 : Int32) (a3 : Int32) (a4 : Int32) (M : jMem) (Q : Option Value → jMem → Prop) (h : jRun X T0 (d + 1) q_X8_leastOf (103, [.ref 54, .int a1, .int a2, .int a3, .int a4, .null], [.int 1], M) Q) : jRun X T0 (d + 1) q_X8_leastOf (98, [.ref 54, .int a1, .int a2, .int a3, .int a4, .null], [], M) Q := by
  refine jRun.cut (k := jk_X8_leastOf) rfl 2 (c' := (103, [.ref 54, .int a1, .int a2, .int a3, .int a4, .null], [.int 1], M)) (ob := True ∧ True ∧ True) rfl ⟨trivial, trivial, trivial⟩ ?_
  exact h
theorem v_X8_leastOf_102 {X : jX} {d : Nat} (a1 : Int32) (a2 : Int32) (a3 : Int32) (a4 : Int32) (M : jMem) (Q : Option Value → jMem → Prop) (h : jRun X T0 (d + 1) q_X8_leastOf (103, [.ref 54, .int a1, .int a2, .int a3, .int a4, .null], [.int 0], M) Q) : jRun X T0 (d + 1) q_X8_leastOf (102, [.ref 54, .int a1, .int a2, .int a3, .int a4, .null], [], M) Q := by
  refine jRun.cut (k := jk_X8_leastOf) rfl 1 (c' := (103, [.ref 54, .int a1, .int a2, .int a3, .int a4, .null], [.int 0], M)) (ob := True ∧ True) rfl ⟨trivial, trivial⟩ ?_
  exact h
theorem v_X8_leastOf_103 {X : jX} {d : Nat} (a1 : Int32) (a2 : Int32) (a3 : Int32) (a4 : Int32) (s0 : Int32) (M : jMem) (Q : Option Value → jMem → Prop) (h : ((a4 = 0 → jRun X T0 (d + 1) q_X8_leastOf (127, [.ref 54, .int a1, .int a2, .int a3, .null, .null], [], M) Q) ∧ (¬ a4 = 0 → ((s0 = 0 → jRun X T0 (d + 1) q_X8_leastOf (127, [.ref 54, .int a1, .int a2, .int a3, .null, .null], [], M) Q) ∧ (¬ s0 = 0 → vp_in (M 54 7) 33 ∧ jRun X T0 (d + 1) q_X8_leastOf (127, [.ref 54, .int a3, .int (M 69 (M 54 7).toNatClampNeg), .int a3, .null, .null], [], M) Q))))) : jRun X T0 (d + 1) q_X8_leastOf (103, [.ref 54, .int a1, .int a2, .int a3, .int a4, .null], [.int s0], M) Q := by
  refine jRun.cut (k := jk_X8_leastOf) rfl 3 (c' := (if a4 = 0 then 127 else 110, [.ref 54, .int a1, .int a2, .int a3, .int a4, .int s0], [], M)) (ob := True ∧ True ∧ True ∧ True) rfl ⟨trivial, trivial, trivial, trivial⟩ ?_
  refine jRun.br (fun g => ?_) (fun g => ?_)
  · have h := h.1 g
    exact jRun.weak (by simp [jFew]) h
  · have h := h.2 g
    refine jRun.cut (k := jk_X8_leastOf) rfl 2 (c' := (if s0 = 0 then 127 else 115, [.ref 54, .int a1, .int a2, .int a3, .int a4, .int s0], [], M)) (ob := True ∧ True ∧ True) rfl ⟨trivial, trivial, trivial⟩ ?_
    refine jRun.br (fun g => ?_) (fun g => ?_)
    · have h := h.1 g
      exact jRun.weak (by simp [jFew]) h
    · have h := h.2 g
      obtain ⟨o1, h⟩ := h
      refine jRun.cut (k := jk_X8_leastOf) rfl 8 (c' := (127, [.ref 54, .int a3, .int (M 69 (M 54 7).toNatClampNeg), .int a3, .int a4, .int s0], [], M)) (ob := True ∧ True ∧ True ∧ jKd T0 54 = 8 ∧ True ∧ jKd T0 54 = 8 ∧ (jKd T0 69 = 9 ∧ vp_in (M 54 7) 33) ∧ True ∧ True) rfl ⟨trivial, trivial, trivial, rfl, trivial, rfl, ⟨rfl, o1⟩, trivial, trivial⟩ ?_
      exact jRun.weak (by simp [jFew]) h
theorem v_X8_leastOf_127 {X : jX} {d : Nat} (a1 : Int32) (a2 : Int32) (a3 : Int32) (M : jMem) (Q : Option Value → jMem → Prop) (h : jRun X T0 (d + 1) q_X8_leastOf (12, [.ref 54, .int a1, .int a2, .int (a3 + 1), .null, .null], [], M) Q) : jRun X T0 (d + 1) q_X8_leastOf (127, [.ref 54, .int a1, .int a2, .int a3, .null, .null], [], M) Q := by
  refine jRun.cut (k := jk_X8_leastOf) rfl 2 (c' := (12, [.ref 54, .int a1, .int a2, .int (a3 + 1), .null, .null], [], M)) (ob := True ∧ True ∧ True) rfl ⟨trivial, trivial, trivial⟩ ?_
  exact h
theorem v_X8_layWay {X : jX} {d : Nat} (hI : jInj X T0) (a1 : Int32) (M : jMem) (Q : Option Value → jMem → Prop) (h : ((¬ a1 = 0 → ((¬ a1 = 1 → jOk X T0 d q_X8_leastOf [.ref 54] M (fun v M1 => v = none ∧ Q none M1)) ∧ (a1 = 1 → jOk X T0 d q_X8_shrink [.ref 54] M (fun v M2 => v = none ∧ Q none M2)))) ∧ (a1 = 0 → jOk X T0 d q_X8_grow [.ref 54] M (fun v M3 => v = none ∧ Q none M3)))) : jOk X T0 (d + 1) q_X8_layWay [.ref 54, .int a1] M Q := by
  refine jOk.intro (ml := 2) (ls := [.ref 54, .int a1]) (jTl (by decide)) rfl (Nat.le_of_ble_eq_true rfl) rfl hI ?_
  refine jRun.cut (k := jk_X8_layWay) rfl 2 (c' := (if ¬ a1 = 0 then 11 else 4, [.ref 54, .int a1], [], M)) (ob := True ∧ True ∧ True) rfl ⟨trivial, trivial, trivial⟩ ?_
  refine jRun.brn (fun g => ?_) (fun g => ?_)
  · have h := h.1 g
    refine jRun.cut (k := jk_X8_layWay) rfl 3 (c' := (if ¬ a1 = 1 then 23 else 16, [.ref 54, .int a1], [], M)) (ob := True ∧ True ∧ True ∧ True) rfl ⟨trivial, trivial, trivial, trivial⟩ ?_
    refine jRun.brn (fun g => ?_) (fun g => ?_)
    · have h := h.1 g
      refine jRun.call (k := jk_X8_layWay) rfl 2 (f := q_X8_leastOf) (As := [.ref 54]) (c1 := (27, [.ref 54, .int a1], [], M)) (ob := True ∧ jKd T0 54 = 8) rfl ⟨trivial, rfl⟩ h (fun v M1 h => ?_)
      obtain ⟨rfl, h⟩ := h
      show jRun X T0 (d + 1) q_X8_layWay (27, [.ref 54, .int a1], [], M1) Q
      exact jRun.ret (k := jk_X8_layWay) rfl 1 (v := none) (M1 := M1) (ob := True) rfl trivial h
    · have h := h.2 g
      refine jRun.call (k := jk_X8_layWay) rfl 2 (f := q_X8_shrink) (As := [.ref 54]) (c1 := (20, [.ref 54, .int a1], [], M)) (ob := True ∧ jKd T0 54 = 8) rfl ⟨trivial, rfl⟩ h (fun v M2 h => ?_)
      obtain ⟨rfl, h⟩ := h
      show jRun X T0 (d + 1) q_X8_layWay (20, [.ref 54, .int a1], [], M2) Q
      exact jRun.ret (k := jk_X8_layWay) rfl 2 (v := none) (M1 := M2) (ob := True ∧ True) rfl ⟨trivial, trivial⟩ h
  · have h := h.2 g
    refine jRun.call (k := jk_X8_layWay) rfl 2 (f := q_X8_grow) (As := [.ref 54]) (c1 := (8, [.ref 54, .int a1], [], M)) (ob := True ∧ jKd T0 54 = 8) rfl ⟨trivial, rfl⟩ h (fun v M3 h => ?_)
    obtain ⟨rfl, h⟩ := h
    show jRun X T0 (d + 1) q_X8_layWay (8, [.ref 54, .int a1], [], M3) Q
    exact jRun.ret (k := jk_X8_layWay) rfl 2 (v := none) (M1 := M3) (ob := True ∧ True) rfl ⟨trivial, trivial⟩ h
theorem v_X8_isleAt {X : jX} {d : Nat} (hI : jInj X T0) (a1 : Int32) (a2 : Int32) (M : jMem) (Q : Option Value → jMem → Prop) (h : vp_in a1 3 ∧ vp_in (M 60 a1.toNatClampNeg) 33 ∧ vp_in (33 + a1) 36 ∧ jOk X T0 d q_X8_bits [.int ((M 57 (33 + a1).toNatClampNeg) &&& ((1 <<< (a2 &&& 31)) - 1))] M (fun v M1 => ∃ r1, v = some (.int r1) ∧ Q (some (.int ((M 69 (M 60 a1.toNatClampNeg).toNatClampNeg) + (5 * r1)))) M1)) : jOk X T0 (d + 1) q_X8_isleAt [.ref 54, .int a1, .int a2] M Q := by
  refine jOk.intro (ml := 3) (ls := [.ref 54, .int a1, .int a2]) (jTl (by decide)) rfl (Nat.le_of_ble_eq_true rfl) rfl hI ?_
  obtain ⟨o1, o2, o3, h⟩ := h
  refine jRun.call (k := jk_X8_isleAt) rfl 21 (f := q_X8_bits) (As := [.int ((M 57 (33 + a1).toNatClampNeg) &&& ((1 <<< (a2 &&& 31)) - 1))]) (c1 := (30, [.ref 54, .int a1, .int a2], [.int 5, .int (M 69 (M 60 a1.toNatClampNeg).toNatClampNeg)], M)) (ob := True ∧ jKd T0 54 = 8 ∧ True ∧ jKd T0 54 = 8 ∧ True ∧ (jKd T0 60 = 9 ∧ vp_in a1 3) ∧ (jKd T0 69 = 9 ∧ vp_in (M 60 a1.toNatClampNeg) 33) ∧ True ∧ True ∧ jKd T0 54 = 8 ∧ True ∧ True ∧ True ∧ (jKd T0 57 = 9 ∧ vp_in (33 + a1) 36) ∧ True ∧ True ∧ True ∧ True ∧ True ∧ True ∧ True) rfl ⟨trivial, rfl, trivial, rfl, trivial, ⟨rfl, o1⟩, ⟨rfl, o2⟩, trivial, trivial, rfl, trivial, trivial, trivial, ⟨rfl, o3⟩, trivial, trivial, trivial, trivial, trivial, trivial, trivial⟩ h (fun v M1 h => ?_)
  obtain ⟨r1, rfl, h⟩ := h
  show jRun X T0 (d + 1) q_X8_isleAt (30, [.ref 54, .int a1, .int a2], [.int r1, .int 5, .int (M 69 (M 60 a1.toNatClampNeg).toNatClampNeg)], M1) Q
  exact jRun.ret (k := jk_X8_isleAt) rfl 3 (v := some (.int ((M 69 (M 60 a1.toNatClampNeg).toNatClampNeg) + (5 * r1)))) (M1 := M1) (ob := True ∧ True ∧ True) rfl ⟨trivial, trivial, trivial⟩ h
theorem v_X8_isleFar {X : jX} {d : Nat} (hI : jInj X T0) (a1 : Int32) (M : jMem) (Q : Option Value → jMem → Prop) (h : jRun X T0 (d + 1) q_X8_isleFar (2, [.ref 54, .int a1, .int 0, .null], [], M) Q) : jOk X T0 (d + 1) q_X8_isleFar [.ref 54, .int a1] M Q := by
  refine jOk.intro (ml := 4) (ls := [.ref 54, .int a1, .null, .null]) (jTl (by decide)) rfl (Nat.le_of_ble_eq_true rfl) rfl hI ?_
  refine jRun.cut (k := jk_X8_isleFar) rfl 2 (c' := (2, [.ref 54, .int a1, .int 0, .null], [], M)) (ob := True ∧ True ∧ True) rfl ⟨trivial, trivial, trivial⟩ ?_
  exact h
theorem v_X8_isleFar_2 {X : jX} {d : Nat} (a1 : Int32) (a2 : Int32) (M : jMem) (Q : Option Value → jMem → Prop) (h : (((M 54 16) ≤ a2 → Q (some (.int (-1000000))) M) ∧ (¬ (M 54 16) ≤ a2 → vp_in (33 + a2) 36 ∧ vp_in a1 36 ∧ jOk X T0 d q_X8_has [.int (M 57 (33 + a2).toNatClampNeg), .int (M 57 a1.toNatClampNeg)] M (fun v M1 => ∃ r1, v = some (.int r1) ∧ ((r1 = 0 → jRun X T0 (d + 1) q_X8_isleFar (2, [.ref 54, .int a1, .int (a2 + 1), .null], [], M1) Q) ∧ (¬ r1 = 0 → jOk X T0 d q_X8_isleAt [.ref 54, .int a2, .int (M1 57 a1.toNatClampNeg)] M1 (fun v M2 => ∃ r2, v = some (.int r2) ∧ vp_in (a1 + 1) 33 ∧ jOk X T0 d q_X8_isNear [.ref 54, .int (r2 - (M2 69 (a1 + 1).toNatClampNeg))] M2 (fun v M3 => ∃ r3, v = some (.int r3) ∧ ((r3 = 0 → jRun X T0 (d + 1) q_X8_isleFar (2, [.ref 54, .int a1, .int (a2 + 1), .null], [], M3) Q) ∧ (¬ r3 = 0 → Q (some (.int (r2 - (M2 69 (a1 + 1).toNatClampNeg)))) M3)))))))))) : jRun X T0 (d + 1) q_X8_isleFar (2, [.ref 54, .int a1, .int a2, .null], [], M) Q := by
  refine jRun.cut (k := jk_X8_isleFar) rfl 4 (c' := (if (M 54 16) ≤ a2 then 68 else 10, [.ref 54, .int a1, .int a2, .null], [], M)) (ob := True ∧ True ∧ jKd T0 54 = 8 ∧ True ∧ True) rfl ⟨trivial, trivial, rfl, trivial, trivial⟩ ?_
  refine jRun.br (fun g => ?_) (fun g => ?_)
  · have h := h.1 g
    exact jRun.ret (k := jk_X8_isleFar) rfl 2 (v := some (.int (-1000000))) (M1 := M) (ob := True ∧ True) rfl ⟨trivial, trivial⟩ h
  · have h := h.2 g
    obtain ⟨o1, o2, h⟩ := h
    refine jRun.call (k := jk_X8_isleFar) rfl 11 (f := q_X8_has) (As := [.int (M 57 (33 + a2).toNatClampNeg), .int (M 57 a1.toNatClampNeg)]) (c1 := (28, [.ref 54, .int a1, .int a2, .null], [], M)) (ob := True ∧ jKd T0 54 = 8 ∧ True ∧ True ∧ True ∧ (jKd T0 57 = 9 ∧ vp_in (33 + a2) 36) ∧ True ∧ jKd T0 54 = 8 ∧ True ∧ (jKd T0 57 = 9 ∧ vp_in a1 36) ∧ True) rfl ⟨trivial, rfl, trivial, trivial, trivial, ⟨rfl, o1⟩, trivial, rfl, trivial, ⟨rfl, o2⟩, trivial⟩ h (fun v M1 h => ?_)
    obtain ⟨r1, rfl, h⟩ := h
    show jRun X T0 (d + 1) q_X8_isleFar (28, [.ref 54, .int a1, .int a2, .null], [.int r1], M1) Q
    refine jRun.cut (k := jk_X8_isleFar) rfl 1 (c' := (if r1 = 0 then 62 else 31, [.ref 54, .int a1, .int a2, .null], [], M1)) (ob := True ∧ True) rfl ⟨trivial, trivial⟩ ?_
    refine jRun.br (fun g => ?_) (fun g => ?_)
    · have h := h.1 g
      refine jRun.cut (k := jk_X8_isleFar) rfl 2 (c' := (2, [.ref 54, .int a1, .int (a2 + 1), .null], [], M1)) (ob := True ∧ True ∧ True) rfl ⟨trivial, trivial, trivial⟩ ?_
      exact h
    · have h := h.2 g
      refine jRun.call (k := jk_X8_isleFar) rfl 7 (f := q_X8_isleAt) (As := [.ref 54, .int a2, .int (M1 57 a1.toNatClampNeg)]) (c1 := (42, [.ref 54, .int a1, .int a2, .null], [], M1)) (ob := True ∧ True ∧ True ∧ jKd T0 54 = 8 ∧ True ∧ (jKd T0 57 = 9 ∧ vp_in a1 36) ∧ jKd T0 54 = 8) rfl ⟨trivial, trivial, trivial, rfl, trivial, ⟨rfl, o2⟩, rfl⟩ h (fun v M2 h => ?_)
      obtain ⟨r2, rfl, h⟩ := h
      show jRun X T0 (d + 1) q_X8_isleFar (42, [.ref 54, .int a1, .int a2, .null], [.int r2], M2) Q
      obtain ⟨o3, h⟩ := h
      refine jRun.call (k := jk_X8_isleFar) rfl 11 (f := q_X8_isNear) (As := [.ref 54, .int (r2 - (M2 69 (a1 + 1).toNatClampNeg))]) (c1 := (57, [.ref 54, .int a1, .int a2, .int (r2 - (M2 69 (a1 + 1).toNatClampNeg))], [], M2)) (ob := True ∧ jKd T0 54 = 8 ∧ True ∧ True ∧ True ∧ (jKd T0 69 = 9 ∧ vp_in (a1 + 1) 33) ∧ True ∧ True ∧ True ∧ True ∧ jKd T0 54 = 8) rfl ⟨trivial, rfl, trivial, trivial, trivial, ⟨rfl, o3⟩, trivial, trivial, trivial, trivial, rfl⟩ h (fun v M3 h => ?_)
      obtain ⟨r3, rfl, h⟩ := h
      show jRun X T0 (d + 1) q_X8_isleFar (57, [.ref 54, .int a1, .int a2, .int (r2 - (M2 69 (a1 + 1).toNatClampNeg))], [.int r3], M3) Q
      refine jRun.cut (k := jk_X8_isleFar) rfl 1 (c' := (if r3 = 0 then 62 else 60, [.ref 54, .int a1, .int a2, .int (r2 - (M2 69 (a1 + 1).toNatClampNeg))], [], M3)) (ob := True ∧ True) rfl ⟨trivial, trivial⟩ ?_
      refine jRun.br (fun g => ?_) (fun g => ?_)
      · have h := h.1 g
        refine jRun.cut (k := jk_X8_isleFar) rfl 2 (c' := (2, [.ref 54, .int a1, .int (a2 + 1), .int (r2 - (M2 69 (a1 + 1).toNatClampNeg))], [], M3)) (ob := True ∧ True ∧ True) rfl ⟨trivial, trivial, trivial⟩ ?_
        exact jRun.weak (by simp [jFew]) h
      · have h := h.2 g
        exact jRun.ret (k := jk_X8_isleFar) rfl 2 (v := some (.int (r2 - (M2 69 (a1 + 1).toNatClampNeg)))) (M1 := M3) (ob := True ∧ True) rfl ⟨trivial, trivial⟩ h
theorem v_X8_served {X : jX} {d : Nat} (hI : jInj X T0)  (M : jMem) (Q : Option Value → jMem → Prop) (h : jRun X T0 (d + 1) q_X8_served (4, [.ref 54, .int 0, .int 0], [], M) Q) : jOk X T0 (d + 1) q_X8_served [.ref 54] M Q := by
  refine jOk.intro (ml := 3) (ls := [.ref 54, .null, .null]) (jTl (by decide)) rfl (Nat.le_of_ble_eq_true rfl) rfl hI ?_
  refine jRun.cut (k := jk_X8_served) rfl 4 (c' := (4, [.ref 54, .int 0, .int 0], [], M)) (ob := True ∧ True ∧ True ∧ True ∧ True) rfl ⟨trivial, trivial, trivial, trivial, trivial⟩ ?_
  exact h
theorem v_X8_served_4 {X : jX} {d : Nat} (a1 : Int32) (a2 : Int32) (M : jMem) (Q : Option Value → jMem → Prop) (h : (((M 54 14) ≤ a2 → Q (some (.int a1)) M) ∧ (¬ (M 54 14) ≤ a2 → vp_in a2 6 ∧ jOk X T0 d q_X8_farOf [.ref 54, .int (M 59 a2.toNatClampNeg)] M (fun v M1 => ∃ r1, v = some (.int r1) ∧ jOk X T0 d q_X8_isNear [.ref 54, .int r1] M1 (fun v M2 => ∃ r2, v = some (.int r2) ∧ ((¬ r2 = 0 → jRun X T0 (d + 1) q_X8_served (4, [.ref 54, .int (a1 ||| (1 <<< (a2 &&& 31))), .int (a2 + 1)], [], M2) Q) ∧ (r2 = 0 → jOk X T0 d q_X8_isleFar [.ref 54, .int (M2 59 a2.toNatClampNeg)] M2 (fun v M3 => ∃ r3, v = some (.int r3) ∧ ((r3 = (-1000000) → jRun X T0 (d + 1) q_X8_served (4, [.ref 54, .int (a1 ||| 0), .int (a2 + 1)], [], M3) Q) ∧ (¬ r3 = (-1000000) → jRun X T0 (d + 1) q_X8_served (4, [.ref 54, .int (a1 ||| (1 <<< (a2 &&& 31))), .int (a2 + 1)], [], M3) Q)))))))))) : jRun X T0 (d + 1) q_X8_served (4, [.ref 54, .int a1, .int a2], [], M) Q := by
  refine jRun.cut (k := jk_X8_served) rfl 4 (c' := (if (M 54 14) ≤ a2 then 60 else 12, [.ref 54, .int a1, .int a2], [], M)) (ob := True ∧ True ∧ jKd T0 54 = 8 ∧ True ∧ True) rfl ⟨trivial, trivial, rfl, trivial, trivial⟩ ?_
  refine jRun.br (fun g => ?_) (fun g => ?_)
  · have h := h.1 g
    exact jRun.ret (k := jk_X8_served) rfl 2 (v := some (.int a1)) (M1 := M) (ob := True ∧ True) rfl ⟨trivial, trivial⟩ h
  · have h := h.2 g
    obtain ⟨o1, h⟩ := h
    refine jRun.call (k := jk_X8_served) rfl 8 (f := q_X8_farOf) (As := [.ref 54, .int (M 59 a2.toNatClampNeg)]) (c1 := (24, [.ref 54, .int a1, .int a2], [.ref 54, .int a1], M)) (ob := True ∧ True ∧ True ∧ True ∧ jKd T0 54 = 8 ∧ True ∧ (jKd T0 59 = 9 ∧ vp_in a2 6) ∧ jKd T0 54 = 8) rfl ⟨trivial, trivial, trivial, trivial, rfl, trivial, ⟨rfl, o1⟩, rfl⟩ h (fun v M1 h => ?_)
    obtain ⟨r1, rfl, h⟩ := h
    show jRun X T0 (d + 1) q_X8_served (24, [.ref 54, .int a1, .int a2], [.int r1, .ref 54, .int a1], M1) Q
    refine jRun.call (k := jk_X8_served) rfl 1 (f := q_X8_isNear) (As := [.ref 54, .int r1]) (c1 := (27, [.ref 54, .int a1, .int a2], [.int a1], M1)) (ob := jKd T0 54 = 8) rfl rfl h (fun v M2 h => ?_)
    obtain ⟨r2, rfl, h⟩ := h
    show jRun X T0 (d + 1) q_X8_served (27, [.ref 54, .int a1, .int a2], [.int r2, .int a1], M2) Q
    refine jRun.cut (k := jk_X8_served) rfl 1 (c' := (if ¬ r2 = 0 then 45 else 30, [.ref 54, .int a1, .int a2], [.int a1], M2)) (ob := True ∧ True) rfl ⟨trivial, trivial⟩ ?_
    refine jRun.brn (fun g => ?_) (fun g => ?_)
    · have h := h.1 g
      refine jRun.cut (k := jk_X8_served) rfl 8 (c' := (4, [.ref 54, .int (a1 ||| (1 <<< (a2 &&& 31))), .int (a2 + 1)], [], M2)) (ob := True ∧ True ∧ True ∧ True ∧ True ∧ True ∧ True ∧ True ∧ True) rfl ⟨trivial, trivial, trivial, trivial, trivial, trivial, trivial, trivial, trivial⟩ ?_
      exact h
    · have h := h.2 g
      refine jRun.call (k := jk_X8_served) rfl 6 (f := q_X8_isleFar) (As := [.ref 54, .int (M2 59 a2.toNatClampNeg)]) (c1 := (40, [.ref 54, .int a1, .int a2], [.int a1], M2)) (ob := True ∧ True ∧ jKd T0 54 = 8 ∧ True ∧ (jKd T0 59 = 9 ∧ vp_in a2 6) ∧ jKd T0 54 = 8) rfl ⟨trivial, trivial, rfl, trivial, ⟨rfl, o1⟩, rfl⟩ h (fun v M3 h => ?_)
      obtain ⟨r3, rfl, h⟩ := h
      show jRun X T0 (d + 1) q_X8_served (40, [.ref 54, .int a1, .int a2], [.int r3, .int a1], M3) Q
      refine jRun.cut (k := jk_X8_served) rfl 2 (c' := (if r3 = (-1000000) then 51 else 45, [.ref 54, .int a1, .int a2], [.int a1], M3)) (ob := True ∧ True ∧ True) rfl ⟨trivial, trivial, trivial⟩ ?_
      refine jRun.br (fun g => ?_) (fun g => ?_)
      · have h := h.1 g
        refine jRun.cut (k := jk_X8_served) rfl 5 (c' := (4, [.ref 54, .int (a1 ||| 0), .int (a2 + 1)], [], M3)) (ob := True ∧ True ∧ True ∧ True ∧ True ∧ True) rfl ⟨trivial, trivial, trivial, trivial, trivial, trivial⟩ ?_
        exact h
      · have h := h.2 g
        refine jRun.cut (k := jk_X8_served) rfl 8 (c' := (4, [.ref 54, .int (a1 ||| (1 <<< (a2 &&& 31))), .int (a2 + 1)], [], M3)) (ob := True ∧ True ∧ True ∧ True ∧ True ∧ True ∧ True ∧ True ∧ True) rfl ⟨trivial, trivial, trivial, trivial, trivial, trivial, trivial, trivial, trivial⟩ ?_
        exact h
theorem v_X8_itemAt {X : jX} {d : Nat} (hI : jInj X T0) (a1 : Int32) (M : jMem) (Q : Option Value → jMem → Prop) (h : jRun X T0 d q_X8_itemAt (2, [.ref 54, .int a1, .int 0], [], M) Q) : jOk X T0 d q_X8_itemAt [.ref 54, .int a1] M Q := by
  refine jOk.intro (ml := 3) (ls := [.ref 54, .int a1, .null]) (jTl (by decide)) rfl (Nat.le_of_ble_eq_true rfl) rfl hI ?_
  refine jRun.cut (k := jk_X8_itemAt) rfl 2 (c' := (2, [.ref 54, .int a1, .int 0], [], M)) (ob := True ∧ True ∧ True) rfl ⟨trivial, trivial, trivial⟩ ?_
  exact h
theorem v_X8_itemAt_2 {X : jX} {d : Nat} (a1 : Int32) (a2 : Int32) (M : jMem) (Q : Option Value → jMem → Prop) (h : vp_in (a2 + 1) 33 ∧ ((a1 < (M 69 (a2 + 1).toNatClampNeg) → Q (some (.int a2)) M) ∧ (¬ a1 < (M 69 (a2 + 1).toNatClampNeg) → jRun X T0 d q_X8_itemAt (2, [.ref 54, .int a1, .int (a2 + 1)], [], M) Q))) : jRun X T0 d q_X8_itemAt (2, [.ref 54, .int a1, .int a2], [], M) Q := by
  obtain ⟨o1, h⟩ := h
  refine jRun.cut (k := jk_X8_itemAt) rfl 8 (c' := (if a1 < (M 69 (a2 + 1).toNatClampNeg) then 20 else 14, [.ref 54, .int a1, .int a2], [], M)) (ob := True ∧ jKd T0 54 = 8 ∧ True ∧ True ∧ True ∧ (jKd T0 69 = 9 ∧ vp_in (a2 + 1) 33) ∧ True ∧ True ∧ True) rfl ⟨trivial, rfl, trivial, trivial, trivial, ⟨rfl, o1⟩, trivial, trivial, trivial⟩ ?_
  refine jRun.br (fun g => ?_) (fun g => ?_)
  · have h := h.1 g
    exact jRun.ret (k := jk_X8_itemAt) rfl 2 (v := some (.int a2)) (M1 := M) (ob := True ∧ True) rfl ⟨trivial, trivial⟩ h
  · have h := h.2 g
    refine jRun.cut (k := jk_X8_itemAt) rfl 2 (c' := (2, [.ref 54, .int a1, .int (a2 + 1)], [], M)) (ob := True ∧ True ∧ True) rfl ⟨trivial, trivial, trivial⟩ ?_
    exact h
theorem v_X8_part {X : jX} {d : Nat} (hI : jInj X T0) (a0 : Int32) (a1 : Int32) (M : jMem) (Q : Option Value → jMem → Prop) (h : Q (some (.int ((a0 >>> ((8 * a1) &&& 31)) &&& 255))) M) : jOk X T0 d q_X8_part [.int a0, .int a1] M Q := by
  refine jOk.intro (ml := 2) (ls := [.int a0, .int a1]) (jTl (by decide)) rfl (Nat.le_of_ble_eq_true rfl) rfl hI ?_
  exact jRun.ret (k := jk_X8_part) rfl 8 (v := some (.int ((a0 >>> ((8 * a1) &&& 31)) &&& 255))) (M1 := M) (ob := True ∧ True ∧ True ∧ True ∧ True ∧ True ∧ True ∧ True) rfl ⟨trivial, trivial, trivial, trivial, trivial, trivial, trivial, trivial⟩ h
theorem v_X8_isleByte {X : jX} {d : Nat} (hI : jInj X T0) (a1 : Int32) (a2 : Int32) (M : jMem) (Q : Option Value → jMem → Prop) (h : jOk X T0 d q_X8_numberOf [.ref 60, .int (M 54 16), .int a1] M (fun v M1 => ∃ r1, v = some (.int r1) ∧ jRun X T0 (d + 1) q_X8_isleByte (21, [.ref 54, .int a1, .int a2, .int r1, .int (a2 / 5), .int 0, .null], [], M1) Q)) : jOk X T0 (d + 1) q_X8_isleByte [.ref 54, .int a1, .int a2] M Q := by
  refine jOk.intro (ml := 7) (ls := [.ref 54, .int a1, .int a2, .null, .null, .null, .null]) (jTl (by decide)) rfl (Nat.le_of_ble_eq_true rfl) rfl hI ?_
  refine jRun.call (k := jk_X8_isleByte) rfl 6 (f := q_X8_numberOf) (As := [.ref 60, .int (M 54 16), .int a1]) (c1 := (12, [.ref 54, .int a1, .int a2, .null, .null, .null, .null], [], M)) (ob := True ∧ jKd T0 54 = 8 ∧ True ∧ jKd T0 54 = 8 ∧ True ∧ True) rfl ⟨trivial, rfl, trivial, rfl, trivial, trivial⟩ h (fun v M1 h => ?_)
  obtain ⟨r1, rfl, h⟩ := h
  show jRun X T0 (d + 1) q_X8_isleByte (12, [.ref 54, .int a1, .int a2, .null, .null, .null, .null], [.int r1], M1) Q
  refine jRun.cut (k := jk_X8_isleByte) rfl 7 (c' := (21, [.ref 54, .int a1, .int a2, .int r1, .int (a2 / 5), .int 0, .null], [], M1)) (ob := True ∧ True ∧ True ∧ ¬ 5 = 0 ∧ True ∧ True ∧ True ∧ True) rfl ⟨trivial, trivial, trivial, (by decide), trivial, trivial, trivial, trivial⟩ ?_
  exact h
theorem v_X8_isleByte_21 {X : jX} {d : Nat} (a1 : Int32) (a2 : Int32) (a3 : Int32) (a4 : Int32) (a5 : Int32) (M : jMem) (Q : Option Value → jMem → Prop) (h : ((0 < a4 → vp_in (33 + a3) 36 ∧ jOk X T0 d q_X8_has [.int (M 57 (33 + a3).toNatClampNeg), .int a5] M (fun v M1 => ∃ r1, v = some (.int r1) ∧ ((r1 = 0 → jRun X T0 (d + 1) q_X8_isleByte (21, [.ref 54, .int a1, .int a2, .int a3, .int (a4 - 0), .int (a5 + 1), .null], [], M1) Q) ∧ (¬ r1 = 0 → jRun X T0 (d + 1) q_X8_isleByte (21, [.ref 54, .int a1, .int a2, .int a3, .int (a4 - 1), .int (a5 + 1), .null], [], M1) Q)))) ∧ (¬ 0 < a4 → vp_in (33 + a3) 36 ∧ jOk X T0 d q_X8_has [.int (M 57 (33 + a3).toNatClampNeg), .int a5] M (fun v M2 => ∃ r2, v = some (.int r2) ∧ ((¬ r2 = 0 → ((¬ (a2 - a2 / 5 * 5) = 0 → vp_in a5 8 ∧ vp_in (M2 61 a5.toNatClampNeg) 33 ∧ vp_in a1 33 ∧ jOk X T0 d q_X8_part [.int (((M2 69 (M2 61 a5.toNatClampNeg).toNatClampNeg) - (M2 69 a1.toNatClampNeg)) - (5 * ((a2 / 5) + 1))), .int ((a2 - a2 / 5 * 5) - 1)] M2 (fun v M3 => ∃ r3, v = some (.int r3) ∧ Q (some (.int r3)) M3)) ∧ ((a2 - a2 / 5 * 5) = 0 → Q (some (.int 4)) M2))) ∧ (r2 = 0 → jOk X T0 d q_X8_has [.int (M2 57 (33 + a3).toNatClampNeg), .int a5] M2 (fun v M4 => ∃ r4, v = some (.int r4) ∧ ((r4 = 0 → jRun X T0 (d + 1) q_X8_isleByte (21, [.ref 54, .int a1, .int a2, .int a3, .int (a4 - 0), .int (a5 + 1), .null], [], M4) Q) ∧ (¬ r4 = 0 → jRun X T0 (d + 1) q_X8_isleByte (21, [.ref 54, .int a1, .int a2, .int a3, .int (a4 - 1), .int (a5 + 1), .null], [], M4) Q))))))))) : jRun X T0 (d + 1) q_X8_isleByte (21, [.ref 54, .int a1, .int a2, .int a3, .int a4, .int a5, .null], [], M) Q := by
  refine jRun.cut (k := jk_X8_isleByte) rfl 2 (c' := (if 0 < a4 then 43 else 26, [.ref 54, .int a1, .int a2, .int a3, .int a4, .int a5, .null], [], M)) (ob := True ∧ True ∧ True) rfl ⟨trivial, trivial, trivial⟩ ?_
  refine jRun.br (fun g => ?_) (fun g => ?_)
  · have h := h.1 g
    obtain ⟨o1, h⟩ := h
    refine jRun.call (k := jk_X8_isleByte) rfl 9 (f := q_X8_has) (As := [.int (M 57 (33 + a3).toNatClampNeg), .int a5]) (c1 := (59, [.ref 54, .int a1, .int a2, .int a3, .int a4, .int a5, .null], [.int a4], M)) (ob := True ∧ True ∧ jKd T0 54 = 8 ∧ True ∧ True ∧ True ∧ (jKd T0 57 = 9 ∧ vp_in (33 + a3) 36) ∧ True ∧ True) rfl ⟨trivial, trivial, rfl, trivial, trivial, trivial, ⟨rfl, o1⟩, trivial, trivial⟩ h (fun v M1 h => ?_)
    obtain ⟨r1, rfl, h⟩ := h
    show jRun X T0 (d + 1) q_X8_isleByte (59, [.ref 54, .int a1, .int a2, .int a3, .int a4, .int a5, .null], [.int r1, .int a4], M1) Q
    refine jRun.cut (k := jk_X8_isleByte) rfl 1 (c' := (if r1 = 0 then 66 else 62, [.ref 54, .int a1, .int a2, .int a3, .int a4, .int a5, .null], [.int a4], M1)) (ob := True ∧ True) rfl ⟨trivial, trivial⟩ ?_
    refine jRun.br (fun g => ?_) (fun g => ?_)
    · have h := h.1 g
      refine jRun.cut (k := jk_X8_isleByte) rfl 5 (c' := (21, [.ref 54, .int a1, .int a2, .int a3, .int (a4 - 0), .int (a5 + 1), .null], [], M1)) (ob := True ∧ True ∧ True ∧ True ∧ True ∧ True) rfl ⟨trivial, trivial, trivial, trivial, trivial, trivial⟩ ?_
      exact h
    · have h := h.2 g
      refine jRun.cut (k := jk_X8_isleByte) rfl 6 (c' := (21, [.ref 54, .int a1, .int a2, .int a3, .int (a4 - 1), .int (a5 + 1), .null], [], M1)) (ob := True ∧ True ∧ True ∧ True ∧ True ∧ True ∧ True) rfl ⟨trivial, trivial, trivial, trivial, trivial, trivial, trivial⟩ ?_
      exact h
  · have h := h.2 g
    obtain ⟨o2, h⟩ := h
    refine jRun.call (k := jk_X8_isleByte) rfl 8 (f := q_X8_has) (As := [.int (M 57 (33 + a3).toNatClampNeg), .int a5]) (c1 := (40, [.ref 54, .int a1, .int a2, .int a3, .int a4, .int a5, .null], [], M)) (ob := True ∧ jKd T0 54 = 8 ∧ True ∧ True ∧ True ∧ (jKd T0 57 = 9 ∧ vp_in (33 + a3) 36) ∧ True ∧ True) rfl ⟨trivial, rfl, trivial, trivial, trivial, ⟨rfl, o2⟩, trivial, trivial⟩ h (fun v M2 h => ?_)
    obtain ⟨r2, rfl, h⟩ := h
    show jRun X T0 (d + 1) q_X8_isleByte (40, [.ref 54, .int a1, .int a2, .int a3, .int a4, .int a5, .null], [.int r2], M2) Q
    refine jRun.cut (k := jk_X8_isleByte) rfl 1 (c' := (if ¬ r2 = 0 then 76 else 43, [.ref 54, .int a1, .int a2, .int a3, .int a4, .int a5, .null], [], M2)) (ob := True ∧ True) rfl ⟨trivial, trivial⟩ ?_
    refine jRun.brn (fun g => ?_) (fun g => ?_)
    · have h := h.1 g
      refine jRun.cut (k := jk_X8_isleByte) rfl 6 (c' := (if ¬ (a2 - a2 / 5 * 5) = 0 then 90 else 86, [.ref 54, .int a1, .int a2, .int a3, .int a4, .int a5, .int (a2 - a2 / 5 * 5)], [], M2)) (ob := True ∧ True ∧ ¬ 5 = 0 ∧ True ∧ True ∧ True ∧ True) rfl ⟨trivial, trivial, (by decide), trivial, trivial, trivial, trivial⟩ ?_
      refine jRun.brn (fun g => ?_) (fun g => ?_)
      · have h := h.1 g
        obtain ⟨o3, o4, o5, h⟩ := h
        refine jRun.call (k := jk_X8_isleByte) rfl 24 (f := q_X8_part) (As := [.int (((M2 69 (M2 61 a5.toNatClampNeg).toNatClampNeg) - (M2 69 a1.toNatClampNeg)) - (5 * ((a2 / 5) + 1))), .int ((a2 - a2 / 5 * 5) - 1)]) (c1 := (124, [.ref 54, .int a1, .int a2, .int a3, .int a4, .int a5, .int (a2 - a2 / 5 * 5)], [], M2)) (ob := True ∧ jKd T0 54 = 8 ∧ True ∧ jKd T0 54 = 8 ∧ True ∧ (jKd T0 61 = 9 ∧ vp_in a5 8) ∧ (jKd T0 69 = 9 ∧ vp_in (M2 61 a5.toNatClampNeg) 33) ∧ True ∧ jKd T0 54 = 8 ∧ True ∧ (jKd T0 69 = 9 ∧ vp_in a1 33) ∧ True ∧ True ∧ True ∧ True ∧ ¬ 5 = 0 ∧ True ∧ True ∧ True ∧ True ∧ True ∧ True ∧ True ∧ True) rfl ⟨trivial, rfl, trivial, rfl, trivial, ⟨rfl, o3⟩, ⟨rfl, o4⟩, trivial, rfl, trivial, ⟨rfl, o5⟩, trivial, trivial, trivial, trivial, (by decide), trivial, trivial, trivial, trivial, trivial, trivial, trivial, trivial⟩ h (fun v M3 h => ?_)
        obtain ⟨r3, rfl, h⟩ := h
        show jRun X T0 (d + 1) q_X8_isleByte (124, [.ref 54, .int a1, .int a2, .int a3, .int a4, .int a5, .int (a2 - a2 / 5 * 5)], [.int r3], M3) Q
        exact jRun.ret (k := jk_X8_isleByte) rfl 1 (v := some (.int r3)) (M1 := M3) (ob := True) rfl trivial h
      · have h := h.2 g
        exact jRun.ret (k := jk_X8_isleByte) rfl 3 (v := some (.int 4)) (M1 := M2) (ob := True ∧ True ∧ True) rfl ⟨trivial, trivial, trivial⟩ h
    · have h := h.2 g
      refine jRun.call (k := jk_X8_isleByte) rfl 9 (f := q_X8_has) (As := [.int (M2 57 (33 + a3).toNatClampNeg), .int a5]) (c1 := (59, [.ref 54, .int a1, .int a2, .int a3, .int a4, .int a5, .null], [.int a4], M2)) (ob := True ∧ True ∧ jKd T0 54 = 8 ∧ True ∧ True ∧ True ∧ (jKd T0 57 = 9 ∧ vp_in (33 + a3) 36) ∧ True ∧ True) rfl ⟨trivial, trivial, rfl, trivial, trivial, trivial, ⟨rfl, o2⟩, trivial, trivial⟩ h (fun v M4 h => ?_)
      obtain ⟨r4, rfl, h⟩ := h
      show jRun X T0 (d + 1) q_X8_isleByte (59, [.ref 54, .int a1, .int a2, .int a3, .int a4, .int a5, .null], [.int r4, .int a4], M4) Q
      refine jRun.cut (k := jk_X8_isleByte) rfl 1 (c' := (if r4 = 0 then 66 else 62, [.ref 54, .int a1, .int a2, .int a3, .int a4, .int a5, .null], [.int a4], M4)) (ob := True ∧ True) rfl ⟨trivial, trivial⟩ ?_
      refine jRun.br (fun g => ?_) (fun g => ?_)
      · have h := h.1 g
        refine jRun.cut (k := jk_X8_isleByte) rfl 5 (c' := (21, [.ref 54, .int a1, .int a2, .int a3, .int (a4 - 0), .int (a5 + 1), .null], [], M4)) (ob := True ∧ True ∧ True ∧ True ∧ True ∧ True) rfl ⟨trivial, trivial, trivial, trivial, trivial, trivial⟩ ?_
        exact h
      · have h := h.2 g
        refine jRun.cut (k := jk_X8_isleByte) rfl 6 (c' := (21, [.ref 54, .int a1, .int a2, .int a3, .int (a4 - 1), .int (a5 + 1), .null], [], M4)) (ob := True ∧ True ∧ True ∧ True ∧ True ∧ True ∧ True) rfl ⟨trivial, trivial, trivial, trivial, trivial, trivial, trivial⟩ ?_
        exact h
theorem v_X8_byteOf {X : jX} {d : Nat} (hI : jInj X T0) (a1 : Int32) (M : jMem) (Q : Option Value → jMem → Prop) (h : jOk X T0 d q_X8_itemAt [.ref 54, .int a1] M (fun v M1 => ∃ r1, v = some (.int r1) ∧ vp_in r1 33 ∧ vp_in r1 32 ∧ (((M1 56 r1.toNatClampNeg) = 0 → Q (some (.int 16)) M1) ∧ (¬ (M1 56 r1.toNatClampNeg) = 0 → (((M1 56 r1.toNatClampNeg) = 1 → jOk X T0 d q_X8_isleByte [.ref 54, .int r1, .int (a1 - (M1 69 r1.toNatClampNeg))] M1 (fun v M2 => ∃ r2, v = some (.int r2) ∧ Q (some (.int r2)) M2)) ∧ (¬ (M1 56 r1.toNatClampNeg) = 1 → (((M1 56 r1.toNatClampNeg) = 2 → ((¬ (a1 - (M1 69 r1.toNatClampNeg)) = 0 → jOk X T0 d q_X8_farOf [.ref 54, .int r1] M1 (fun v M3 => ∃ r3, v = some (.int r3) ∧ jOk X T0 d q_X8_part [.int r3, .int ((a1 - (M1 69 r1.toNatClampNeg)) - 1)] M3 (fun v M4 => ∃ r4, v = some (.int r4) ∧ Q (some (.int r4)) M4))) ∧ ((a1 - (M1 69 r1.toNatClampNeg)) = 0 → vp_in (r1 + 1) 33 ∧ ((¬ ((M1 69 (r1 + 1).toNatClampNeg) - (M1 69 r1.toNatClampNeg)) = 5 → Q (some (.int 1)) M1) ∧ (((M1 69 (r1 + 1).toNatClampNeg) - (M1 69 r1.toNatClampNeg)) = 5 → Q (some (.int 2)) M1))))) ∧ (¬ (M1 56 r1.toNatClampNeg) = 2 → (((M1 56 r1.toNatClampNeg) = 3 → Q (some (.int 0)) M1) ∧ (¬ (M1 56 r1.toNatClampNeg) = 3 → (((M1 56 r1.toNatClampNeg) = 4 → ((¬ (a1 - (M1 69 r1.toNatClampNeg)) = 0 → jOk X T0 d q_X8_farOf [.ref 54, .int r1] M1 (fun v M5 => ∃ r5, v = some (.int r5) ∧ jOk X T0 d q_X8_isNear [.ref 54, .int r5] M5 (fun v M6 => ∃ r6, v = some (.int r6) ∧ ((r6 = 0 → jOk X T0 d q_X8_isleFar [.ref 54, .int r1] M6 (fun v M7 => ∃ r7, v = some (.int r7) ∧ ((¬ r7 = (-1000000) → jOk X T0 d q_X8_isleFar [.ref 54, .int r1] M7 (fun v M8 => ∃ r8, v = some (.int r8) ∧ jOk X T0 d q_X8_part [.int r8, .int 0] M8 (fun v M9 => ∃ r9, v = some (.int r9) ∧ Q (some (.int r9)) M9))) ∧ (r7 = (-1000000) → Q (some (.int 0)) M7)))) ∧ (¬ r6 = 0 → jOk X T0 d q_X8_farOf [.ref 54, .int r1] M6 (fun v M10 => ∃ r10, v = some (.int r10) ∧ jOk X T0 d q_X8_part [.int r10, .int 0] M10 (fun v M11 => ∃ r11, v = some (.int r11) ∧ Q (some (.int r11)) M11))))))) ∧ ((a1 - (M1 69 r1.toNatClampNeg)) = 0 → Q (some (.int 3)) M1))) ∧ (¬ (M1 56 r1.toNatClampNeg) = 4 → jOk X T0 d q_X8_isleByte [.ref 54, .int r1, .int (a1 - (M1 69 r1.toNatClampNeg))] M1 (fun v M12 => ∃ r12, v = some (.int r12) ∧ Q (some (.int r12)) M12))))))))))))) : jOk X T0 (d + 1) q_X8_byteOf [.ref 54, .int a1] M Q := by
  refine jOk.intro (ml := 4) (ls := [.ref 54, .int a1, .null, .null]) (jTl (by decide)) rfl (Nat.le_of_ble_eq_true rfl) rfl hI ?_
  refine jRun.call (k := jk_X8_byteOf) rfl 3 (f := q_X8_itemAt) (As := [.ref 54, .int a1]) (c1 := (5, [.ref 54, .int a1, .null, .null], [], M)) (ob := True ∧ True ∧ jKd T0 54 = 8) rfl ⟨trivial, trivial, rfl⟩ h (fun v M1 h => ?_)
  obtain ⟨r1, rfl, h⟩ := h
  show jRun X T0 (d + 1) q_X8_byteOf (5, [.ref 54, .int a1, .null, .null], [.int r1], M1) Q
  obtain ⟨o1, o2, h⟩ := h
  refine jRun.cut (k := jk_X8_byteOf) rfl 13 (c' := (if (M1 56 r1.toNatClampNeg) = 0 then 56 else if (M1 56 r1.toNatClampNeg) = 1 then 154 else if (M1 56 r1.toNatClampNeg) = 2 then 59 else if (M1 56 r1.toNatClampNeg) = 3 then 100 else if (M1 56 r1.toNatClampNeg) = 4 then 102 else 154, [.ref 54, .int a1, .int r1, .int (a1 - (M1 69 r1.toNatClampNeg))], [], M1)) (ob := True ∧ True ∧ True ∧ jKd T0 54 = 8 ∧ True ∧ (jKd T0 69 = 9 ∧ vp_in r1 33) ∧ True ∧ True ∧ True ∧ jKd T0 54 = 8 ∧ True ∧ (jKd T0 56 = 9 ∧ vp_in r1 32) ∧ True ∧ True) rfl ⟨trivial, trivial, trivial, rfl, trivial, ⟨rfl, o1⟩, trivial, trivial, trivial, rfl, trivial, ⟨rfl, o2⟩, trivial, trivial⟩ ?_
  refine jRun.br (fun g => ?_) (fun g => ?_)
  · have h := h.1 g
    exact jRun.ret (k := jk_X8_byteOf) rfl 2 (v := some (.int 16)) (M1 := M1) (ob := True ∧ True) rfl ⟨trivial, trivial⟩ h
  · have h := h.2 g
    refine jRun.br (fun g => ?_) (fun g => ?_)
    · have h := h.1 g
      refine jRun.call (k := jk_X8_byteOf) rfl 4 (f := q_X8_isleByte) (As := [.ref 54, .int r1, .int (a1 - (M1 69 r1.toNatClampNeg))]) (c1 := (160, [.ref 54, .int a1, .int r1, .int (a1 - (M1 69 r1.toNatClampNeg))], [], M1)) (ob := True ∧ True ∧ True ∧ jKd T0 54 = 8) rfl ⟨trivial, trivial, trivial, rfl⟩ h (fun v M2 h => ?_)
      obtain ⟨r2, rfl, h⟩ := h
      show jRun X T0 (d + 1) q_X8_byteOf (160, [.ref 54, .int a1, .int r1, .int (a1 - (M1 69 r1.toNatClampNeg))], [.int r2], M2) Q
      exact jRun.ret (k := jk_X8_byteOf) rfl 1 (v := some (.int r2)) (M1 := M2) (ob := True) rfl trivial h
    · have h := h.2 g
      refine jRun.br (fun g => ?_) (fun g => ?_)
      · have h := h.1 g
        refine jRun.cut (k := jk_X8_byteOf) rfl 2 (c' := (if ¬ (a1 - (M1 69 r1.toNatClampNeg)) = 0 then 88 else 63, [.ref 54, .int a1, .int r1, .int (a1 - (M1 69 r1.toNatClampNeg))], [], M1)) (ob := True ∧ True ∧ True) rfl ⟨trivial, trivial, trivial⟩ ?_
        refine jRun.brn (fun g => ?_) (fun g => ?_)
        · have h := h.1 g
          refine jRun.call (k := jk_X8_byteOf) rfl 3 (f := q_X8_farOf) (As := [.ref 54, .int r1]) (c1 := (93, [.ref 54, .int a1, .int r1, .int (a1 - (M1 69 r1.toNatClampNeg))], [], M1)) (ob := True ∧ True ∧ jKd T0 54 = 8) rfl ⟨trivial, trivial, rfl⟩ h (fun v M3 h => ?_)
          obtain ⟨r3, rfl, h⟩ := h
          show jRun X T0 (d + 1) q_X8_byteOf (93, [.ref 54, .int a1, .int r1, .int (a1 - (M1 69 r1.toNatClampNeg))], [.int r3], M3) Q
          refine jRun.call (k := jk_X8_byteOf) rfl 4 (f := q_X8_part) (As := [.int r3, .int ((a1 - (M1 69 r1.toNatClampNeg)) - 1)]) (c1 := (99, [.ref 54, .int a1, .int r1, .int (a1 - (M1 69 r1.toNatClampNeg))], [], M3)) (ob := True ∧ True ∧ True ∧ True) rfl ⟨trivial, trivial, trivial, trivial⟩ h (fun v M4 h => ?_)
          obtain ⟨r4, rfl, h⟩ := h
          show jRun X T0 (d + 1) q_X8_byteOf (99, [.ref 54, .int a1, .int r1, .int (a1 - (M1 69 r1.toNatClampNeg))], [.int r4], M4) Q
          exact jRun.ret (k := jk_X8_byteOf) rfl 1 (v := some (.int r4)) (M1 := M4) (ob := True) rfl trivial h
        · have h := h.2 g
          obtain ⟨o3, h⟩ := h
          refine jRun.cut (k := jk_X8_byteOf) rfl 13 (c' := (if ¬ ((M1 69 (r1 + 1).toNatClampNeg) - (M1 69 r1.toNatClampNeg)) = 5 then 86 else 82, [.ref 54, .int a1, .int r1, .int (a1 - (M1 69 r1.toNatClampNeg))], [], M1)) (ob := True ∧ jKd T0 54 = 8 ∧ True ∧ True ∧ True ∧ (jKd T0 69 = 9 ∧ vp_in (r1 + 1) 33) ∧ True ∧ jKd T0 54 = 8 ∧ True ∧ (jKd T0 69 = 9 ∧ vp_in r1 33) ∧ True ∧ True ∧ True ∧ True) rfl ⟨trivial, rfl, trivial, trivial, trivial, ⟨rfl, o3⟩, trivial, rfl, trivial, ⟨rfl, o1⟩, trivial, trivial, trivial, trivial⟩ ?_
          refine jRun.brn (fun g => ?_) (fun g => ?_)
          · have h := h.1 g
            exact jRun.ret (k := jk_X8_byteOf) rfl 2 (v := some (.int 1)) (M1 := M1) (ob := True ∧ True) rfl ⟨trivial, trivial⟩ h
          · have h := h.2 g
            exact jRun.ret (k := jk_X8_byteOf) rfl 3 (v := some (.int 2)) (M1 := M1) (ob := True ∧ True ∧ True) rfl ⟨trivial, trivial, trivial⟩ h
      · have h := h.2 g
        refine jRun.br (fun g => ?_) (fun g => ?_)
        · have h := h.1 g
          exact jRun.ret (k := jk_X8_byteOf) rfl 2 (v := some (.int 0)) (M1 := M1) (ob := True ∧ True) rfl ⟨trivial, trivial⟩ h
        · have h := h.2 g
          refine jRun.br (fun g => ?_) (fun g => ?_)
          · have h := h.1 g
            refine jRun.cut (k := jk_X8_byteOf) rfl 2 (c' := (if ¬ (a1 - (M1 69 r1.toNatClampNeg)) = 0 then 108 else 106, [.ref 54, .int a1, .int r1, .int (a1 - (M1 69 r1.toNatClampNeg))], [], M1)) (ob := True ∧ True ∧ True) rfl ⟨trivial, trivial, trivial⟩ ?_
            refine jRun.brn (fun g => ?_) (fun g => ?_)
            · have h := h.1 g
              refine jRun.call (k := jk_X8_byteOf) rfl 4 (f := q_X8_farOf) (As := [.ref 54, .int r1]) (c1 := (114, [.ref 54, .int a1, .int r1, .int (a1 - (M1 69 r1.toNatClampNeg))], [.ref 54], M1)) (ob := True ∧ True ∧ True ∧ jKd T0 54 = 8) rfl ⟨trivial, trivial, trivial, rfl⟩ h (fun v M5 h => ?_)
              obtain ⟨r5, rfl, h⟩ := h
              show jRun X T0 (d + 1) q_X8_byteOf (114, [.ref 54, .int a1, .int r1, .int (a1 - (M1 69 r1.toNatClampNeg))], [.int r5, .ref 54], M5) Q
              refine jRun.call (k := jk_X8_byteOf) rfl 1 (f := q_X8_isNear) (As := [.ref 54, .int r5]) (c1 := (117, [.ref 54, .int a1, .int r1, .int (a1 - (M1 69 r1.toNatClampNeg))], [], M5)) (ob := jKd T0 54 = 8) rfl rfl h (fun v M6 h => ?_)
              obtain ⟨r6, rfl, h⟩ := h
              show jRun X T0 (d + 1) q_X8_byteOf (117, [.ref 54, .int a1, .int r1, .int (a1 - (M1 69 r1.toNatClampNeg))], [.int r6], M6) Q
              refine jRun.cut (k := jk_X8_byteOf) rfl 1 (c' := (if r6 = 0 then 130 else 120, [.ref 54, .int a1, .int r1, .int (a1 - (M1 69 r1.toNatClampNeg))], [], M6)) (ob := True ∧ True) rfl ⟨trivial, trivial⟩ ?_
              refine jRun.br (fun g => ?_) (fun g => ?_)
              · have h := h.1 g
                refine jRun.call (k := jk_X8_byteOf) rfl 3 (f := q_X8_isleFar) (As := [.ref 54, .int r1]) (c1 := (135, [.ref 54, .int a1, .int r1, .int (a1 - (M1 69 r1.toNatClampNeg))], [], M6)) (ob := True ∧ True ∧ jKd T0 54 = 8) rfl ⟨trivial, trivial, rfl⟩ h (fun v M7 h => ?_)
                obtain ⟨r7, rfl, h⟩ := h
                show jRun X T0 (d + 1) q_X8_byteOf (135, [.ref 54, .int a1, .int r1, .int (a1 - (M1 69 r1.toNatClampNeg))], [.int r7], M7) Q
                refine jRun.cut (k := jk_X8_byteOf) rfl 2 (c' := (if ¬ r7 = (-1000000) then 144 else 140, [.ref 54, .int a1, .int r1, .int (a1 - (M1 69 r1.toNatClampNeg))], [], M7)) (ob := True ∧ True ∧ True) rfl ⟨trivial, trivial, trivial⟩ ?_
                refine jRun.brn (fun g => ?_) (fun g => ?_)
                · have h := h.1 g
                  refine jRun.call (k := jk_X8_byteOf) rfl 3 (f := q_X8_isleFar) (As := [.ref 54, .int r1]) (c1 := (149, [.ref 54, .int a1, .int r1, .int (a1 - (M1 69 r1.toNatClampNeg))], [], M7)) (ob := True ∧ True ∧ jKd T0 54 = 8) rfl ⟨trivial, trivial, rfl⟩ h (fun v M8 h => ?_)
                  obtain ⟨r8, rfl, h⟩ := h
                  show jRun X T0 (d + 1) q_X8_byteOf (149, [.ref 54, .int a1, .int r1, .int (a1 - (M1 69 r1.toNatClampNeg))], [.int r8], M8) Q
                  refine jRun.call (k := jk_X8_byteOf) rfl 2 (f := q_X8_part) (As := [.int r8, .int 0]) (c1 := (153, [.ref 54, .int a1, .int r1, .int (a1 - (M1 69 r1.toNatClampNeg))], [], M8)) (ob := True ∧ True) rfl ⟨trivial, trivial⟩ h (fun v M9 h => ?_)
                  obtain ⟨r9, rfl, h⟩ := h
                  show jRun X T0 (d + 1) q_X8_byteOf (153, [.ref 54, .int a1, .int r1, .int (a1 - (M1 69 r1.toNatClampNeg))], [.int r9], M9) Q
                  exact jRun.ret (k := jk_X8_byteOf) rfl 1 (v := some (.int r9)) (M1 := M9) (ob := True) rfl trivial h
                · have h := h.2 g
                  exact jRun.ret (k := jk_X8_byteOf) rfl 3 (v := some (.int 0)) (M1 := M7) (ob := True ∧ True ∧ True) rfl ⟨trivial, trivial, trivial⟩ h
              · have h := h.2 g
                refine jRun.call (k := jk_X8_byteOf) rfl 3 (f := q_X8_farOf) (As := [.ref 54, .int r1]) (c1 := (125, [.ref 54, .int a1, .int r1, .int (a1 - (M1 69 r1.toNatClampNeg))], [], M6)) (ob := True ∧ True ∧ jKd T0 54 = 8) rfl ⟨trivial, trivial, rfl⟩ h (fun v M10 h => ?_)
                obtain ⟨r10, rfl, h⟩ := h
                show jRun X T0 (d + 1) q_X8_byteOf (125, [.ref 54, .int a1, .int r1, .int (a1 - (M1 69 r1.toNatClampNeg))], [.int r10], M10) Q
                refine jRun.call (k := jk_X8_byteOf) rfl 2 (f := q_X8_part) (As := [.int r10, .int 0]) (c1 := (129, [.ref 54, .int a1, .int r1, .int (a1 - (M1 69 r1.toNatClampNeg))], [], M10)) (ob := True ∧ True) rfl ⟨trivial, trivial⟩ h (fun v M11 h => ?_)
                obtain ⟨r11, rfl, h⟩ := h
                show jRun X T0 (d + 1) q_X8_byteOf (129, [.ref 54, .int a1, .int r1, .int (a1 - (M1 69 r1.toNatClampNeg))], [.int r11], M11) Q
                exact jRun.ret (k := jk_X8_byteOf) rfl 1 (v := some (.int r11)) (M1 := M11) (ob := True) rfl trivial h
            · have h := h.2 g
              exact jRun.ret (k := jk_X8_byteOf) rfl 2 (v := some (.int 3)) (M1 := M1) (ob := True ∧ True) rfl ⟨trivial, trivial⟩ h
          · have h := h.2 g
            refine jRun.call (k := jk_X8_byteOf) rfl 4 (f := q_X8_isleByte) (As := [.ref 54, .int r1, .int (a1 - (M1 69 r1.toNatClampNeg))]) (c1 := (160, [.ref 54, .int a1, .int r1, .int (a1 - (M1 69 r1.toNatClampNeg))], [], M1)) (ob := True ∧ True ∧ True ∧ jKd T0 54 = 8) rfl ⟨trivial, trivial, trivial, rfl⟩ h (fun v M12 h => ?_)
            obtain ⟨r12, rfl, h⟩ := h
            show jRun X T0 (d + 1) q_X8_byteOf (160, [.ref 54, .int a1, .int r1, .int (a1 - (M1 69 r1.toNatClampNeg))], [.int r12], M12) Q
            exact jRun.ret (k := jk_X8_byteOf) rfl 1 (v := some (.int r12)) (M1 := M12) (ob := True) rfl trivial h
theorem v_X8_isWay {X : jX} {d : Nat} (hI : jInj X T0) (a0 : Int32) (M : jMem) (Q : Option Value → jMem → Prop) (h : jOk X T0 d q_X8_in [.long a0.toInt64, .long 0, .long 2] M (fun v M1 => ∃ r1, v = some (.int r1) ∧ (r1 = 0 ∨ r1 = 1) ∧ Q (some (.int r1)) M1)) : jOk X T0 (d + 1) q_X8_isWay [.int a0] M Q := by
  refine jOk.intro (ml := 1) (ls := [.int a0]) (jTl (by decide)) rfl (Nat.le_of_ble_eq_true rfl) rfl hI ?_
  refine jRun.call (k := jk_X8_isWay) rfl 5 (f := q_X8_in) (As := [.long a0.toInt64, .long 0, .long 2]) (c1 := (9, [.int a0], [], M)) (ob := True ∧ True ∧ True ∧ True ∧ True) rfl ⟨trivial, trivial, trivial, trivial, trivial⟩ h (fun v M1 h => ?_)
  obtain ⟨r1, rfl, h⟩ := h
  show jRun X T0 (d + 1) q_X8_isWay (9, [.int a0], [.int r1], M1) Q
  obtain ⟨o1, h⟩ := h
  exact jRun.ret (k := jk_X8_isWay) rfl 1 (v := some (.int r1)) (M1 := M1) (ob := (r1 = 0 ∨ r1 = 1)) rfl o1 h
theorem v_X8_way {X : jX} {d : Nat} (hI : jInj X T0) (a1 : Int32) (a2 : Int32) (M : jMem) (Q : Option Value → jMem → Prop) (h : (∀ M1, M1 = jP M 54 0 0 → jOk X T0 d q_X8_isWay [.int a1] M1 (fun v M2 => ∃ r1, v = some (.int r1) ∧ ((r1 = 0 → Q (some (.int (-1))) M2) ∧ (¬ r1 = 0 → jOk X T0 d q_X8_in [.long a2.toInt64, .long 0, .long 5] M2 (fun v M3 => ∃ r2, v = some (.int r2) ∧ ((¬ r2 = 0 → jOk X T0 d q_X8_layWay [.ref 54, .int a1] M3 (fun v M4 => v = none ∧ vp_in (M4 54 7) 33 ∧ ((a2 = 0 → Q (some (.int (M4 69 (M4 54 7).toNatClampNeg))) M4) ∧ (¬ a2 = 0 → ((a2 = 1 → Q (some (.int (M4 54 30))) M4) ∧ (¬ a2 = 1 → ((a2 = 2 → Q (some (.int (M4 54 31))) M4) ∧ (¬ a2 = 2 → ((a2 = 3 → jOk X T0 d q_X8_leastOf [.ref 54] M4 (fun v M5 => v = none ∧ vp_in (M5 54 7) 33 ∧ Q (some (.int ((M4 69 (M4 54 7).toNatClampNeg) - (M5 69 (M5 54 7).toNatClampNeg)))) M5)) ∧ (¬ a2 = 3 → ((a2 = 4 → jOk X T0 d q_X8_served [.ref 54] M4 (fun v M6 => ∃ r5, v = some (.int r5) ∧ Q (some (.int r5)) M6)) ∧ (¬ a2 = 4 → jRun X T0 (d + 1) q_X8_way (115, [.ref 54, .int a1, .int a2, .int (M4 69 (M4 54 7).toNatClampNeg), .int 0, .int 0], [], M4) Q)))))))))))) ∧ (r2 = 0 → Q (some (.int (-1))) M3)))))))) : jOk X T0 (d + 1) q_X8_way [.ref 54, .int a1, .int a2] M Q := by
  refine jOk.intro (ml := 6) (ls := [.ref 54, .int a1, .int a2, .null, .null, .null]) (jTl (by decide)) rfl (Nat.le_of_ble_eq_true rfl) rfl hI ?_
  refine jRun.cut (k := jk_X8_way) rfl 3 (c' := (5, [.ref 54, .int a1, .int a2, .null, .null, .null], [], (jP M 54 0 0))) (ob := True ∧ True ∧ jKd T0 54 = 8 ∧ True) rfl ⟨trivial, trivial, rfl, trivial⟩ ?_
  refine jRun.nm (fun M1 eM1 => ?_)
  have h := h M1 eM1
  refine jRun.call (k := jk_X8_way) rfl 2 (f := q_X8_isWay) (As := [.int a1]) (c1 := (9, [.ref 54, .int a1, .int a2, .null, .null, .null], [], M1)) (ob := True ∧ True) rfl ⟨trivial, trivial⟩ h (fun v M2 h => ?_)
  obtain ⟨r1, rfl, h⟩ := h
  show jRun X T0 (d + 1) q_X8_way (9, [.ref 54, .int a1, .int a2, .null, .null, .null], [.int r1], M2) Q
  refine jRun.cut (k := jk_X8_way) rfl 1 (c' := (if r1 = 0 then 24 else 12, [.ref 54, .int a1, .int a2, .null, .null, .null], [], M2)) (ob := True ∧ True) rfl ⟨trivial, trivial⟩ ?_
  refine jRun.br (fun g => ?_) (fun g => ?_)
  · have h := h.1 g
    exact jRun.ret (k := jk_X8_way) rfl 2 (v := some (.int (-1))) (M1 := M2) (ob := True ∧ True) rfl ⟨trivial, trivial⟩ h
  · have h := h.2 g
    refine jRun.call (k := jk_X8_way) rfl 5 (f := q_X8_in) (As := [.long a2.toInt64, .long 0, .long 5]) (c1 := (21, [.ref 54, .int a1, .int a2, .null, .null, .null], [], M2)) (ob := True ∧ True ∧ True ∧ True ∧ True) rfl ⟨trivial, trivial, trivial, trivial, trivial⟩ h (fun v M3 h => ?_)
    obtain ⟨r2, rfl, h⟩ := h
    show jRun X T0 (d + 1) q_X8_way (21, [.ref 54, .int a1, .int a2, .null, .null, .null], [.int r2], M3) Q
    refine jRun.cut (k := jk_X8_way) rfl 1 (c' := (if ¬ r2 = 0 then 26 else 24, [.ref 54, .int a1, .int a2, .null, .null, .null], [], M3)) (ob := True ∧ True) rfl ⟨trivial, trivial⟩ ?_
    refine jRun.brn (fun g => ?_) (fun g => ?_)
    · have h := h.1 g
      refine jRun.call (k := jk_X8_way) rfl 3 (f := q_X8_layWay) (As := [.ref 54, .int a1]) (c1 := (31, [.ref 54, .int a1, .int a2, .null, .null, .null], [], M3)) (ob := True ∧ True ∧ jKd T0 54 = 8) rfl ⟨trivial, trivial, rfl⟩ h (fun v M4 h => ?_)
      obtain ⟨rfl, h⟩ := h
      show jRun X T0 (d + 1) q_X8_way (31, [.ref 54, .int a1, .int a2, .null, .null, .null], [], M4) Q
      obtain ⟨o1, h⟩ := h
      refine jRun.cut (k := jk_X8_way) rfl 8 (c' := (if a2 = 0 then 76 else if a2 = 1 then 78 else if a2 = 2 then 83 else if a2 = 3 then 88 else if a2 = 4 then 104 else 109, [.ref 54, .int a1, .int a2, .int (M4 69 (M4 54 7).toNatClampNeg), .null, .null], [], M4)) (ob := True ∧ jKd T0 54 = 8 ∧ True ∧ jKd T0 54 = 8 ∧ (jKd T0 69 = 9 ∧ vp_in (M4 54 7) 33) ∧ True ∧ True ∧ True ∧ True) rfl ⟨trivial, rfl, trivial, rfl, ⟨rfl, o1⟩, trivial, trivial, trivial, trivial⟩ ?_
      refine jRun.br (fun g => ?_) (fun g => ?_)
      · have h := h.1 g
        exact jRun.ret (k := jk_X8_way) rfl 2 (v := some (.int (M4 69 (M4 54 7).toNatClampNeg))) (M1 := M4) (ob := True ∧ True) rfl ⟨trivial, trivial⟩ h
      · have h := h.2 g
        refine jRun.br (fun g => ?_) (fun g => ?_)
        · have h := h.1 g
          exact jRun.ret (k := jk_X8_way) rfl 3 (v := some (.int (M4 54 30))) (M1 := M4) (ob := True ∧ jKd T0 54 = 8 ∧ True) rfl ⟨trivial, rfl, trivial⟩ h
        · have h := h.2 g
          refine jRun.br (fun g => ?_) (fun g => ?_)
          · have h := h.1 g
            exact jRun.ret (k := jk_X8_way) rfl 3 (v := some (.int (M4 54 31))) (M1 := M4) (ob := True ∧ jKd T0 54 = 8 ∧ True) rfl ⟨trivial, rfl, trivial⟩ h
          · have h := h.2 g
            refine jRun.br (fun g => ?_) (fun g => ?_)
            · have h := h.1 g
              refine jRun.call (k := jk_X8_way) rfl 2 (f := q_X8_leastOf) (As := [.ref 54]) (c1 := (92, [.ref 54, .int a1, .int a2, .int (M4 69 (M4 54 7).toNatClampNeg), .null, .null], [], M4)) (ob := True ∧ jKd T0 54 = 8) rfl ⟨trivial, rfl⟩ h (fun v M5 h => ?_)
              obtain ⟨rfl, h⟩ := h
              show jRun X T0 (d + 1) q_X8_way (92, [.ref 54, .int a1, .int a2, .int (M4 69 (M4 54 7).toNatClampNeg), .null, .null], [], M5) Q
              obtain ⟨o2, h⟩ := h
              exact jRun.ret (k := jk_X8_way) rfl 8 (v := some (.int ((M4 69 (M4 54 7).toNatClampNeg) - (M5 69 (M5 54 7).toNatClampNeg)))) (M1 := M5) (ob := True ∧ True ∧ jKd T0 54 = 8 ∧ True ∧ jKd T0 54 = 8 ∧ (jKd T0 69 = 9 ∧ vp_in (M5 54 7) 33) ∧ True ∧ True) rfl ⟨trivial, trivial, rfl, trivial, rfl, ⟨rfl, o2⟩, trivial, trivial⟩ h
            · have h := h.2 g
              refine jRun.br (fun g => ?_) (fun g => ?_)
              · have h := h.1 g
                refine jRun.call (k := jk_X8_way) rfl 2 (f := q_X8_served) (As := [.ref 54]) (c1 := (108, [.ref 54, .int a1, .int a2, .int (M4 69 (M4 54 7).toNatClampNeg), .null, .null], [], M4)) (ob := True ∧ jKd T0 54 = 8) rfl ⟨trivial, rfl⟩ h (fun v M6 h => ?_)
                obtain ⟨r5, rfl, h⟩ := h
                show jRun X T0 (d + 1) q_X8_way (108, [.ref 54, .int a1, .int a2, .int (M4 69 (M4 54 7).toNatClampNeg), .null, .null], [.int r5], M6) Q
                exact jRun.ret (k := jk_X8_way) rfl 1 (v := some (.int r5)) (M1 := M6) (ob := True) rfl trivial h
              · have h := h.2 g
                refine jRun.cut (k := jk_X8_way) rfl 4 (c' := (115, [.ref 54, .int a1, .int a2, .int (M4 69 (M4 54 7).toNatClampNeg), .int 0, .int 0], [], M4)) (ob := True ∧ True ∧ True ∧ True ∧ True) rfl ⟨trivial, trivial, trivial, trivial, trivial⟩ ?_
                exact h
    · have h := h.2 g
      exact jRun.ret (k := jk_X8_way) rfl 2 (v := some (.int (-1))) (M1 := M3) (ob := True ∧ True) rfl ⟨trivial, trivial⟩ h
theorem v_X8_way_115 {X : jX} {d : Nat} (a1 : Int32) (a2 : Int32) (a3 : Int32) (a4 : Int32) (a5 : Int32) (M : jMem) (Q : Option Value → jMem → Prop) (h : ((a3 ≤ a5 → Q (some (.int a4)) M) ∧ (¬ a3 ≤ a5 → jOk X T0 d q_X8_byteOf [.ref 54, .int a5] M (fun v M1 => ∃ r1, v = some (.int r1) ∧ jRun X T0 (d + 1) q_X8_way (115, [.ref 54, .int a1, .int a2, .int a3, .int (a4 + r1), .int (a5 + 1)], [], M1) Q)))) : jRun X T0 (d + 1) q_X8_way (115, [.ref 54, .int a1, .int a2, .int a3, .int a4, .int a5], [], M) Q := by
  refine jRun.cut (k := jk_X8_way) rfl 3 (c' := (if a3 ≤ a5 then 138 else 121, [.ref 54, .int a1, .int a2, .int a3, .int a4, .int a5], [], M)) (ob := True ∧ True ∧ True ∧ True) rfl ⟨trivial, trivial, trivial, trivial⟩ ?_
  refine jRun.br (fun g => ?_) (fun g => ?_)
  · have h := h.1 g
    exact jRun.ret (k := jk_X8_way) rfl 2 (v := some (.int a4)) (M1 := M) (ob := True ∧ True) rfl ⟨trivial, trivial⟩ h
  · have h := h.2 g
    refine jRun.call (k := jk_X8_way) rfl 4 (f := q_X8_byteOf) (As := [.ref 54, .int a5]) (c1 := (129, [.ref 54, .int a1, .int a2, .int a3, .int a4, .int a5], [.int a4], M)) (ob := True ∧ True ∧ True ∧ jKd T0 54 = 8) rfl ⟨trivial, trivial, trivial, rfl⟩ h (fun v M1 h => ?_)
    obtain ⟨r1, rfl, h⟩ := h
    show jRun X T0 (d + 1) q_X8_way (129, [.ref 54, .int a1, .int a2, .int a3, .int a4, .int a5], [.int r1, .int a4], M1) Q
    refine jRun.cut (k := jk_X8_way) rfl 4 (c' := (115, [.ref 54, .int a1, .int a2, .int a3, .int (a4 + r1), .int (a5 + 1)], [], M1)) (ob := True ∧ True ∧ True ∧ True ∧ True) rfl ⟨trivial, trivial, trivial, trivial, trivial⟩ ?_
    exact h
theorem v_X8_lies {X : jX} {d : Nat} (hI : jInj X T0) (a1 : Int32) (a2 : Int32) (a3 : Int32) (M : jMem) (Q : Option Value → jMem → Prop) (h : (∀ M1, M1 = jP M 54 0 0 → jOk X T0 d q_X8_isWay [.int a1] M1 (fun v M2 => ∃ r1, v = some (.int r1) ∧ ((r1 = 0 → Q (some (.int (-1000000))) M2) ∧ (¬ r1 = 0 → jOk X T0 d q_X8_isItem [.ref 54, .int a2] M2 (fun v M3 => ∃ r2, v = some (.int r2) ∧ ((r2 = 0 → Q (some (.int (-1000000))) M3) ∧ (¬ r2 = 0 → jOk X T0 d q_X8_in [.long a3.toInt64, .long 0, .long 2] M3 (fun v M4 => ∃ r3, v = some (.int r3) ∧ ((¬ r3 = 0 → jOk X T0 d q_X8_layWay [.ref 54, .int a1] M4 (fun v M5 => v = none ∧ ((2 ≤ a3 → vp_in a2 32 ∧ (((M5 56 a2.toNatClampNeg) = 2 → jOk X T0 d q_X8_farOf [.ref 54, .int a2] M5 (fun v M6 => ∃ r5, v = some (.int r5) ∧ Q (some (.int r5)) M6)) ∧ (¬ (M5 56 a2.toNatClampNeg) = 2 → ((¬ (M5 56 a2.toNatClampNeg) = 4 → Q (some (.int 0)) M5) ∧ ((M5 56 a2.toNatClampNeg) = 4 → jOk X T0 d q_X8_farOf [.ref 54, .int a2] M5 (fun v M7 => ∃ r6, v = some (.int r6) ∧ Q (some (.int r6)) M7)))))) ∧ (¬ 2 ≤ a3 → ((¬ a3 = 0 → vp_in (a2 + 1) 33 ∧ vp_in a2 33 ∧ Q (some (.int ((M5 69 (a2 + 1).toNatClampNeg) - (M5 69 a2.toNatClampNeg)))) M5) ∧ (a3 = 0 → vp_in a2 33 ∧ Q (some (.int (M5 69 a2.toNatClampNeg))) M5)))))) ∧ (r3 = 0 → Q (some (.int (-1000000))) M4))))))))))) : jOk X T0 (d + 1) q_X8_lies [.ref 54, .int a1, .int a2, .int a3] M Q := by
  refine jOk.intro (ml := 4) (ls := [.ref 54, .int a1, .int a2, .int a3]) (jTl (by decide)) rfl (Nat.le_of_ble_eq_true rfl) rfl hI ?_
  refine jRun.cut (k := jk_X8_lies) rfl 3 (c' := (5, [.ref 54, .int a1, .int a2, .int a3], [], (jP M 54 0 0))) (ob := True ∧ True ∧ jKd T0 54 = 8 ∧ True) rfl ⟨trivial, trivial, rfl, trivial⟩ ?_
  refine jRun.nm (fun M1 eM1 => ?_)
  have h := h M1 eM1
  refine jRun.call (k := jk_X8_lies) rfl 2 (f := q_X8_isWay) (As := [.int a1]) (c1 := (9, [.ref 54, .int a1, .int a2, .int a3], [], M1)) (ob := True ∧ True) rfl ⟨trivial, trivial⟩ h (fun v M2 h => ?_)
  obtain ⟨r1, rfl, h⟩ := h
  show jRun X T0 (d + 1) q_X8_lies (9, [.ref 54, .int a1, .int a2, .int a3], [.int r1], M2) Q
  refine jRun.cut (k := jk_X8_lies) rfl 1 (c' := (if r1 = 0 then 32 else 12, [.ref 54, .int a1, .int a2, .int a3], [], M2)) (ob := True ∧ True) rfl ⟨trivial, trivial⟩ ?_
  refine jRun.br (fun g => ?_) (fun g => ?_)
  · have h := h.1 g
    exact jRun.ret (k := jk_X8_lies) rfl 2 (v := some (.int (-1000000))) (M1 := M2) (ob := True ∧ True) rfl ⟨trivial, trivial⟩ h
  · have h := h.2 g
    refine jRun.call (k := jk_X8_lies) rfl 3 (f := q_X8_isItem) (As := [.ref 54, .int a2]) (c1 := (17, [.ref 54, .int a1, .int a2, .int a3], [], M2)) (ob := True ∧ True ∧ jKd T0 54 = 8) rfl ⟨trivial, trivial, rfl⟩ h (fun v M3 h => ?_)
    obtain ⟨r2, rfl, h⟩ := h
    show jRun X T0 (d + 1) q_X8_lies (17, [.ref 54, .int a1, .int a2, .int a3], [.int r2], M3) Q
    refine jRun.cut (k := jk_X8_lies) rfl 1 (c' := (if r2 = 0 then 32 else 20, [.ref 54, .int a1, .int a2, .int a3], [], M3)) (ob := True ∧ True) rfl ⟨trivial, trivial⟩ ?_
    refine jRun.br (fun g => ?_) (fun g => ?_)
    · have h := h.1 g
      exact jRun.ret (k := jk_X8_lies) rfl 2 (v := some (.int (-1000000))) (M1 := M3) (ob := True ∧ True) rfl ⟨trivial, trivial⟩ h
    · have h := h.2 g
      refine jRun.call (k := jk_X8_lies) rfl 5 (f := q_X8_in) (As := [.long a3.toInt64, .long 0, .long 2]) (c1 := (29, [.ref 54, .int a1, .int a2, .int a3], [], M3)) (ob := True ∧ True ∧ True ∧ True ∧ True) rfl ⟨trivial, trivial, trivial, trivial, trivial⟩ h (fun v M4 h => ?_)
      obtain ⟨r3, rfl, h⟩ := h
      show jRun X T0 (d + 1) q_X8_lies (29, [.ref 54, .int a1, .int a2, .int a3], [.int r3], M4) Q
      refine jRun.cut (k := jk_X8_lies) rfl 1 (c' := (if ¬ r3 = 0 then 35 else 32, [.ref 54, .int a1, .int a2, .int a3], [], M4)) (ob := True ∧ True) rfl ⟨trivial, trivial⟩ ?_
      refine jRun.brn (fun g => ?_) (fun g => ?_)
      · have h := h.1 g
        refine jRun.call (k := jk_X8_lies) rfl 3 (f := q_X8_layWay) (As := [.ref 54, .int a1]) (c1 := (40, [.ref 54, .int a1, .int a2, .int a3], [], M4)) (ob := True ∧ True ∧ jKd T0 54 = 8) rfl ⟨trivial, trivial, rfl⟩ h (fun v M5 h => ?_)
        obtain ⟨rfl, h⟩ := h
        show jRun X T0 (d + 1) q_X8_lies (40, [.ref 54, .int a1, .int a2, .int a3], [], M5) Q
        refine jRun.cut (k := jk_X8_lies) rfl 3 (c' := (if 2 ≤ a3 then 74 else 45, [.ref 54, .int a1, .int a2, .int a3], [], M5)) (ob := True ∧ True ∧ True ∧ True) rfl ⟨trivial, trivial, trivial, trivial⟩ ?_
        refine jRun.br (fun g => ?_) (fun g => ?_)
        · have h := h.1 g
          obtain ⟨o1, h⟩ := h
          refine jRun.cut (k := jk_X8_lies) rfl 6 (c' := (if (M5 56 a2.toNatClampNeg) = 2 then 94 else 84, [.ref 54, .int a1, .int a2, .int a3], [], M5)) (ob := True ∧ jKd T0 54 = 8 ∧ True ∧ (jKd T0 56 = 9 ∧ vp_in a2 32) ∧ True ∧ True ∧ True) rfl ⟨trivial, rfl, trivial, ⟨rfl, o1⟩, trivial, trivial, trivial⟩ ?_
          refine jRun.br (fun g => ?_) (fun g => ?_)
          · have h := h.1 g
            refine jRun.call (k := jk_X8_lies) rfl 3 (f := q_X8_farOf) (As := [.ref 54, .int a2]) (c1 := (99, [.ref 54, .int a1, .int a2, .int a3], [], M5)) (ob := True ∧ True ∧ jKd T0 54 = 8) rfl ⟨trivial, trivial, rfl⟩ h (fun v M6 h => ?_)
            obtain ⟨r5, rfl, h⟩ := h
            show jRun X T0 (d + 1) q_X8_lies (99, [.ref 54, .int a1, .int a2, .int a3], [.int r5], M6) Q
            exact jRun.ret (k := jk_X8_lies) rfl 2 (v := some (.int r5)) (M1 := M6) (ob := True ∧ True) rfl ⟨trivial, trivial⟩ h
          · have h := h.2 g
            refine jRun.cut (k := jk_X8_lies) rfl 6 (c' := (if ¬ (M5 56 a2.toNatClampNeg) = 4 then 102 else 94, [.ref 54, .int a1, .int a2, .int a3], [], M5)) (ob := True ∧ jKd T0 54 = 8 ∧ True ∧ (jKd T0 56 = 9 ∧ vp_in a2 32) ∧ True ∧ True ∧ True) rfl ⟨trivial, rfl, trivial, ⟨rfl, o1⟩, trivial, trivial, trivial⟩ ?_
            refine jRun.brn (fun g => ?_) (fun g => ?_)
            · have h := h.1 g
              exact jRun.ret (k := jk_X8_lies) rfl 2 (v := some (.int 0)) (M1 := M5) (ob := True ∧ True) rfl ⟨trivial, trivial⟩ h
            · have h := h.2 g
              refine jRun.call (k := jk_X8_lies) rfl 3 (f := q_X8_farOf) (As := [.ref 54, .int a2]) (c1 := (99, [.ref 54, .int a1, .int a2, .int a3], [], M5)) (ob := True ∧ True ∧ jKd T0 54 = 8) rfl ⟨trivial, trivial, rfl⟩ h (fun v M7 h => ?_)
              obtain ⟨r6, rfl, h⟩ := h
              show jRun X T0 (d + 1) q_X8_lies (99, [.ref 54, .int a1, .int a2, .int a3], [.int r6], M7) Q
              exact jRun.ret (k := jk_X8_lies) rfl 2 (v := some (.int r6)) (M1 := M7) (ob := True ∧ True) rfl ⟨trivial, trivial⟩ h
        · have h := h.2 g
          refine jRun.cut (k := jk_X8_lies) rfl 2 (c' := (if ¬ a3 = 0 then 58 else 49, [.ref 54, .int a1, .int a2, .int a3], [], M5)) (ob := True ∧ True ∧ True) rfl ⟨trivial, trivial, trivial⟩ ?_
          refine jRun.brn (fun g => ?_) (fun g => ?_)
          · have h := h.1 g
            obtain ⟨o2, o3, h⟩ := h
            exact jRun.ret (k := jk_X8_lies) rfl 12 (v := some (.int ((M5 69 (a2 + 1).toNatClampNeg) - (M5 69 a2.toNatClampNeg)))) (M1 := M5) (ob := True ∧ jKd T0 54 = 8 ∧ True ∧ True ∧ True ∧ (jKd T0 69 = 9 ∧ vp_in (a2 + 1) 33) ∧ True ∧ jKd T0 54 = 8 ∧ True ∧ (jKd T0 69 = 9 ∧ vp_in a2 33) ∧ True ∧ True) rfl ⟨trivial, rfl, trivial, trivial, trivial, ⟨rfl, o2⟩, trivial, rfl, trivial, ⟨rfl, o3⟩, trivial, trivial⟩ h
          · have h := h.2 g
            obtain ⟨o4, h⟩ := h
            exact jRun.ret (k := jk_X8_lies) rfl 6 (v := some (.int (M5 69 a2.toNatClampNeg))) (M1 := M5) (ob := True ∧ jKd T0 54 = 8 ∧ True ∧ (jKd T0 69 = 9 ∧ vp_in a2 33) ∧ True ∧ True) rfl ⟨trivial, rfl, trivial, ⟨rfl, o4⟩, trivial, trivial⟩ h
      · have h := h.2 g
        exact jRun.ret (k := jk_X8_lies) rfl 2 (v := some (.int (-1000000))) (M1 := M4) (ob := True ∧ True) rfl ⟨trivial, trivial⟩ h
theorem v_X8_code {X : jX} {d : Nat} (hI : jInj X T0) (a1 : Int32) (a2 : Int32) (M : jMem) (Q : Option Value → jMem → Prop) (h : (∀ M1, M1 = jP M 54 0 0 → jOk X T0 d q_X8_isWay [.int a1] M1 (fun v M2 => ∃ r1, v = some (.int r1) ∧ ((r1 = 0 → Q (some (.int (-1))) M2) ∧ (¬ r1 = 0 → ((0 ≤ a2 → jOk X T0 d q_X8_layWay [.ref 54, .int a1] M2 (fun v M3 => v = none ∧ vp_in (M3 54 7) 33 ∧ (((M3 69 (M3 54 7).toNatClampNeg) ≤ a2 → Q (some (.int (-1))) M3) ∧ (¬ (M3 69 (M3 54 7).toNatClampNeg) ≤ a2 → jOk X T0 d q_X8_byteOf [.ref 54, .int a2] M3 (fun v M4 => ∃ r3, v = some (.int r3) ∧ Q (some (.int r3)) M4))))) ∧ (¬ 0 ≤ a2 → Q (some (.int (-1))) M2))))))) : jOk X T0 (d + 1) q_X8_code [.ref 54, .int a1, .int a2] M Q := by
  refine jOk.intro (ml := 3) (ls := [.ref 54, .int a1, .int a2]) (jTl (by decide)) rfl (Nat.le_of_ble_eq_true rfl) rfl hI ?_
  refine jRun.cut (k := jk_X8_code) rfl 3 (c' := (5, [.ref 54, .int a1, .int a2], [], (jP M 54 0 0))) (ob := True ∧ True ∧ jKd T0 54 = 8 ∧ True) rfl ⟨trivial, trivial, rfl, trivial⟩ ?_
  refine jRun.nm (fun M1 eM1 => ?_)
  have h := h M1 eM1
  refine jRun.call (k := jk_X8_code) rfl 2 (f := q_X8_isWay) (As := [.int a1]) (c1 := (9, [.ref 54, .int a1, .int a2], [], M1)) (ob := True ∧ True) rfl ⟨trivial, trivial⟩ h (fun v M2 h => ?_)
  obtain ⟨r1, rfl, h⟩ := h
  show jRun X T0 (d + 1) q_X8_code (9, [.ref 54, .int a1, .int a2], [.int r1], M2) Q
  refine jRun.cut (k := jk_X8_code) rfl 1 (c' := (if r1 = 0 then 16 else 12, [.ref 54, .int a1, .int a2], [], M2)) (ob := True ∧ True) rfl ⟨trivial, trivial⟩ ?_
  refine jRun.br (fun g => ?_) (fun g => ?_)
  · have h := h.1 g
    exact jRun.ret (k := jk_X8_code) rfl 2 (v := some (.int (-1))) (M1 := M2) (ob := True ∧ True) rfl ⟨trivial, trivial⟩ h
  · have h := h.2 g
    refine jRun.cut (k := jk_X8_code) rfl 2 (c' := (if 0 ≤ a2 then 18 else 16, [.ref 54, .int a1, .int a2], [], M2)) (ob := True ∧ True ∧ True) rfl ⟨trivial, trivial, trivial⟩ ?_
    refine jRun.br (fun g => ?_) (fun g => ?_)
    · have h := h.1 g
      refine jRun.call (k := jk_X8_code) rfl 3 (f := q_X8_layWay) (As := [.ref 54, .int a1]) (c1 := (23, [.ref 54, .int a1, .int a2], [], M2)) (ob := True ∧ True ∧ jKd T0 54 = 8) rfl ⟨trivial, trivial, rfl⟩ h (fun v M3 h => ?_)
      obtain ⟨rfl, h⟩ := h
      show jRun X T0 (d + 1) q_X8_code (23, [.ref 54, .int a1, .int a2], [], M3) Q
      obtain ⟨o1, h⟩ := h
      refine jRun.cut (k := jk_X8_code) rfl 7 (c' := (if (M3 69 (M3 54 7).toNatClampNeg) ≤ a2 then 44 else 36, [.ref 54, .int a1, .int a2], [], M3)) (ob := True ∧ True ∧ jKd T0 54 = 8 ∧ True ∧ jKd T0 54 = 8 ∧ (jKd T0 69 = 9 ∧ vp_in (M3 54 7) 33) ∧ True ∧ True) rfl ⟨trivial, trivial, rfl, trivial, rfl, ⟨rfl, o1⟩, trivial, trivial⟩ ?_
      refine jRun.br (fun g => ?_) (fun g => ?_)
      · have h := h.1 g
        exact jRun.ret (k := jk_X8_code) rfl 2 (v := some (.int (-1))) (M1 := M3) (ob := True ∧ True) rfl ⟨trivial, trivial⟩ h
      · have h := h.2 g
        refine jRun.call (k := jk_X8_code) rfl 3 (f := q_X8_byteOf) (As := [.ref 54, .int a2]) (c1 := (41, [.ref 54, .int a1, .int a2], [], M3)) (ob := True ∧ True ∧ jKd T0 54 = 8) rfl ⟨trivial, trivial, rfl⟩ h (fun v M4 h => ?_)
        obtain ⟨r3, rfl, h⟩ := h
        show jRun X T0 (d + 1) q_X8_code (41, [.ref 54, .int a1, .int a2], [.int r3], M4) Q
        exact jRun.ret (k := jk_X8_code) rfl 2 (v := some (.int r3)) (M1 := M4) (ob := True ∧ True) rfl ⟨trivial, trivial⟩ h
    · have h := h.2 g
      exact jRun.ret (k := jk_X8_code) rfl 2 (v := some (.int (-1))) (M1 := M2) (ob := True ∧ True) rfl ⟨trivial, trivial⟩ h
theorem v_X8_origin {X : jX} {d : Nat} (hI : jInj X T0) (a1 : Int32) (a2 : Int32) (M : jMem) (Q : Option Value → jMem → Prop) (h : (∀ M1, M1 = jP M 54 0 0 → jOk X T0 d q_X8_isWay [.int a1] M1 (fun v M2 => ∃ r1, v = some (.int r1) ∧ ((r1 = 0 → Q (some (.int (-1))) M2) ∧ (¬ r1 = 0 → ((0 ≤ a2 → jOk X T0 d q_X8_layWay [.ref 54, .int a1] M2 (fun v M3 => v = none ∧ vp_in (M3 54 7) 33 ∧ (((M3 69 (M3 54 7).toNatClampNeg) ≤ a2 → Q (some (.int (-1))) M3) ∧ (¬ (M3 69 (M3 54 7).toNatClampNeg) ≤ a2 → jOk X T0 d q_X8_itemAt [.ref 54, .int a2] M3 (fun v M4 => ∃ r3, v = some (.int r3) ∧ Q (some (.int r3)) M4))))) ∧ (¬ 0 ≤ a2 → Q (some (.int (-1))) M2))))))) : jOk X T0 (d + 1) q_X8_origin [.ref 54, .int a1, .int a2] M Q := by
  refine jOk.intro (ml := 3) (ls := [.ref 54, .int a1, .int a2]) (jTl (by decide)) rfl (Nat.le_of_ble_eq_true rfl) rfl hI ?_
  refine jRun.cut (k := jk_X8_origin) rfl 3 (c' := (5, [.ref 54, .int a1, .int a2], [], (jP M 54 0 0))) (ob := True ∧ True ∧ jKd T0 54 = 8 ∧ True) rfl ⟨trivial, trivial, rfl, trivial⟩ ?_
  refine jRun.nm (fun M1 eM1 => ?_)
  have h := h M1 eM1
  refine jRun.call (k := jk_X8_origin) rfl 2 (f := q_X8_isWay) (As := [.int a1]) (c1 := (9, [.ref 54, .int a1, .int a2], [], M1)) (ob := True ∧ True) rfl ⟨trivial, trivial⟩ h (fun v M2 h => ?_)
  obtain ⟨r1, rfl, h⟩ := h
  show jRun X T0 (d + 1) q_X8_origin (9, [.ref 54, .int a1, .int a2], [.int r1], M2) Q
  refine jRun.cut (k := jk_X8_origin) rfl 1 (c' := (if r1 = 0 then 16 else 12, [.ref 54, .int a1, .int a2], [], M2)) (ob := True ∧ True) rfl ⟨trivial, trivial⟩ ?_
  refine jRun.br (fun g => ?_) (fun g => ?_)
  · have h := h.1 g
    exact jRun.ret (k := jk_X8_origin) rfl 2 (v := some (.int (-1))) (M1 := M2) (ob := True ∧ True) rfl ⟨trivial, trivial⟩ h
  · have h := h.2 g
    refine jRun.cut (k := jk_X8_origin) rfl 2 (c' := (if 0 ≤ a2 then 18 else 16, [.ref 54, .int a1, .int a2], [], M2)) (ob := True ∧ True ∧ True) rfl ⟨trivial, trivial, trivial⟩ ?_
    refine jRun.br (fun g => ?_) (fun g => ?_)
    · have h := h.1 g
      refine jRun.call (k := jk_X8_origin) rfl 3 (f := q_X8_layWay) (As := [.ref 54, .int a1]) (c1 := (23, [.ref 54, .int a1, .int a2], [], M2)) (ob := True ∧ True ∧ jKd T0 54 = 8) rfl ⟨trivial, trivial, rfl⟩ h (fun v M3 h => ?_)
      obtain ⟨rfl, h⟩ := h
      show jRun X T0 (d + 1) q_X8_origin (23, [.ref 54, .int a1, .int a2], [], M3) Q
      obtain ⟨o1, h⟩ := h
      refine jRun.cut (k := jk_X8_origin) rfl 7 (c' := (if (M3 69 (M3 54 7).toNatClampNeg) ≤ a2 then 44 else 36, [.ref 54, .int a1, .int a2], [], M3)) (ob := True ∧ True ∧ jKd T0 54 = 8 ∧ True ∧ jKd T0 54 = 8 ∧ (jKd T0 69 = 9 ∧ vp_in (M3 54 7) 33) ∧ True ∧ True) rfl ⟨trivial, trivial, rfl, trivial, rfl, ⟨rfl, o1⟩, trivial, trivial⟩ ?_
      refine jRun.br (fun g => ?_) (fun g => ?_)
      · have h := h.1 g
        exact jRun.ret (k := jk_X8_origin) rfl 2 (v := some (.int (-1))) (M1 := M3) (ob := True ∧ True) rfl ⟨trivial, trivial⟩ h
      · have h := h.2 g
        refine jRun.call (k := jk_X8_origin) rfl 3 (f := q_X8_itemAt) (As := [.ref 54, .int a2]) (c1 := (41, [.ref 54, .int a1, .int a2], [], M3)) (ob := True ∧ True ∧ jKd T0 54 = 8) rfl ⟨trivial, trivial, rfl⟩ h (fun v M4 h => ?_)
        obtain ⟨r3, rfl, h⟩ := h
        show jRun X T0 (d + 1) q_X8_origin (41, [.ref 54, .int a1, .int a2], [.int r3], M4) Q
        exact jRun.ret (k := jk_X8_origin) rfl 2 (v := some (.int r3)) (M1 := M4) (ob := True ∧ True) rfl ⟨trivial, trivial⟩ h
    · have h := h.2 g
      exact jRun.ret (k := jk_X8_origin) rfl 2 (v := some (.int (-1))) (M1 := M2) (ob := True ∧ True) rfl ⟨trivial, trivial⟩ h
theorem v_X8_narrow {X : jX} {d : Nat} (hI : jInj X T0)  (M : jMem) (Q : Option Value → jMem → Prop) (h : (∀ M1, M1 = jP M 54 0 0 → jRun X T0 (d + 1) q_X8_narrow (16, [.ref 54, .int (M1 54 8), .int (-9), .int 127], [], M1) Q)) : jOk X T0 (d + 1) q_X8_narrow [.ref 54] M Q := by
  refine jOk.intro (ml := 4) (ls := [.ref 54, .null, .null, .null]) (jTl (by decide)) rfl (Nat.le_of_ble_eq_true rfl) rfl hI ?_
  refine jRun.cut (k := jk_X8_narrow) rfl 3 (c' := (5, [.ref 54, .null, .null, .null], [], (jP M 54 0 0))) (ob := True ∧ True ∧ jKd T0 54 = 8 ∧ True) rfl ⟨trivial, trivial, rfl, trivial⟩ ?_
  refine jRun.nm (fun M1 eM1 => ?_)
  have h := h M1 eM1
  refine jRun.cut (k := jk_X8_narrow) rfl 7 (c' := (16, [.ref 54, .int (M1 54 8), .int (-9), .int 127], [], M1)) (ob := True ∧ jKd T0 54 = 8 ∧ True ∧ True ∧ True ∧ True ∧ True ∧ True) rfl ⟨trivial, rfl, trivial, trivial, trivial, trivial, trivial, trivial⟩ ?_
  exact h
theorem v_X8_narrow_16 {X : jX} {d : Nat} (a1 : Int32) (a2 : Int32) (a3 : Int32) (M : jMem) (Q : Option Value → jMem → Prop) (h : ((a3 ≤ 3 → (∀ M1, M1 = jP M 54 8 a1 → Q (some (.int a2)) M1)) ∧ (¬ a3 ≤ 3 → (∀ M2, M2 = jP M 54 8 a3 → jOk X T0 d q_X8_grow [.ref 54] M2 (fun v M3 => v = none ∧ ((¬ ((M3 54 30) &&& ((M3 57 32) ^^^ (-1))) = 0 → jRun X T0 (d + 1) q_X8_narrow (16, [.ref 54, .int a1, .int a2, .int (a3 + (-1))], [], M3) Q) ∧ (((M3 54 30) &&& ((M3 57 32) ^^^ (-1))) = 0 → jRun X T0 (d + 1) q_X8_narrow (16, [.ref 54, .int a1, .int a3, .int (a3 + (-1))], [], M3) Q))))))) : jRun X T0 (d + 1) q_X8_narrow (16, [.ref 54, .int a1, .int a2, .int a3], [], M) Q := by
  refine jRun.cut (k := jk_X8_narrow) rfl 3 (c' := (if a3 ≤ 3 then 59 else 21, [.ref 54, .int a1, .int a2, .int a3], [], M)) (ob := True ∧ True ∧ True ∧ True) rfl ⟨trivial, trivial, trivial, trivial⟩ ?_
  refine jRun.br (fun g => ?_) (fun g => ?_)
  · have h := h.1 g
    refine jRun.cut (k := jk_X8_narrow) rfl 3 (c' := (64, [.ref 54, .int a1, .int a2, .int a3], [], (jP M 54 8 a1))) (ob := True ∧ True ∧ jKd T0 54 = 8 ∧ True) rfl ⟨trivial, trivial, rfl, trivial⟩ ?_
    refine jRun.nm (fun M1 eM1 => ?_)
    have h := h M1 eM1
    exact jRun.ret (k := jk_X8_narrow) rfl 2 (v := some (.int a2)) (M1 := M1) (ob := True ∧ True) rfl ⟨trivial, trivial⟩ h
  · have h := h.2 g
    refine jRun.cut (k := jk_X8_narrow) rfl 3 (c' := (26, [.ref 54, .int a1, .int a2, .int a3], [], (jP M 54 8 a3))) (ob := True ∧ True ∧ jKd T0 54 = 8 ∧ True) rfl ⟨trivial, trivial, rfl, trivial⟩ ?_
    refine jRun.nm (fun M2 eM2 => ?_)
    have h := h M2 eM2
    refine jRun.call (k := jk_X8_narrow) rfl 2 (f := q_X8_grow) (As := [.ref 54]) (c1 := (30, [.ref 54, .int a1, .int a2, .int a3], [], M2)) (ob := True ∧ jKd T0 54 = 8) rfl ⟨trivial, rfl⟩ h (fun v M3 h => ?_)
    obtain ⟨rfl, h⟩ := h
    show jRun X T0 (d + 1) q_X8_narrow (30, [.ref 54, .int a1, .int a2, .int a3], [], M3) Q
    refine jRun.cut (k := jk_X8_narrow) rfl 10 (c' := (if ¬ ((M3 54 30) &&& ((M3 57 32) ^^^ (-1))) = 0 then 51 else 47, [.ref 54, .int a1, .int a2, .int a3], [], M3)) (ob := True ∧ jKd T0 54 = 8 ∧ True ∧ jKd T0 54 = 8 ∧ True ∧ (jKd T0 57 = 9 ∧ vp_in 32 36) ∧ True ∧ True ∧ True ∧ True ∧ True) rfl ⟨trivial, rfl, trivial, rfl, trivial, ⟨rfl, (vp_in_iff.mpr (by decide))⟩, trivial, trivial, trivial, trivial, trivial⟩ ?_
    refine jRun.brn (fun g => ?_) (fun g => ?_)
    · have h := h.1 g
      refine jRun.cut (k := jk_X8_narrow) rfl 4 (c' := (16, [.ref 54, .int a1, .int a2, .int (a3 + (-1))], [], M3)) (ob := True ∧ True ∧ True ∧ True ∧ True) rfl ⟨trivial, trivial, trivial, trivial, trivial⟩ ?_
      exact h
    · have h := h.2 g
      refine jRun.cut (k := jk_X8_narrow) rfl 5 (c' := (16, [.ref 54, .int a1, .int a3, .int (a3 + (-1))], [], M3)) (ob := True ∧ True ∧ True ∧ True ∧ True ∧ True) rfl ⟨trivial, trivial, trivial, trivial, trivial, trivial⟩ ?_
      exact h
theorem v_X8_doServe {X : jX} {d : Nat} (hI : jInj X T0) (a1 : Int32) (M : jMem) (Q : Option Value → jMem → Prop) (h : jRun X T0 (d + 1) q_X8_doServe (2, [.ref 54, .int a1, .int 0], [], M) Q) : jOk X T0 (d + 1) q_X8_doServe [.ref 54, .int a1] M Q := by
  refine jOk.intro (ml := 3) (ls := [.ref 54, .int a1, .null]) (jTl (by decide)) rfl (Nat.le_of_ble_eq_true rfl) rfl hI ?_
  refine jRun.cut (k := jk_X8_doServe) rfl 2 (c' := (2, [.ref 54, .int a1, .int 0], [], M)) (ob := True ∧ True ∧ True) rfl ⟨trivial, trivial, trivial⟩ ?_
  exact h
theorem v_X8_doServe_2 {X : jX} {d : Nat} (a1 : Int32) (a2 : Int32) (M : jMem) (Q : Option Value → jMem → Prop) (h : ((3 ≤ a2 → jOk X T0 d q_X8_grow [.ref 54] M (fun v M1 => v = none ∧ jOk X T0 d q_X8_served [.ref 54] M1 (fun v M2 => ∃ r2, v = some (.int r2) ∧ ((¬ r2 = ((1 <<< ((M2 54 14) &&& 31)) - 1) → Q (some (.int 0)) M2) ∧ (r2 = ((1 <<< ((M2 54 14) &&& 31)) - 1) → Q (some (.int 1)) M2))))) ∧ (¬ 3 ≤ a2 → vp_in (33 + a2) 36 ∧ (∀ M3, M3 = jP M 57 ((33 + a2).toNatClampNeg) ((a1 >>> ((8 * a2) &&& 31)) &&& 255) → jRun X T0 (d + 1) q_X8_doServe (2, [.ref 54, .int a1, .int (a2 + 1)], [], M3) Q)))) : jRun X T0 (d + 1) q_X8_doServe (2, [.ref 54, .int a1, .int a2], [], M) Q := by
  refine jRun.cut (k := jk_X8_doServe) rfl 3 (c' := (if 3 ≤ a2 then 32 else 7, [.ref 54, .int a1, .int a2], [], M)) (ob := True ∧ True ∧ True ∧ True) rfl ⟨trivial, trivial, trivial, trivial⟩ ?_
  refine jRun.br (fun g => ?_) (fun g => ?_)
  · have h := h.1 g
    refine jRun.call (k := jk_X8_doServe) rfl 2 (f := q_X8_grow) (As := [.ref 54]) (c1 := (36, [.ref 54, .int a1, .int a2], [], M)) (ob := True ∧ jKd T0 54 = 8) rfl ⟨trivial, rfl⟩ h (fun v M1 h => ?_)
    obtain ⟨rfl, h⟩ := h
    show jRun X T0 (d + 1) q_X8_doServe (36, [.ref 54, .int a1, .int a2], [], M1) Q
    refine jRun.call (k := jk_X8_doServe) rfl 2 (f := q_X8_served) (As := [.ref 54]) (c1 := (40, [.ref 54, .int a1, .int a2], [], M1)) (ob := True ∧ jKd T0 54 = 8) rfl ⟨trivial, rfl⟩ h (fun v M2 h => ?_)
    obtain ⟨r2, rfl, h⟩ := h
    show jRun X T0 (d + 1) q_X8_doServe (40, [.ref 54, .int a1, .int a2], [.int r2], M2) Q
    refine jRun.cut (k := jk_X8_doServe) rfl 7 (c' := (if ¬ r2 = ((1 <<< ((M2 54 14) &&& 31)) - 1) then 55 else 51, [.ref 54, .int a1, .int a2], [], M2)) (ob := True ∧ True ∧ jKd T0 54 = 8 ∧ True ∧ True ∧ True ∧ True ∧ True) rfl ⟨trivial, trivial, rfl, trivial, trivial, trivial, trivial, trivial⟩ ?_
    refine jRun.brn (fun g => ?_) (fun g => ?_)
    · have h := h.1 g
      exact jRun.ret (k := jk_X8_doServe) rfl 2 (v := some (.int 0)) (M1 := M2) (ob := True ∧ (0 = 0 ∨ 0 = 1)) rfl ⟨trivial, (Or.inl rfl)⟩ h
    · have h := h.2 g
      exact jRun.ret (k := jk_X8_doServe) rfl 3 (v := some (.int 1)) (M1 := M2) (ob := True ∧ True ∧ (1 = 0 ∨ 1 = 1)) rfl ⟨trivial, trivial, (Or.inr rfl)⟩ h
  · have h := h.2 g
    obtain ⟨o1, h⟩ := h
    refine jRun.cut (k := jk_X8_doServe) rfl 13 (c' := (26, [.ref 54, .int a1, .int a2], [], (jP M 57 ((33 + a2).toNatClampNeg) ((a1 >>> ((8 * a2) &&& 31)) &&& 255)))) (ob := True ∧ jKd T0 54 = 8 ∧ True ∧ True ∧ True ∧ True ∧ True ∧ True ∧ True ∧ True ∧ True ∧ True ∧ (jKd T0 57 = 9 ∧ vp_in (33 + a2) 36) ∧ True) rfl ⟨trivial, rfl, trivial, trivial, trivial, trivial, trivial, trivial, trivial, trivial, trivial, trivial, ⟨rfl, o1⟩, trivial⟩ ?_
    refine jRun.nm (fun M3 eM3 => ?_)
    have h := h M3 eM3
    refine jRun.cut (k := jk_X8_doServe) rfl 2 (c' := (2, [.ref 54, .int a1, .int (a2 + 1)], [], M3)) (ob := True ∧ True ∧ True) rfl ⟨trivial, trivial, trivial⟩ ?_
    exact h
theorem v_X8_mayBe {X : jX} {d : Nat} (hI : jInj X T0) (a1 : Int32) (M : jMem) (Q : Option Value → jMem → Prop) (h : jOk X T0 d q_X8_isIsle [.ref 54, .int (a1 / 8), .int (a1 - a1 / 8 * 8)] M (fun v M1 => ∃ r1, v = some (.int r1) ∧ (r1 = 0 ∨ r1 = 1) ∧ Q (some (.int r1)) M1)) : jOk X T0 (d + 1) q_X8_mayBe [.ref 54, .int a1] M Q := by
  refine jOk.intro (ml := 2) (ls := [.ref 54, .int a1]) (jTl (by decide)) rfl (Nat.le_of_ble_eq_true rfl) rfl hI ?_
  refine jRun.call (k := jk_X8_mayBe) rfl 8 (f := q_X8_isIsle) (As := [.ref 54, .int (a1 / 8), .int (a1 - a1 / 8 * 8)]) (c1 := (12, [.ref 54, .int a1], [], M)) (ob := True ∧ True ∧ True ∧ ¬ 8 = 0 ∧ True ∧ True ∧ ¬ 8 = 0 ∧ jKd T0 54 = 8) rfl ⟨trivial, trivial, trivial, (by decide), trivial, trivial, (by decide), rfl⟩ h (fun v M1 h => ?_)
  obtain ⟨r1, rfl, h⟩ := h
  show jRun X T0 (d + 1) q_X8_mayBe (12, [.ref 54, .int a1], [.int r1], M1) Q
  obtain ⟨o1, h⟩ := h
  exact jRun.ret (k := jk_X8_mayBe) rfl 1 (v := some (.int r1)) (M1 := M1) (ob := (r1 = 0 ∨ r1 = 1)) rfl o1 h
theorem v_X8_serving {X : jX} {d : Nat} (hI : jInj X T0) (a1 : Int32) (M : jMem) (Q : Option Value → jMem → Prop) (h : ((¬ a1 = 0 → jRun X T0 (d + 1) q_X8_serving (21, [.ref 54, .int a1, .int 0, .null, .null, .null, .null], [], M) Q) ∧ (a1 = 0 → jOk X T0 d q_X8_doServe [.ref 54, .int 0] M (fun v M1 => ∃ r1, v = some (.int r1) ∧ ((r1 = 0 → Q (some (.int (-9))) M1) ∧ (¬ r1 = 0 → Q (some (.int 0)) M1)))))) : jOk X T0 (d + 1) q_X8_serving [.ref 54, .int a1] M Q := by
  refine jOk.intro (ml := 7) (ls := [.ref 54, .int a1, .null, .null, .null, .null, .null]) (jTl (by decide)) rfl (Nat.le_of_ble_eq_true rfl) rfl hI ?_
  refine jRun.cut (k := jk_X8_serving) rfl 2 (c' := (if ¬ a1 = 0 then 19 else 4, [.ref 54, .int a1, .null, .null, .null, .null, .null], [], M)) (ob := True ∧ True ∧ True) rfl ⟨trivial, trivial, trivial⟩ ?_
  refine jRun.brn (fun g => ?_) (fun g => ?_)
  · have h := h.1 g
    refine jRun.cut (k := jk_X8_serving) rfl 2 (c' := (21, [.ref 54, .int a1, .int 0, .null, .null, .null, .null], [], M)) (ob := True ∧ True ∧ True) rfl ⟨trivial, trivial, trivial⟩ ?_
    exact h
  · have h := h.2 g
    refine jRun.call (k := jk_X8_serving) rfl 3 (f := q_X8_doServe) (As := [.ref 54, .int 0]) (c1 := (9, [.ref 54, .int a1, .null, .null, .null, .null, .null], [], M)) (ob := True ∧ True ∧ jKd T0 54 = 8) rfl ⟨trivial, trivial, rfl⟩ h (fun v M1 h => ?_)
    obtain ⟨r1, rfl, h⟩ := h
    show jRun X T0 (d + 1) q_X8_serving (9, [.ref 54, .int a1, .null, .null, .null, .null, .null], [.int r1], M1) Q
    refine jRun.cut (k := jk_X8_serving) rfl 1 (c' := (if r1 = 0 then 16 else 12, [.ref 54, .int a1, .null, .null, .null, .null, .null], [], M1)) (ob := True ∧ True) rfl ⟨trivial, trivial⟩ ?_
    refine jRun.br (fun g => ?_) (fun g => ?_)
    · have h := h.1 g
      exact jRun.ret (k := jk_X8_serving) rfl 2 (v := some (.int (-9))) (M1 := M1) (ob := True ∧ True) rfl ⟨trivial, trivial⟩ h
    · have h := h.2 g
      exact jRun.ret (k := jk_X8_serving) rfl 3 (v := some (.int 0)) (M1 := M1) (ob := True ∧ True ∧ True) rfl ⟨trivial, trivial, trivial⟩ h
theorem v_X8_serving_21 {X : jX} {d : Nat} (a1 : Int32) (a2 : Int32) (M : jMem) (Q : Option Value → jMem → Prop) (h : ((24 ≤ a2 → Q (some (.int (-9))) M) ∧ (¬ 24 ≤ a2 → ((a1 ≤ 1 → jRun X T0 (d + 1) q_X8_serving (37, [.ref 54, .int a1, .int a2, .null, .null, .null, .null], [.int (-1)], M) Q) ∧ (¬ a1 ≤ 1 → jRun X T0 (d + 1) q_X8_serving (37, [.ref 54, .int a1, .int a2, .null, .null, .null, .null], [.int 0], M) Q))))) : jRun X T0 (d + 1) q_X8_serving (21, [.ref 54, .int a1, .int a2, .null, .null, .null, .null], [], M) Q := by
  refine jRun.cut (k := jk_X8_serving) rfl 3 (c' := (if 24 ≤ a2 then 186 else 27, [.ref 54, .int a1, .int a2, .null, .null, .null, .null], [], M)) (ob := True ∧ True ∧ True ∧ True) rfl ⟨trivial, trivial, trivial, trivial⟩ ?_
  refine jRun.br (fun g => ?_) (fun g => ?_)
  · have h := h.1 g
    exact jRun.ret (k := jk_X8_serving) rfl 2 (v := some (.int (-9))) (M1 := M) (ob := True ∧ True) rfl ⟨trivial, trivial⟩ h
  · have h := h.2 g
    refine jRun.cut (k := jk_X8_serving) rfl 3 (c' := (if a1 ≤ 1 then 36 else 32, [.ref 54, .int a1, .int a2, .null, .null, .null, .null], [], M)) (ob := True ∧ True ∧ True ∧ True) rfl ⟨trivial, trivial, trivial, trivial⟩ ?_
    refine jRun.br (fun g => ?_) (fun g => ?_)
    · have h := h.1 g
      refine jRun.cut (k := jk_X8_serving) rfl 1 (c' := (37, [.ref 54, .int a1, .int a2, .null, .null, .null, .null], [.int (-1)], M)) (ob := True ∧ True) rfl ⟨trivial, trivial⟩ ?_
      exact h
    · have h := h.2 g
      refine jRun.cut (k := jk_X8_serving) rfl 2 (c' := (37, [.ref 54, .int a1, .int a2, .null, .null, .null, .null], [.int 0], M)) (ob := True ∧ True ∧ True) rfl ⟨trivial, trivial, trivial⟩ ?_
      exact h
theorem v_X8_serving_37 {X : jX} {d : Nat} (a1 : Int32) (a2 : Int32) (s0 : Int32) (M : jMem) (Q : Option Value → jMem → Prop) (h : jRun X T0 (d + 1) q_X8_serving (38, [.ref 54, .int a1, .int a2, .int s0, .null, .null, .null], [], M) Q) : jRun X T0 (d + 1) q_X8_serving (37, [.ref 54, .int a1, .int a2, .null, .null, .null, .null], [.int s0], M) Q := by
  refine jRun.cut (k := jk_X8_serving) rfl 1 (c' := (38, [.ref 54, .int a1, .int a2, .int s0, .null, .null, .null], [], M)) (ob := True ∧ True) rfl ⟨trivial, trivial⟩ ?_
  exact h
theorem v_X8_serving_38 {X : jX} {d : Nat} (a1 : Int32) (a2 : Int32) (a3 : Int32) (M : jMem) (Q : Option Value → jMem → Prop) (h : ((a1 ≤ 1 → jRun X T0 (d + 1) q_X8_serving (49, [.ref 54, .int a1, .int a2, .int a3, .null, .null, .null], [.int 0, .int a3], M) Q) ∧ (¬ a1 ≤ 1 → jRun X T0 (d + 1) q_X8_serving (49, [.ref 54, .int a1, .int a2, .int a3, .null, .null, .null], [.int a2, .int a3], M) Q))) : jRun X T0 (d + 1) q_X8_serving (38, [.ref 54, .int a1, .int a2, .int a3, .null, .null, .null], [], M) Q := by
  refine jRun.cut (k := jk_X8_serving) rfl 4 (c' := (if a1 ≤ 1 then 48 else 44, [.ref 54, .int a1, .int a2, .int a3, .null, .null, .null], [.int a3], M)) (ob := True ∧ True ∧ True ∧ True ∧ True) rfl ⟨trivial, trivial, trivial, trivial, trivial⟩ ?_
  refine jRun.br (fun g => ?_) (fun g => ?_)
  · have h := h.1 g
    refine jRun.cut (k := jk_X8_serving) rfl 1 (c' := (49, [.ref 54, .int a1, .int a2, .int a3, .null, .null, .null], [.int 0, .int a3], M)) (ob := True ∧ True) rfl ⟨trivial, trivial⟩ ?_
    exact h
  · have h := h.2 g
    refine jRun.cut (k := jk_X8_serving) rfl 2 (c' := (49, [.ref 54, .int a1, .int a2, .int a3, .null, .null, .null], [.int a2, .int a3], M)) (ob := True ∧ True ∧ True) rfl ⟨trivial, trivial, trivial⟩ ?_
    exact h
theorem v_X8_serving_49 {X : jX} {d : Nat} (a1 : Int32) (a2 : Int32) (a3 : Int32) (s0 : Int32) (s1 : Int32) (M : jMem) (Q : Option Value → jMem → Prop) (h : ((s0 ≤ s1 → jRun X T0 (d + 1) q_X8_serving (21, [.ref 54, .int a1, .int (a2 + 1), .null, .null, .null, .null], [], M) Q) ∧ (¬ s0 ≤ s1 → ((a1 ≤ 2 → jRun X T0 (d + 1) q_X8_serving (62, [.ref 54, .int a1, .int a2, .int a3, .null, .null, .null], [.int (-1)], M) Q) ∧ (¬ a1 ≤ 2 → jRun X T0 (d + 1) q_X8_serving (62, [.ref 54, .int a1, .int a2, .int a3, .null, .null, .null], [.int 0], M) Q))))) : jRun X T0 (d + 1) q_X8_serving (49, [.ref 54, .int a1, .int a2, .int a3, .null, .null, .null], [.int s0, .int s1], M) Q := by
  refine jRun.cut (k := jk_X8_serving) rfl 1 (c' := (if s0 ≤ s1 then 180 else 52, [.ref 54, .int a1, .int a2, .int a3, .null, .null, .null], [], M)) (ob := True ∧ True) rfl ⟨trivial, trivial⟩ ?_
  refine jRun.br (fun g => ?_) (fun g => ?_)
  · have h := h.1 g
    refine jRun.cut (k := jk_X8_serving) rfl 2 (c' := (21, [.ref 54, .int a1, .int (a2 + 1), .int a3, .null, .null, .null], [], M)) (ob := True ∧ True ∧ True) rfl ⟨trivial, trivial, trivial⟩ ?_
    exact jRun.weak (by simp [jFew]) h
  · have h := h.2 g
    refine jRun.cut (k := jk_X8_serving) rfl 3 (c' := (if a1 ≤ 2 then 61 else 57, [.ref 54, .int a1, .int a2, .int a3, .null, .null, .null], [], M)) (ob := True ∧ True ∧ True ∧ True) rfl ⟨trivial, trivial, trivial, trivial⟩ ?_
    refine jRun.br (fun g => ?_) (fun g => ?_)
    · have h := h.1 g
      refine jRun.cut (k := jk_X8_serving) rfl 1 (c' := (62, [.ref 54, .int a1, .int a2, .int a3, .null, .null, .null], [.int (-1)], M)) (ob := True ∧ True) rfl ⟨trivial, trivial⟩ ?_
      exact h
    · have h := h.2 g
      refine jRun.cut (k := jk_X8_serving) rfl 2 (c' := (62, [.ref 54, .int a1, .int a2, .int a3, .null, .null, .null], [.int 0], M)) (ob := True ∧ True ∧ True) rfl ⟨trivial, trivial, trivial⟩ ?_
      exact h
theorem v_X8_serving_62 {X : jX} {d : Nat} (a1 : Int32) (a2 : Int32) (a3 : Int32) (s0 : Int32) (M : jMem) (Q : Option Value → jMem → Prop) (h : jRun X T0 (d + 1) q_X8_serving (64, [.ref 54, .int a1, .int a2, .int a3, .int s0, .null, .null], [], M) Q) : jRun X T0 (d + 1) q_X8_serving (62, [.ref 54, .int a1, .int a2, .int a3, .null, .null, .null], [.int s0], M) Q := by
  refine jRun.cut (k := jk_X8_serving) rfl 1 (c' := (64, [.ref 54, .int a1, .int a2, .int a3, .int s0, .null, .null], [], M)) (ob := True ∧ True) rfl ⟨trivial, trivial⟩ ?_
  exact h
theorem v_X8_serving_64 {X : jX} {d : Nat} (a1 : Int32) (a2 : Int32) (a3 : Int32) (a4 : Int32) (M : jMem) (Q : Option Value → jMem → Prop) (h : ((a1 ≤ 2 → jRun X T0 (d + 1) q_X8_serving (76, [.ref 54, .int a1, .int a2, .int a3, .int a4, .null, .null], [.int 0, .int a4], M) Q) ∧ (¬ a1 ≤ 2 → jRun X T0 (d + 1) q_X8_serving (76, [.ref 54, .int a1, .int a2, .int a3, .int a4, .null, .null], [.int a3, .int a4], M) Q))) : jRun X T0 (d + 1) q_X8_serving (64, [.ref 54, .int a1, .int a2, .int a3, .int a4, .null, .null], [], M) Q := by
  refine jRun.cut (k := jk_X8_serving) rfl 4 (c' := (if a1 ≤ 2 then 75 else 71, [.ref 54, .int a1, .int a2, .int a3, .int a4, .null, .null], [.int a4], M)) (ob := True ∧ True ∧ True ∧ True ∧ True) rfl ⟨trivial, trivial, trivial, trivial, trivial⟩ ?_
  refine jRun.br (fun g => ?_) (fun g => ?_)
  · have h := h.1 g
    refine jRun.cut (k := jk_X8_serving) rfl 1 (c' := (76, [.ref 54, .int a1, .int a2, .int a3, .int a4, .null, .null], [.int 0, .int a4], M)) (ob := True ∧ True) rfl ⟨trivial, trivial⟩ ?_
    exact h
  · have h := h.2 g
    refine jRun.cut (k := jk_X8_serving) rfl 2 (c' := (76, [.ref 54, .int a1, .int a2, .int a3, .int a4, .null, .null], [.int a3, .int a4], M)) (ob := True ∧ True ∧ True) rfl ⟨trivial, trivial, trivial⟩ ?_
    exact h
theorem v_X8_serving_76 {X : jX} {d : Nat} (a1 : Int32) (a2 : Int32) (a3 : Int32) (a4 : Int32) (s0 : Int32) (s1 : Int32) (M : jMem) (Q : Option Value → jMem → Prop) (h : ((s0 ≤ s1 → jRun X T0 (d + 1) q_X8_serving (38, [.ref 54, .int a1, .int a2, .int (a3 + 1), .null, .null, .null], [], M) Q) ∧ (¬ s0 ≤ s1 → jOk X T0 d q_X8_mayBe [.ref 54, .int a2] M (fun v M1 => ∃ r1, v = some (.int r1) ∧ ((r1 = 0 → jRun X T0 (d + 1) q_X8_serving (117, [.ref 54, .int a1, .int a2, .int a3, .int a4, .null, .null], [], M1) Q) ∧ (¬ r1 = 0 → ((a3 < 0 → jRun X T0 (d + 1) q_X8_serving (99, [.ref 54, .int a1, .int a2, .int a3, .int a4, .null, .null], [], M1) Q) ∧ (¬ a3 < 0 → jOk X T0 d q_X8_mayBe [.ref 54, .int a3] M1 (fun v M2 => ∃ r2, v = some (.int r2) ∧ ((r2 = 0 → jRun X T0 (d + 1) q_X8_serving (117, [.ref 54, .int a1, .int a2, .int a3, .int a4, .null, .null], [], M2) Q) ∧ (¬ r2 = 0 → jRun X T0 (d + 1) q_X8_serving (99, [.ref 54, .int a1, .int a2, .int a3, .int a4, .null, .null], [], M2) Q))))))))))) : jRun X T0 (d + 1) q_X8_serving (76, [.ref 54, .int a1, .int a2, .int a3, .int a4, .null, .null], [.int s0, .int s1], M) Q := by
  refine jRun.cut (k := jk_X8_serving) rfl 1 (c' := (if s0 ≤ s1 then 174 else 79, [.ref 54, .int a1, .int a2, .int a3, .int a4, .null, .null], [], M)) (ob := True ∧ True) rfl ⟨trivial, trivial⟩ ?_
  refine jRun.br (fun g => ?_) (fun g => ?_)
  · have h := h.1 g
    refine jRun.cut (k := jk_X8_serving) rfl 2 (c' := (38, [.ref 54, .int a1, .int a2, .int (a3 + 1), .int a4, .null, .null], [], M)) (ob := True ∧ True ∧ True) rfl ⟨trivial, trivial, trivial⟩ ?_
    exact jRun.weak (by simp [jFew]) h
  · have h := h.2 g
    refine jRun.call (k := jk_X8_serving) rfl 3 (f := q_X8_mayBe) (As := [.ref 54, .int a2]) (c1 := (84, [.ref 54, .int a1, .int a2, .int a3, .int a4, .null, .null], [], M)) (ob := True ∧ True ∧ jKd T0 54 = 8) rfl ⟨trivial, trivial, rfl⟩ h (fun v M1 h => ?_)
    obtain ⟨r1, rfl, h⟩ := h
    show jRun X T0 (d + 1) q_X8_serving (84, [.ref 54, .int a1, .int a2, .int a3, .int a4, .null, .null], [.int r1], M1) Q
    refine jRun.cut (k := jk_X8_serving) rfl 1 (c' := (if r1 = 0 then 117 else 87, [.ref 54, .int a1, .int a2, .int a3, .int a4, .null, .null], [], M1)) (ob := True ∧ True) rfl ⟨trivial, trivial⟩ ?_
    refine jRun.br (fun g => ?_) (fun g => ?_)
    · have h := h.1 g
      exact h
    · have h := h.2 g
      refine jRun.cut (k := jk_X8_serving) rfl 2 (c' := (if a3 < 0 then 99 else 91, [.ref 54, .int a1, .int a2, .int a3, .int a4, .null, .null], [], M1)) (ob := True ∧ True ∧ True) rfl ⟨trivial, trivial, trivial⟩ ?_
      refine jRun.br (fun g => ?_) (fun g => ?_)
      · have h := h.1 g
        exact h
      · have h := h.2 g
        refine jRun.call (k := jk_X8_serving) rfl 3 (f := q_X8_mayBe) (As := [.ref 54, .int a3]) (c1 := (96, [.ref 54, .int a1, .int a2, .int a3, .int a4, .null, .null], [], M1)) (ob := True ∧ True ∧ jKd T0 54 = 8) rfl ⟨trivial, trivial, rfl⟩ h (fun v M2 h => ?_)
        obtain ⟨r2, rfl, h⟩ := h
        show jRun X T0 (d + 1) q_X8_serving (96, [.ref 54, .int a1, .int a2, .int a3, .int a4, .null, .null], [.int r2], M2) Q
        refine jRun.cut (k := jk_X8_serving) rfl 1 (c' := (if r2 = 0 then 117 else 99, [.ref 54, .int a1, .int a2, .int a3, .int a4, .null, .null], [], M2)) (ob := True ∧ True) rfl ⟨trivial, trivial⟩ ?_
        refine jRun.br (fun g => ?_) (fun g => ?_)
        · have h := h.1 g
          exact h
        · have h := h.2 g
          exact h
theorem v_X8_serving_99 {X : jX} {d : Nat} (a1 : Int32) (a2 : Int32) (a3 : Int32) (a4 : Int32) (M : jMem) (Q : Option Value → jMem → Prop) (h : ((a4 < 0 → jRun X T0 (d + 1) q_X8_serving (113, [.ref 54, .int a1, .int a2, .int a3, .int a4, .null, .null], [], M) Q) ∧ (¬ a4 < 0 → jOk X T0 d q_X8_mayBe [.ref 54, .int a4] M (fun v M1 => ∃ r1, v = some (.int r1) ∧ ((r1 = 0 → jRun X T0 (d + 1) q_X8_serving (117, [.ref 54, .int a1, .int a2, .int a3, .int a4, .null, .null], [], M1) Q) ∧ (¬ r1 = 0 → jRun X T0 (d + 1) q_X8_serving (113, [.ref 54, .int a1, .int a2, .int a3, .int a4, .null, .null], [], M1) Q)))))) : jRun X T0 (d + 1) q_X8_serving (99, [.ref 54, .int a1, .int a2, .int a3, .int a4, .null, .null], [], M) Q := by
  refine jRun.cut (k := jk_X8_serving) rfl 2 (c' := (if a4 < 0 then 113 else 104, [.ref 54, .int a1, .int a2, .int a3, .int a4, .null, .null], [], M)) (ob := True ∧ True ∧ True) rfl ⟨trivial, trivial, trivial⟩ ?_
  refine jRun.br (fun g => ?_) (fun g => ?_)
  · have h := h.1 g
    exact h
  · have h := h.2 g
    refine jRun.call (k := jk_X8_serving) rfl 3 (f := q_X8_mayBe) (As := [.ref 54, .int a4]) (c1 := (110, [.ref 54, .int a1, .int a2, .int a3, .int a4, .null, .null], [], M)) (ob := True ∧ True ∧ jKd T0 54 = 8) rfl ⟨trivial, trivial, rfl⟩ h (fun v M1 h => ?_)
    obtain ⟨r1, rfl, h⟩ := h
    show jRun X T0 (d + 1) q_X8_serving (110, [.ref 54, .int a1, .int a2, .int a3, .int a4, .null, .null], [.int r1], M1) Q
    refine jRun.cut (k := jk_X8_serving) rfl 1 (c' := (if r1 = 0 then 117 else 113, [.ref 54, .int a1, .int a2, .int a3, .int a4, .null, .null], [], M1)) (ob := True ∧ True) rfl ⟨trivial, trivial⟩ ?_
    refine jRun.br (fun g => ?_) (fun g => ?_)
    · have h := h.1 g
      exact h
    · have h := h.2 g
      exact h
theorem v_X8_serving_113 {X : jX} {d : Nat} (a1 : Int32) (a2 : Int32) (a3 : Int32) (a4 : Int32) (M : jMem) (Q : Option Value → jMem → Prop) (h : jRun X T0 (d + 1) q_X8_serving (118, [.ref 54, .int a1, .int a2, .int a3, .int a4, .null, .null], [.int 1], M) Q) : jRun X T0 (d + 1) q_X8_serving (113, [.ref 54, .int a1, .int a2, .int a3, .int a4, .null, .null], [], M) Q := by
  refine jRun.cut (k := jk_X8_serving) rfl 2 (c' := (118, [.ref 54, .int a1, .int a2, .int a3, .int a4, .null, .null], [.int 1], M)) (ob := True ∧ True ∧ True) rfl ⟨trivial, trivial, trivial⟩ ?_
  exact h
theorem v_X8_serving_117 {X : jX} {d : Nat} (a1 : Int32) (a2 : Int32) (a3 : Int32) (a4 : Int32) (M : jMem) (Q : Option Value → jMem → Prop) (h : jRun X T0 (d + 1) q_X8_serving (118, [.ref 54, .int a1, .int a2, .int a3, .int a4, .null, .null], [.int 0], M) Q) : jRun X T0 (d + 1) q_X8_serving (117, [.ref 54, .int a1, .int a2, .int a3, .int a4, .null, .null], [], M) Q := by
  refine jRun.cut (k := jk_X8_serving) rfl 1 (c' := (118, [.ref 54, .int a1, .int a2, .int a3, .int a4, .null, .null], [.int 0], M)) (ob := True ∧ True) rfl ⟨trivial, trivial⟩ ?_
  exact h
theorem v_X8_serving_118 {X : jX} {d : Nat} (a1 : Int32) (a2 : Int32) (a3 : Int32) (a4 : Int32) (s0 : Int32) (M : jMem) (Q : Option Value → jMem → Prop) (h : ((0 ≤ a3 → jRun X T0 (d + 1) q_X8_serving (134, [.ref 54, .int a1, .int a2, .int a3, .int a4, .int s0, .null], [.int (1 <<< (a3 &&& 31)), .int (1 <<< (a2 &&& 31))], M) Q) ∧ (¬ 0 ≤ a3 → jRun X T0 (d + 1) q_X8_serving (134, [.ref 54, .int a1, .int a2, .int a3, .int a4, .int s0, .null], [.int 0, .int (1 <<< (a2 &&& 31))], M) Q))) : jRun X T0 (d + 1) q_X8_serving (118, [.ref 54, .int a1, .int a2, .int a3, .int a4, .null, .null], [.int s0], M) Q := by
  refine jRun.cut (k := jk_X8_serving) rfl 6 (c' := (if 0 ≤ a3 then 131 else 127, [.ref 54, .int a1, .int a2, .int a3, .int a4, .int s0, .null], [.int (1 <<< (a2 &&& 31))], M)) (ob := True ∧ True ∧ True ∧ True ∧ True ∧ True ∧ True) rfl ⟨trivial, trivial, trivial, trivial, trivial, trivial, trivial⟩ ?_
  refine jRun.br (fun g => ?_) (fun g => ?_)
  · have h := h.1 g
    refine jRun.cut (k := jk_X8_serving) rfl 3 (c' := (134, [.ref 54, .int a1, .int a2, .int a3, .int a4, .int s0, .null], [.int (1 <<< (a3 &&& 31)), .int (1 <<< (a2 &&& 31))], M)) (ob := True ∧ True ∧ True ∧ True) rfl ⟨trivial, trivial, trivial, trivial⟩ ?_
    exact h
  · have h := h.2 g
    refine jRun.cut (k := jk_X8_serving) rfl 2 (c' := (134, [.ref 54, .int a1, .int a2, .int a3, .int a4, .int s0, .null], [.int 0, .int (1 <<< (a2 &&& 31))], M)) (ob := True ∧ True ∧ True) rfl ⟨trivial, trivial, trivial⟩ ?_
    exact h
theorem v_X8_serving_134 {X : jX} {d : Nat} (a1 : Int32) (a2 : Int32) (a3 : Int32) (a4 : Int32) (a5 : Int32) (s0 : Int32) (s1 : Int32) (M : jMem) (Q : Option Value → jMem → Prop) (h : ((0 ≤ a4 → jRun X T0 (d + 1) q_X8_serving (148, [.ref 54, .int a1, .int a2, .int a3, .int a4, .int a5, .null], [.int (1 <<< (a4 &&& 31)), .int (s1 ||| s0)], M) Q) ∧ (¬ 0 ≤ a4 → jRun X T0 (d + 1) q_X8_serving (148, [.ref 54, .int a1, .int a2, .int a3, .int a4, .int a5, .null], [.int 0, .int (s1 ||| s0)], M) Q))) : jRun X T0 (d + 1) q_X8_serving (134, [.ref 54, .int a1, .int a2, .int a3, .int a4, .int a5, .null], [.int s0, .int s1], M) Q := by
  refine jRun.cut (k := jk_X8_serving) rfl 3 (c' := (if 0 ≤ a4 then 144 else 140, [.ref 54, .int a1, .int a2, .int a3, .int a4, .int a5, .null], [.int (s1 ||| s0)], M)) (ob := True ∧ True ∧ True ∧ True) rfl ⟨trivial, trivial, trivial, trivial⟩ ?_
  refine jRun.br (fun g => ?_) (fun g => ?_)
  · have h := h.1 g
    refine jRun.cut (k := jk_X8_serving) rfl 3 (c' := (148, [.ref 54, .int a1, .int a2, .int a3, .int a4, .int a5, .null], [.int (1 <<< (a4 &&& 31)), .int (s1 ||| s0)], M)) (ob := True ∧ True ∧ True ∧ True) rfl ⟨trivial, trivial, trivial, trivial⟩ ?_
    exact h
  · have h := h.2 g
    refine jRun.cut (k := jk_X8_serving) rfl 2 (c' := (148, [.ref 54, .int a1, .int a2, .int a3, .int a4, .int a5, .null], [.int 0, .int (s1 ||| s0)], M)) (ob := True ∧ True ∧ True) rfl ⟨trivial, trivial, trivial⟩ ?_
    exact h
theorem v_X8_serving_148 {X : jX} {d : Nat} (a1 : Int32) (a2 : Int32) (a3 : Int32) (a4 : Int32) (a5 : Int32) (s0 : Int32) (s1 : Int32) (M : jMem) (Q : Option Value → jMem → Prop) (h : ((a5 = 0 → jRun X T0 (d + 1) q_X8_serving (168, [.ref 54, .int a1, .int a2, .int a3, .int a4, .int a5, .int (s1 ||| s0)], [], M) Q) ∧ (¬ a5 = 0 → jOk X T0 d q_X8_doServe [.ref 54, .int (s1 ||| s0)] M (fun v M1 => ∃ r1, v = some (.int r1) ∧ ((r1 = 0 → jRun X T0 (d + 1) q_X8_serving (168, [.ref 54, .int a1, .int a2, .int a3, .int a4, .int a5, .int (s1 ||| s0)], [], M1) Q) ∧ (¬ r1 = 0 → Q (some (.int (s1 ||| s0))) M1)))))) : jRun X T0 (d + 1) q_X8_serving (148, [.ref 54, .int a1, .int a2, .int a3, .int a4, .int a5, .null], [.int s0, .int s1], M) Q := by
  refine jRun.cut (k := jk_X8_serving) rfl 4 (c' := (if a5 = 0 then 168 else 156, [.ref 54, .int a1, .int a2, .int a3, .int a4, .int a5, .int (s1 ||| s0)], [], M)) (ob := True ∧ True ∧ True ∧ True ∧ True) rfl ⟨trivial, trivial, trivial, trivial, trivial⟩ ?_
  refine jRun.br (fun g => ?_) (fun g => ?_)
  · have h := h.1 g
    exact h
  · have h := h.2 g
    refine jRun.call (k := jk_X8_serving) rfl 3 (f := q_X8_doServe) (As := [.ref 54, .int (s1 ||| s0)]) (c1 := (162, [.ref 54, .int a1, .int a2, .int a3, .int a4, .int a5, .int (s1 ||| s0)], [], M)) (ob := True ∧ True ∧ jKd T0 54 = 8) rfl ⟨trivial, trivial, rfl⟩ h (fun v M1 h => ?_)
    obtain ⟨r1, rfl, h⟩ := h
    show jRun X T0 (d + 1) q_X8_serving (162, [.ref 54, .int a1, .int a2, .int a3, .int a4, .int a5, .int (s1 ||| s0)], [.int r1], M1) Q
    refine jRun.cut (k := jk_X8_serving) rfl 1 (c' := (if r1 = 0 then 168 else 165, [.ref 54, .int a1, .int a2, .int a3, .int a4, .int a5, .int (s1 ||| s0)], [], M1)) (ob := True ∧ True) rfl ⟨trivial, trivial⟩ ?_
    refine jRun.br (fun g => ?_) (fun g => ?_)
    · have h := h.1 g
      exact h
    · have h := h.2 g
      exact jRun.ret (k := jk_X8_serving) rfl 2 (v := some (.int (s1 ||| s0))) (M1 := M1) (ob := True ∧ True) rfl ⟨trivial, trivial⟩ h
theorem v_X8_serving_168 {X : jX} {d : Nat} (a1 : Int32) (a2 : Int32) (a3 : Int32) (a4 : Int32) (a5 : Int32) (a6 : Int32) (M : jMem) (Q : Option Value → jMem → Prop) (h : jRun X T0 (d + 1) q_X8_serving (64, [.ref 54, .int a1, .int a2, .int a3, .int (a4 + 1), .null, .null], [], M) Q) : jRun X T0 (d + 1) q_X8_serving (168, [.ref 54, .int a1, .int a2, .int a3, .int a4, .int a5, .int a6], [], M) Q := by
  refine jRun.cut (k := jk_X8_serving) rfl 2 (c' := (64, [.ref 54, .int a1, .int a2, .int a3, .int (a4 + 1), .int a5, .int a6], [], M)) (ob := True ∧ True ∧ True) rfl ⟨trivial, trivial, trivial⟩ ?_
  exact jRun.weak (by simp [jFew]) h
theorem v_X8_fewest {X : jX} {d : Nat} (hI : jInj X T0) (a1 : Int32) (M : jMem) (Q : Option Value → jMem → Prop) (h : (∀ M1, M1 = jP M 54 0 0 → jOk X T0 d q_X8_in [.long a1.toInt64, .long 0, .long 1] M1 (fun v M2 => ∃ r1, v = some (.int r1) ∧ ((¬ r1 = 0 → jRun X T0 (d + 1) q_X8_fewest (19, [.ref 54, .int a1, .int 0, .null], [], M2) Q) ∧ (r1 = 0 → Q (some (.int (-1))) M2))))) : jOk X T0 (d + 1) q_X8_fewest [.ref 54, .int a1] M Q := by
  refine jOk.intro (ml := 4) (ls := [.ref 54, .int a1, .null, .null]) (jTl (by decide)) rfl (Nat.le_of_ble_eq_true rfl) rfl hI ?_
  refine jRun.cut (k := jk_X8_fewest) rfl 3 (c' := (5, [.ref 54, .int a1, .null, .null], [], (jP M 54 0 0))) (ob := True ∧ True ∧ jKd T0 54 = 8 ∧ True) rfl ⟨trivial, trivial, rfl, trivial⟩ ?_
  refine jRun.nm (fun M1 eM1 => ?_)
  have h := h M1 eM1
  refine jRun.call (k := jk_X8_fewest) rfl 5 (f := q_X8_in) (As := [.long a1.toInt64, .long 0, .long 1]) (c1 := (12, [.ref 54, .int a1, .null, .null], [], M1)) (ob := True ∧ True ∧ True ∧ True ∧ True) rfl ⟨trivial, trivial, trivial, trivial, trivial⟩ h (fun v M2 h => ?_)
  obtain ⟨r1, rfl, h⟩ := h
  show jRun X T0 (d + 1) q_X8_fewest (12, [.ref 54, .int a1, .null, .null], [.int r1], M2) Q
  refine jRun.cut (k := jk_X8_fewest) rfl 1 (c' := (if ¬ r1 = 0 then 17 else 15, [.ref 54, .int a1, .null, .null], [], M2)) (ob := True ∧ True) rfl ⟨trivial, trivial⟩ ?_
  refine jRun.brn (fun g => ?_) (fun g => ?_)
  · have h := h.1 g
    refine jRun.cut (k := jk_X8_fewest) rfl 2 (c' := (19, [.ref 54, .int a1, .int 0, .null], [], M2)) (ob := True ∧ True ∧ True) rfl ⟨trivial, trivial, trivial⟩ ?_
    exact h
  · have h := h.2 g
    exact jRun.ret (k := jk_X8_fewest) rfl 2 (v := some (.int (-1))) (M1 := M2) (ob := True ∧ True) rfl ⟨trivial, trivial⟩ h
theorem v_X8_fewest_19 {X : jX} {d : Nat} (a1 : Int32) (a2 : Int32) (M : jMem) (Q : Option Value → jMem → Prop) (h : ((3 ≤ a2 → jRun X T0 (d + 1) q_X8_fewest (50, [.ref 54, .int a1, .int (-9), .int 0], [], M) Q) ∧ (¬ 3 ≤ a2 → vp_in (33 + a2) 36 ∧ vp_in a2 3 ∧ (∀ M1, M1 = jP M 70 a2.toNatClampNeg (M 57 (33 + a2).toNatClampNeg) → jRun X T0 (d + 1) q_X8_fewest (19, [.ref 54, .int a1, .int (a2 + 1), .null], [], M1) Q)))) : jRun X T0 (d + 1) q_X8_fewest (19, [.ref 54, .int a1, .int a2, .null], [], M) Q := by
  refine jRun.cut (k := jk_X8_fewest) rfl 3 (c' := (if 3 ≤ a2 then 45 else 24, [.ref 54, .int a1, .int a2, .null], [], M)) (ob := True ∧ True ∧ True ∧ True) rfl ⟨trivial, trivial, trivial, trivial⟩ ?_
  refine jRun.br (fun g => ?_) (fun g => ?_)
  · have h := h.1 g
    refine jRun.cut (k := jk_X8_fewest) rfl 4 (c' := (50, [.ref 54, .int a1, .int (-9), .int 0], [], M)) (ob := True ∧ True ∧ True ∧ True ∧ True) rfl ⟨trivial, trivial, trivial, trivial, trivial⟩ ?_
    exact h
  · have h := h.2 g
    obtain ⟨o1, o2, h⟩ := h
    refine jRun.cut (k := jk_X8_fewest) rfl 10 (c' := (39, [.ref 54, .int a1, .int a2, .null], [], (jP M 70 a2.toNatClampNeg (M 57 (33 + a2).toNatClampNeg)))) (ob := True ∧ jKd T0 54 = 8 ∧ True ∧ True ∧ jKd T0 54 = 8 ∧ True ∧ True ∧ True ∧ (jKd T0 57 = 9 ∧ vp_in (33 + a2) 36) ∧ (jKd T0 70 = 9 ∧ vp_in a2 3) ∧ True) rfl ⟨trivial, rfl, trivial, trivial, rfl, trivial, trivial, trivial, ⟨rfl, o1⟩, ⟨rfl, o2⟩, trivial⟩ ?_
    refine jRun.nm (fun M1 eM1 => ?_)
    have h := h M1 eM1
    refine jRun.cut (k := jk_X8_fewest) rfl 2 (c' := (19, [.ref 54, .int a1, .int (a2 + 1), .null], [], M1)) (ob := True ∧ True ∧ True) rfl ⟨trivial, trivial, trivial⟩ ?_
    exact h
theorem v_X8_fewest_50 {X : jX} {d : Nat} (a1 : Int32) (a2 : Int32) (a3 : Int32) (M : jMem) (Q : Option Value → jMem → Prop) (h : ((4 ≤ a3 → jRun X T0 (d + 1) q_X8_fewest (75, [.ref 54, .int a1, .int a2, .int 0], [], M) Q) ∧ (¬ 4 ≤ a3 → ((¬ a2 = (-9) → jRun X T0 (d + 1) q_X8_fewest (75, [.ref 54, .int a1, .int a2, .int 0], [], M) Q) ∧ (a2 = (-9) → jOk X T0 d q_X8_serving [.ref 54, .int a3] M (fun v M1 => ∃ r1, v = some (.int r1) ∧ jRun X T0 (d + 1) q_X8_fewest (50, [.ref 54, .int a1, .int r1, .int (a3 + 1)], [], M1) Q)))))) : jRun X T0 (d + 1) q_X8_fewest (50, [.ref 54, .int a1, .int a2, .int a3], [], M) Q := by
  refine jRun.cut (k := jk_X8_fewest) rfl 3 (c' := (if 4 ≤ a3 then 73 else 55, [.ref 54, .int a1, .int a2, .int a3], [], M)) (ob := True ∧ True ∧ True ∧ True) rfl ⟨trivial, trivial, trivial, trivial⟩ ?_
  refine jRun.br (fun g => ?_) (fun g => ?_)
  · have h := h.1 g
    refine jRun.cut (k := jk_X8_fewest) rfl 2 (c' := (75, [.ref 54, .int a1, .int a2, .int 0], [], M)) (ob := True ∧ True ∧ True) rfl ⟨trivial, trivial, trivial⟩ ?_
    exact h
  · have h := h.2 g
    refine jRun.cut (k := jk_X8_fewest) rfl 3 (c' := (if ¬ a2 = (-9) then 73 else 61, [.ref 54, .int a1, .int a2, .int a3], [], M)) (ob := True ∧ True ∧ True ∧ True) rfl ⟨trivial, trivial, trivial, trivial⟩ ?_
    refine jRun.brn (fun g => ?_) (fun g => ?_)
    · have h := h.1 g
      refine jRun.cut (k := jk_X8_fewest) rfl 2 (c' := (75, [.ref 54, .int a1, .int a2, .int 0], [], M)) (ob := True ∧ True ∧ True) rfl ⟨trivial, trivial, trivial⟩ ?_
      exact h
    · have h := h.2 g
      refine jRun.call (k := jk_X8_fewest) rfl 3 (f := q_X8_serving) (As := [.ref 54, .int a3]) (c1 := (66, [.ref 54, .int a1, .int a2, .int a3], [], M)) (ob := True ∧ True ∧ jKd T0 54 = 8) rfl ⟨trivial, trivial, rfl⟩ h (fun v M1 h => ?_)
      obtain ⟨r1, rfl, h⟩ := h
      show jRun X T0 (d + 1) q_X8_fewest (66, [.ref 54, .int a1, .int a2, .int a3], [.int r1], M1) Q
      refine jRun.cut (k := jk_X8_fewest) rfl 3 (c' := (50, [.ref 54, .int a1, .int r1, .int (a3 + 1)], [], M1)) (ob := True ∧ True ∧ True ∧ True) rfl ⟨trivial, trivial, trivial, trivial⟩ ?_
      exact h
theorem v_X8_fewest_75 {X : jX} {d : Nat} (a1 : Int32) (a2 : Int32) (a3 : Int32) (M : jMem) (Q : Option Value → jMem → Prop) (h : ((3 ≤ a3 → ((a2 = (-9) → Q (some (.int a2)) M) ∧ (¬ a2 = (-9) → ((¬ a1 = 1 → jOk X T0 d q_X8_bits [.int a2] M (fun v M1 => ∃ r1, v = some (.int r1) ∧ Q (some (.int r1)) M1)) ∧ (a1 = 1 → Q (some (.int a2)) M))))) ∧ (¬ 3 ≤ a3 → vp_in a3 3 ∧ vp_in (33 + a3) 36 ∧ (∀ M2, M2 = jP M 57 ((33 + a3).toNatClampNeg) (M 70 a3.toNatClampNeg) → jRun X T0 (d + 1) q_X8_fewest (75, [.ref 54, .int a1, .int a2, .int (a3 + 1)], [], M2) Q)))) : jRun X T0 (d + 1) q_X8_fewest (75, [.ref 54, .int a1, .int a2, .int a3], [], M) Q := by
  refine jRun.cut (k := jk_X8_fewest) rfl 3 (c' := (if 3 ≤ a3 then 101 else 80, [.ref 54, .int a1, .int a2, .int a3], [], M)) (ob := True ∧ True ∧ True ∧ True) rfl ⟨trivial, trivial, trivial, trivial⟩ ?_
  refine jRun.br (fun g => ?_) (fun g => ?_)
  · have h := h.1 g
    refine jRun.cut (k := jk_X8_fewest) rfl 3 (c' := (if a2 = (-9) then 112 else 107, [.ref 54, .int a1, .int a2, .int a3], [], M)) (ob := True ∧ True ∧ True ∧ True) rfl ⟨trivial, trivial, trivial, trivial⟩ ?_
    refine jRun.br (fun g => ?_) (fun g => ?_)
    · have h := h.1 g
      exact jRun.ret (k := jk_X8_fewest) rfl 3 (v := some (.int a2)) (M1 := M) (ob := True ∧ True ∧ True) rfl ⟨trivial, trivial, trivial⟩ h
    · have h := h.2 g
      refine jRun.cut (k := jk_X8_fewest) rfl 3 (c' := (if ¬ a1 = 1 then 116 else 112, [.ref 54, .int a1, .int a2, .int a3], [], M)) (ob := True ∧ True ∧ True ∧ True) rfl ⟨trivial, trivial, trivial, trivial⟩ ?_
      refine jRun.brn (fun g => ?_) (fun g => ?_)
      · have h := h.1 g
        refine jRun.call (k := jk_X8_fewest) rfl 2 (f := q_X8_bits) (As := [.int a2]) (c1 := (120, [.ref 54, .int a1, .int a2, .int a3], [], M)) (ob := True ∧ True) rfl ⟨trivial, trivial⟩ h (fun v M1 h => ?_)
        obtain ⟨r1, rfl, h⟩ := h
        show jRun X T0 (d + 1) q_X8_fewest (120, [.ref 54, .int a1, .int a2, .int a3], [.int r1], M1) Q
        exact jRun.ret (k := jk_X8_fewest) rfl 1 (v := some (.int r1)) (M1 := M1) (ob := True) rfl trivial h
      · have h := h.2 g
        exact jRun.ret (k := jk_X8_fewest) rfl 3 (v := some (.int a2)) (M1 := M) (ob := True ∧ True ∧ True) rfl ⟨trivial, trivial, trivial⟩ h
  · have h := h.2 g
    obtain ⟨o1, o2, h⟩ := h
    refine jRun.cut (k := jk_X8_fewest) rfl 10 (c' := (95, [.ref 54, .int a1, .int a2, .int a3], [], (jP M 57 ((33 + a3).toNatClampNeg) (M 70 a3.toNatClampNeg)))) (ob := True ∧ jKd T0 54 = 8 ∧ True ∧ True ∧ True ∧ True ∧ jKd T0 54 = 8 ∧ True ∧ (jKd T0 70 = 9 ∧ vp_in a3 3) ∧ (jKd T0 57 = 9 ∧ vp_in (33 + a3) 36) ∧ True) rfl ⟨trivial, rfl, trivial, trivial, trivial, trivial, rfl, trivial, ⟨rfl, o1⟩, ⟨rfl, o2⟩, trivial⟩ ?_
    refine jRun.nm (fun M2 eM2 => ?_)
    have h := h M2 eM2
    refine jRun.cut (k := jk_X8_fewest) rfl 2 (c' := (75, [.ref 54, .int a1, .int a2, .int (a3 + 1)], [], M2)) (ob := True ∧ True ∧ True) rfl ⟨trivial, trivial, trivial⟩ ?_
    exact h
theorem v_X8_growOps {X : jX} {d : Nat} (hI : jInj X T0) (a1 : Int32) (a2 : Int32) (M : jMem) (Q : Option Value → jMem → Prop) (h : jRun X T0 (d + 1) q_X8_growOps (5, [.ref 54, .int a1, .int a2, .int 0, .int 0], [], M) Q) : jOk X T0 (d + 1) q_X8_growOps [.ref 54, .int a1, .int a2] M Q := by
  refine jOk.intro (ml := 5) (ls := [.ref 54, .int a1, .int a2, .null, .null]) (jTl (by decide)) rfl (Nat.le_of_ble_eq_true rfl) rfl hI ?_
  refine jRun.cut (k := jk_X8_growOps) rfl 4 (c' := (5, [.ref 54, .int a1, .int a2, .int 0, .int 0], [], M)) (ob := True ∧ True ∧ True ∧ True ∧ True) rfl ⟨trivial, trivial, trivial, trivial, trivial⟩ ?_
  exact h
theorem v_X8_growOps_5 {X : jX} {d : Nat} (a1 : Int32) (a2 : Int32) (a3 : Int32) (a4 : Int32) (M : jMem) (Q : Option Value → jMem → Prop) (h : (((M 54 7) ≤ a4 → Q none M) ∧ (¬ (M 54 7) ≤ a4 → vp_in a4 32 ∧ ((¬ (M 56 a4.toNatClampNeg) = 0 → jRun X T0 (d + 1) q_X8_growOps (5, [.ref 54, .int a1, .int a2, .int a3, .int (a4 + 1)], [], M) Q) ∧ ((M 56 a4.toNatClampNeg) = 0 → ((6 ≤ a3 → jRun X T0 (d + 1) q_X8_growOps (5, [.ref 54, .int a1, .int a2, .int a3, .int (a4 + 1)], [], M) Q) ∧ (¬ 6 ≤ a3 → vp_in a4 36 ∧ jOk X T0 d q_X8_has [.int a1, .int a3] M (fun v M1 => ∃ r1, v = some (.int r1) ∧ ((r1 = 0 → (∀ M2, M2 = jP M1 57 a4.toNatClampNeg ((M 57 a4.toNatClampNeg) + 0) → jRun X T0 (d + 1) q_X8_growOps (5, [.ref 54, .int a1, .int a2, .int (a3 + 1), .int (a4 + 1)], [], M2) Q)) ∧ (¬ r1 = 0 → (∀ M3, M3 = jP M1 57 a4.toNatClampNeg ((M 57 a4.toNatClampNeg) + a2) → jRun X T0 (d + 1) q_X8_growOps (5, [.ref 54, .int a1, .int a2, .int (a3 + 1), .int (a4 + 1)], [], M3) Q))))))))))) : jRun X T0 (d + 1) q_X8_growOps (5, [.ref 54, .int a1, .int a2, .int a3, .int a4], [], M) Q := by
  refine jRun.cut (k := jk_X8_growOps) rfl 4 (c' := (if (M 54 7) ≤ a4 then 62 else 14, [.ref 54, .int a1, .int a2, .int a3, .int a4], [], M)) (ob := True ∧ True ∧ jKd T0 54 = 8 ∧ True ∧ True) rfl ⟨trivial, trivial, rfl, trivial, trivial⟩ ?_
  refine jRun.br (fun g => ?_) (fun g => ?_)
  · have h := h.1 g
    exact jRun.ret (k := jk_X8_growOps) rfl 1 (v := none) (M1 := M) (ob := True) rfl trivial h
  · have h := h.2 g
    obtain ⟨o1, h⟩ := h
    refine jRun.cut (k := jk_X8_growOps) rfl 5 (c' := (if ¬ (M 56 a4.toNatClampNeg) = 0 then 56 else 24, [.ref 54, .int a1, .int a2, .int a3, .int a4], [], M)) (ob := True ∧ jKd T0 54 = 8 ∧ True ∧ (jKd T0 56 = 9 ∧ vp_in a4 32) ∧ True ∧ True) rfl ⟨trivial, rfl, trivial, ⟨rfl, o1⟩, trivial, trivial⟩ ?_
    refine jRun.brn (fun g => ?_) (fun g => ?_)
    · have h := h.1 g
      refine jRun.cut (k := jk_X8_growOps) rfl 2 (c' := (5, [.ref 54, .int a1, .int a2, .int a3, .int (a4 + 1)], [], M)) (ob := True ∧ True ∧ True) rfl ⟨trivial, trivial, trivial⟩ ?_
      exact h
    · have h := h.2 g
      refine jRun.cut (k := jk_X8_growOps) rfl 3 (c' := (if 6 ≤ a3 then 56 else 30, [.ref 54, .int a1, .int a2, .int a3, .int a4], [], M)) (ob := True ∧ True ∧ True ∧ True) rfl ⟨trivial, trivial, trivial, trivial⟩ ?_
      refine jRun.br (fun g => ?_) (fun g => ?_)
      · have h := h.1 g
        refine jRun.cut (k := jk_X8_growOps) rfl 2 (c' := (5, [.ref 54, .int a1, .int a2, .int a3, .int (a4 + 1)], [], M)) (ob := True ∧ True ∧ True) rfl ⟨trivial, trivial, trivial⟩ ?_
        exact h
      · have h := h.2 g
        obtain ⟨o2, h⟩ := h
        refine jRun.call (k := jk_X8_growOps) rfl 8 (f := q_X8_has) (As := [.int a1, .int a3]) (c1 := (43, [.ref 54, .int a1, .int a2, .int a3, .int a4], [.int (M 57 a4.toNatClampNeg), .int a4, .ref 57], M)) (ob := True ∧ jKd T0 54 = 8 ∧ True ∧ True ∧ (jKd T0 57 = 9 ∧ vp_in a4 36) ∧ True ∧ True ∧ True) rfl ⟨trivial, rfl, trivial, trivial, ⟨rfl, o2⟩, trivial, trivial, trivial⟩ h (fun v M1 h => ?_)
        obtain ⟨r1, rfl, h⟩ := h
        show jRun X T0 (d + 1) q_X8_growOps (43, [.ref 54, .int a1, .int a2, .int a3, .int a4], [.int r1, .int (M 57 a4.toNatClampNeg), .int a4, .ref 57], M1) Q
        refine jRun.cut (k := jk_X8_growOps) rfl 1 (c' := (if r1 = 0 then 50 else 46, [.ref 54, .int a1, .int a2, .int a3, .int a4], [.int (M 57 a4.toNatClampNeg), .int a4, .ref 57], M1)) (ob := True ∧ True) rfl ⟨trivial, trivial⟩ ?_
        refine jRun.br (fun g => ?_) (fun g => ?_)
        · have h := h.1 g
          refine jRun.cut (k := jk_X8_growOps) rfl 3 (c' := (53, [.ref 54, .int a1, .int a2, .int a3, .int a4], [], (jP M1 57 a4.toNatClampNeg ((M 57 a4.toNatClampNeg) + 0)))) (ob := True ∧ True ∧ (jKd T0 57 = 9 ∧ vp_in a4 36) ∧ True) rfl ⟨trivial, trivial, ⟨rfl, o2⟩, trivial⟩ ?_
          refine jRun.nm (fun M2 eM2 => ?_)
          have h := h M2 eM2
          refine jRun.cut (k := jk_X8_growOps) rfl 3 (c' := (5, [.ref 54, .int a1, .int a2, .int (a3 + 1), .int (a4 + 1)], [], M2)) (ob := True ∧ True ∧ True ∧ True) rfl ⟨trivial, trivial, trivial, trivial⟩ ?_
          exact h
        · have h := h.2 g
          refine jRun.cut (k := jk_X8_growOps) rfl 4 (c' := (53, [.ref 54, .int a1, .int a2, .int a3, .int a4], [], (jP M1 57 a4.toNatClampNeg ((M 57 a4.toNatClampNeg) + a2)))) (ob := True ∧ True ∧ True ∧ (jKd T0 57 = 9 ∧ vp_in a4 36) ∧ True) rfl ⟨trivial, trivial, trivial, ⟨rfl, o2⟩, trivial⟩ ?_
          refine jRun.nm (fun M3 eM3 => ?_)
          have h := h M3 eM3
          refine jRun.cut (k := jk_X8_growOps) rfl 3 (c' := (5, [.ref 54, .int a1, .int a2, .int (a3 + 1), .int (a4 + 1)], [], M3)) (ob := True ∧ True ∧ True ∧ True) rfl ⟨trivial, trivial, trivial, trivial⟩ ?_
          exact h
theorem v_X8_odds {X : jX} {d : Nat} (hI : jInj X T0) (a1 : Int32) (a2 : Int32) (a3 : Int32) (M : jMem) (Q : Option Value → jMem → Prop) (h : (∀ M1, M1 = jP M 54 0 0 → jOk X T0 d q_X8_isItem [.ref 54, .int a1] M1 (fun v M2 => ∃ r1, v = some (.int r1) ∧ ((r1 = 0 → Q (some (.int (-1))) M2) ∧ (¬ r1 = 0 → vp_in a1 32 ∧ ((¬ (M2 56 a1.toNatClampNeg) = 2 → Q (some (.int (-1))) M2) ∧ ((M2 56 a1.toNatClampNeg) = 2 → jOk X T0 d q_X8_in [.long a2.toInt64, .long 0, .long 10] M2 (fun v M3 => ∃ r2, v = some (.int r2) ∧ ((r2 = 0 → Q (some (.int (-1))) M3) ∧ (¬ r2 = 0 → jOk X T0 d q_X8_in [.long a3.toInt64, .long 0, .long 1] M3 (fun v M4 => ∃ r3, v = some (.int r3) ∧ ((¬ r3 = 0 → jOk X T0 d q_X8_numberOf [.ref 58, .int (M4 54 12), .int a1] M4 (fun v M5 => ∃ r4, v = some (.int r4) ∧ ((6 ≤ (M5 54 18) → jRun X T0 (d + 1) q_X8_odds (79, [.ref 54, .int a1, .int a2, .int a3, .int r4, .null, .null, .null, .null, .null, .null], [.int 6], M5) Q) ∧ (¬ 6 ≤ (M5 54 18) → jRun X T0 (d + 1) q_X8_odds (79, [.ref 54, .int a1, .int a2, .int a3, .int r4, .null, .null, .null, .null, .null, .null], [.int (M5 54 18)], M5) Q)))) ∧ (r3 = 0 → Q (some (.int (-1))) M4))))))))))))) : jOk X T0 (d + 1) q_X8_odds [.ref 54, .int a1, .int a2, .int a3] M Q := by
  refine jOk.intro (ml := 11) (ls := [.ref 54, .int a1, .int a2, .int a3, .null, .null, .null, .null, .null, .null, .null]) (jTl (by decide)) rfl (Nat.le_of_ble_eq_true rfl) rfl hI ?_
  refine jRun.cut (k := jk_X8_odds) rfl 3 (c' := (5, [.ref 54, .int a1, .int a2, .int a3, .null, .null, .null, .null, .null, .null, .null], [], (jP M 54 0 0))) (ob := True ∧ True ∧ jKd T0 54 = 8 ∧ True) rfl ⟨trivial, trivial, rfl, trivial⟩ ?_
  refine jRun.nm (fun M1 eM1 => ?_)
  have h := h M1 eM1
  refine jRun.call (k := jk_X8_odds) rfl 3 (f := q_X8_isItem) (As := [.ref 54, .int a1]) (c1 := (10, [.ref 54, .int a1, .int a2, .int a3, .null, .null, .null, .null, .null, .null, .null], [], M1)) (ob := True ∧ True ∧ jKd T0 54 = 8) rfl ⟨trivial, trivial, rfl⟩ h (fun v M2 h => ?_)
  obtain ⟨r1, rfl, h⟩ := h
  show jRun X T0 (d + 1) q_X8_odds (10, [.ref 54, .int a1, .int a2, .int a3, .null, .null, .null, .null, .null, .null, .null], [.int r1], M2) Q
  refine jRun.cut (k := jk_X8_odds) rfl 1 (c' := (if r1 = 0 then 45 else 13, [.ref 54, .int a1, .int a2, .int a3, .null, .null, .null, .null, .null, .null, .null], [], M2)) (ob := True ∧ True) rfl ⟨trivial, trivial⟩ ?_
  refine jRun.br (fun g => ?_) (fun g => ?_)
  · have h := h.1 g
    exact jRun.ret (k := jk_X8_odds) rfl 2 (v := some (.int (-1))) (M1 := M2) (ob := True ∧ True) rfl ⟨trivial, trivial⟩ h
  · have h := h.2 g
    obtain ⟨o1, h⟩ := h
    refine jRun.cut (k := jk_X8_odds) rfl 6 (c' := (if ¬ (M2 56 a1.toNatClampNeg) = 2 then 45 else 23, [.ref 54, .int a1, .int a2, .int a3, .null, .null, .null, .null, .null, .null, .null], [], M2)) (ob := True ∧ jKd T0 54 = 8 ∧ True ∧ (jKd T0 56 = 9 ∧ vp_in a1 32) ∧ True ∧ True ∧ True) rfl ⟨trivial, rfl, trivial, ⟨rfl, o1⟩, trivial, trivial, trivial⟩ ?_
    refine jRun.brn (fun g => ?_) (fun g => ?_)
    · have h := h.1 g
      exact jRun.ret (k := jk_X8_odds) rfl 2 (v := some (.int (-1))) (M1 := M2) (ob := True ∧ True) rfl ⟨trivial, trivial⟩ h
    · have h := h.2 g
      refine jRun.call (k := jk_X8_odds) rfl 5 (f := q_X8_in) (As := [.long a2.toInt64, .long 0, .long 10]) (c1 := (32, [.ref 54, .int a1, .int a2, .int a3, .null, .null, .null, .null, .null, .null, .null], [], M2)) (ob := True ∧ True ∧ True ∧ True ∧ True) rfl ⟨trivial, trivial, trivial, trivial, trivial⟩ h (fun v M3 h => ?_)
      obtain ⟨r2, rfl, h⟩ := h
      show jRun X T0 (d + 1) q_X8_odds (32, [.ref 54, .int a1, .int a2, .int a3, .null, .null, .null, .null, .null, .null, .null], [.int r2], M3) Q
      refine jRun.cut (k := jk_X8_odds) rfl 1 (c' := (if r2 = 0 then 45 else 35, [.ref 54, .int a1, .int a2, .int a3, .null, .null, .null, .null, .null, .null, .null], [], M3)) (ob := True ∧ True) rfl ⟨trivial, trivial⟩ ?_
      refine jRun.br (fun g => ?_) (fun g => ?_)
      · have h := h.1 g
        exact jRun.ret (k := jk_X8_odds) rfl 2 (v := some (.int (-1))) (M1 := M3) (ob := True ∧ True) rfl ⟨trivial, trivial⟩ h
      · have h := h.2 g
        refine jRun.call (k := jk_X8_odds) rfl 5 (f := q_X8_in) (As := [.long a3.toInt64, .long 0, .long 1]) (c1 := (42, [.ref 54, .int a1, .int a2, .int a3, .null, .null, .null, .null, .null, .null, .null], [], M3)) (ob := True ∧ True ∧ True ∧ True ∧ True) rfl ⟨trivial, trivial, trivial, trivial, trivial⟩ h (fun v M4 h => ?_)
        obtain ⟨r3, rfl, h⟩ := h
        show jRun X T0 (d + 1) q_X8_odds (42, [.ref 54, .int a1, .int a2, .int a3, .null, .null, .null, .null, .null, .null, .null], [.int r3], M4) Q
        refine jRun.cut (k := jk_X8_odds) rfl 1 (c' := (if ¬ r3 = 0 then 47 else 45, [.ref 54, .int a1, .int a2, .int a3, .null, .null, .null, .null, .null, .null, .null], [], M4)) (ob := True ∧ True) rfl ⟨trivial, trivial⟩ ?_
        refine jRun.brn (fun g => ?_) (fun g => ?_)
        · have h := h.1 g
          refine jRun.call (k := jk_X8_odds) rfl 6 (f := q_X8_numberOf) (As := [.ref 58, .int (M4 54 12), .int a1]) (c1 := (59, [.ref 54, .int a1, .int a2, .int a3, .null, .null, .null, .null, .null, .null, .null], [], M4)) (ob := True ∧ jKd T0 54 = 8 ∧ True ∧ jKd T0 54 = 8 ∧ True ∧ True) rfl ⟨trivial, rfl, trivial, rfl, trivial, trivial⟩ h (fun v M5 h => ?_)
          obtain ⟨r4, rfl, h⟩ := h
          show jRun X T0 (d + 1) q_X8_odds (59, [.ref 54, .int a1, .int a2, .int a3, .null, .null, .null, .null, .null, .null, .null], [.int r4], M5) Q
          refine jRun.cut (k := jk_X8_odds) rfl 5 (c' := (if 6 ≤ (M5 54 18) then 77 else 70, [.ref 54, .int a1, .int a2, .int a3, .int r4, .null, .null, .null, .null, .null, .null], [], M5)) (ob := True ∧ True ∧ jKd T0 54 = 8 ∧ True ∧ True ∧ True) rfl ⟨trivial, trivial, rfl, trivial, trivial, trivial⟩ ?_
          refine jRun.br (fun g => ?_) (fun g => ?_)
          · have h := h.1 g
            refine jRun.cut (k := jk_X8_odds) rfl 1 (c' := (79, [.ref 54, .int a1, .int a2, .int a3, .int r4, .null, .null, .null, .null, .null, .null], [.int 6], M5)) (ob := True ∧ True) rfl ⟨trivial, trivial⟩ ?_
            exact h
          · have h := h.2 g
            refine jRun.cut (k := jk_X8_odds) rfl 3 (c' := (79, [.ref 54, .int a1, .int a2, .int a3, .int r4, .null, .null, .null, .null, .null, .null], [.int (M5 54 18)], M5)) (ob := True ∧ jKd T0 54 = 8 ∧ True ∧ True) rfl ⟨trivial, rfl, trivial, trivial⟩ ?_
            exact h
        · have h := h.2 g
          exact jRun.ret (k := jk_X8_odds) rfl 2 (v := some (.int (-1))) (M1 := M4) (ob := True ∧ True) rfl ⟨trivial, trivial⟩ h
theorem v_X8_odds_79 {X : jX} {d : Nat} (a1 : Int32) (a2 : Int32) (a3 : Int32) (a4 : Int32) (s0 : Int32) (M : jMem) (Q : Option Value → jMem → Prop) (h : jRun X T0 (d + 1) q_X8_odds (90, [.ref 54, .int a1, .int a2, .int a3, .int a4, .int s0, .int 0, .int 0, .int 0, .null, .null], [], M) Q) : jRun X T0 (d + 1) q_X8_odds (79, [.ref 54, .int a1, .int a2, .int a3, .int a4, .null, .null, .null, .null, .null, .null], [.int s0], M) Q := by
  refine jRun.cut (k := jk_X8_odds) rfl 7 (c' := (90, [.ref 54, .int a1, .int a2, .int a3, .int a4, .int s0, .int 0, .int 0, .int 0, .null, .null], [], M)) (ob := True ∧ True ∧ True ∧ True ∧ True ∧ True ∧ True ∧ True) rfl ⟨trivial, trivial, trivial, trivial, trivial, trivial, trivial, trivial⟩ ?_
  exact h
theorem v_X8_odds_90 {X : jX} {d : Nat} (a1 : Int32) (a2 : Int32) (a3 : Int32) (a4 : Int32) (a5 : Int32) (a6 : Int32) (a7 : Int32) (a8 : Int32) (M : jMem) (Q : Option Value → jMem → Prop) (h : (((1 <<< (a5 &&& 31)) ≤ a8 → jRun X T0 (d + 1) q_X8_odds (203, [.ref 54, .int a1, .int a2, .int a3, .int a4, .int a5, .int a6, .int a7, .int a6, .int a7, .null], [], M) Q) ∧ (¬ (1 <<< (a5 &&& 31)) ≤ a8 → jRun X T0 (d + 1) q_X8_odds (105, [.ref 54, .int a1, .int a2, .int a3, .int a4, .int a5, .int a6, .int a7, .int a8, .int 1, .int 0], [], M) Q))) : jRun X T0 (d + 1) q_X8_odds (90, [.ref 54, .int a1, .int a2, .int a3, .int a4, .int a5, .int a6, .int a7, .int a8, .null, .null], [], M) Q := by
  refine jRun.cut (k := jk_X8_odds) rfl 5 (c' := (if (1 <<< (a5 &&& 31)) ≤ a8 then 195 else 99, [.ref 54, .int a1, .int a2, .int a3, .int a4, .int a5, .int a6, .int a7, .int a8, .null, .null], [], M)) (ob := True ∧ True ∧ True ∧ True ∧ True ∧ True) rfl ⟨trivial, trivial, trivial, trivial, trivial, trivial⟩ ?_
  refine jRun.br (fun g => ?_) (fun g => ?_)
  · have h := h.1 g
    refine jRun.cut (k := jk_X8_odds) rfl 4 (c' := (203, [.ref 54, .int a1, .int a2, .int a3, .int a4, .int a5, .int a6, .int a7, .int a6, .int a7, .null], [], M)) (ob := True ∧ True ∧ True ∧ True ∧ True) rfl ⟨trivial, trivial, trivial, trivial, trivial⟩ ?_
    exact h
  · have h := h.2 g
    refine jRun.cut (k := jk_X8_odds) rfl 4 (c' := (105, [.ref 54, .int a1, .int a2, .int a3, .int a4, .int a5, .int a6, .int a7, .int a8, .int 1, .int 0], [], M)) (ob := True ∧ True ∧ True ∧ True ∧ True) rfl ⟨trivial, trivial, trivial, trivial, trivial⟩ ?_
    exact h
theorem v_X8_odds_105 {X : jX} {d : Nat} (a1 : Int32) (a2 : Int32) (a3 : Int32) (a4 : Int32) (a5 : Int32) (a6 : Int32) (a7 : Int32) (a8 : Int32) (a9 : Int32) (a10 : Int32) (M : jMem) (Q : Option Value → jMem → Prop) (h : ((a5 ≤ a10 → jOk X T0 d q_X8_growOps [.ref 54, .int a8, .int 1] M (fun v M1 => v = none ∧ jOk X T0 d q_X8_grow [.ref 54] M1 (fun v M2 => v = none ∧ jOk X T0 d q_X8_growOps [.ref 54, .int a8, .int (-1)] M2 (fun v M3 => v = none ∧ jOk X T0 d q_X8_has [.int (M3 54 30), .int a4] M3 (fun v M4 => ∃ r4, v = some (.int r4) ∧ ((r4 = 0 → jRun X T0 (d + 1) q_X8_odds (186, [.ref 54, .int a1, .int a2, .int a3, .int a4, .int a5, .int a6, .int (a7 + a9), .int a8, .int a9, .int a10], [.int 0, .int a6], M4) Q) ∧ (¬ r4 = 0 → jRun X T0 (d + 1) q_X8_odds (186, [.ref 54, .int a1, .int a2, .int a3, .int a4, .int a5, .int a6, .int (a7 + a9), .int a8, .int a9, .int a10], [.int a9, .int a6], M4) Q))))))) ∧ (¬ a5 ≤ a10 → jOk X T0 d q_X8_has [.int a8, .int a10] M (fun v M5 => ∃ r5, v = some (.int r5) ∧ ((r5 = 0 → jRun X T0 (d + 1) q_X8_odds (132, [.ref 54, .int a1, .int a2, .int a3, .int a4, .int a5, .int a6, .int a7, .int a8, .int a9, .int a10], [.int (10 - a2), .int a9], M5) Q) ∧ (¬ r5 = 0 → jRun X T0 (d + 1) q_X8_odds (132, [.ref 54, .int a1, .int a2, .int a3, .int a4, .int a5, .int a6, .int a7, .int a8, .int a9, .int a10], [.int a2, .int a9], M5) Q)))))) : jRun X T0 (d + 1) q_X8_odds (105, [.ref 54, .int a1, .int a2, .int a3, .int a4, .int a5, .int a6, .int a7, .int a8, .int a9, .int a10], [], M) Q := by
  refine jRun.cut (k := jk_X8_odds) rfl 3 (c' := (if a5 ≤ a10 then 141 else 112, [.ref 54, .int a1, .int a2, .int a3, .int a4, .int a5, .int a6, .int a7, .int a8, .int a9, .int a10], [], M)) (ob := True ∧ True ∧ True ∧ True) rfl ⟨trivial, trivial, trivial, trivial⟩ ?_
  refine jRun.br (fun g => ?_) (fun g => ?_)
  · have h := h.1 g
    refine jRun.call (k := jk_X8_odds) rfl 4 (f := q_X8_growOps) (As := [.ref 54, .int a8, .int 1]) (c1 := (148, [.ref 54, .int a1, .int a2, .int a3, .int a4, .int a5, .int a6, .int a7, .int a8, .int a9, .int a10], [], M)) (ob := True ∧ True ∧ True ∧ jKd T0 54 = 8) rfl ⟨trivial, trivial, trivial, rfl⟩ h (fun v M1 h => ?_)
    obtain ⟨rfl, h⟩ := h
    show jRun X T0 (d + 1) q_X8_odds (148, [.ref 54, .int a1, .int a2, .int a3, .int a4, .int a5, .int a6, .int a7, .int a8, .int a9, .int a10], [], M1) Q
    refine jRun.call (k := jk_X8_odds) rfl 2 (f := q_X8_grow) (As := [.ref 54]) (c1 := (152, [.ref 54, .int a1, .int a2, .int a3, .int a4, .int a5, .int a6, .int a7, .int a8, .int a9, .int a10], [], M1)) (ob := True ∧ jKd T0 54 = 8) rfl ⟨trivial, rfl⟩ h (fun v M2 h => ?_)
    obtain ⟨rfl, h⟩ := h
    show jRun X T0 (d + 1) q_X8_odds (152, [.ref 54, .int a1, .int a2, .int a3, .int a4, .int a5, .int a6, .int a7, .int a8, .int a9, .int a10], [], M2) Q
    refine jRun.call (k := jk_X8_odds) rfl 4 (f := q_X8_growOps) (As := [.ref 54, .int a8, .int (-1)]) (c1 := (159, [.ref 54, .int a1, .int a2, .int a3, .int a4, .int a5, .int a6, .int a7, .int a8, .int a9, .int a10], [], M2)) (ob := True ∧ True ∧ True ∧ jKd T0 54 = 8) rfl ⟨trivial, trivial, trivial, rfl⟩ h (fun v M3 h => ?_)
    obtain ⟨rfl, h⟩ := h
    show jRun X T0 (d + 1) q_X8_odds (159, [.ref 54, .int a1, .int a2, .int a3, .int a4, .int a5, .int a6, .int a7, .int a8, .int a9, .int a10], [], M3) Q
    refine jRun.call (k := jk_X8_odds) rfl 9 (f := q_X8_has) (As := [.int (M3 54 30), .int a4]) (c1 := (177, [.ref 54, .int a1, .int a2, .int a3, .int a4, .int a5, .int a6, .int (a7 + a9), .int a8, .int a9, .int a10], [.int a6], M3)) (ob := True ∧ True ∧ True ∧ True ∧ True ∧ True ∧ jKd T0 54 = 8 ∧ True ∧ True) rfl ⟨trivial, trivial, trivial, trivial, trivial, trivial, rfl, trivial, trivial⟩ h (fun v M4 h => ?_)
    obtain ⟨r4, rfl, h⟩ := h
    show jRun X T0 (d + 1) q_X8_odds (177, [.ref 54, .int a1, .int a2, .int a3, .int a4, .int a5, .int a6, .int (a7 + a9), .int a8, .int a9, .int a10], [.int r4, .int a6], M4) Q
    refine jRun.cut (k := jk_X8_odds) rfl 1 (c' := (if r4 = 0 then 185 else 180, [.ref 54, .int a1, .int a2, .int a3, .int a4, .int a5, .int a6, .int (a7 + a9), .int a8, .int a9, .int a10], [.int a6], M4)) (ob := True ∧ True) rfl ⟨trivial, trivial⟩ ?_
    refine jRun.br (fun g => ?_) (fun g => ?_)
    · have h := h.1 g
      refine jRun.cut (k := jk_X8_odds) rfl 1 (c' := (186, [.ref 54, .int a1, .int a2, .int a3, .int a4, .int a5, .int a6, .int (a7 + a9), .int a8, .int a9, .int a10], [.int 0, .int a6], M4)) (ob := True ∧ True) rfl ⟨trivial, trivial⟩ ?_
      exact h
    · have h := h.2 g
      refine jRun.cut (k := jk_X8_odds) rfl 2 (c' := (186, [.ref 54, .int a1, .int a2, .int a3, .int a4, .int a5, .int a6, .int (a7 + a9), .int a8, .int a9, .int a10], [.int a9, .int a6], M4)) (ob := True ∧ True ∧ True) rfl ⟨trivial, trivial, trivial⟩ ?_
      exact h
  · have h := h.2 g
    refine jRun.call (k := jk_X8_odds) rfl 4 (f := q_X8_has) (As := [.int a8, .int a10]) (c1 := (121, [.ref 54, .int a1, .int a2, .int a3, .int a4, .int a5, .int a6, .int a7, .int a8, .int a9, .int a10], [.int a9], M)) (ob := True ∧ True ∧ True ∧ True) rfl ⟨trivial, trivial, trivial, trivial⟩ h (fun v M5 h => ?_)
    obtain ⟨r5, rfl, h⟩ := h
    show jRun X T0 (d + 1) q_X8_odds (121, [.ref 54, .int a1, .int a2, .int a3, .int a4, .int a5, .int a6, .int a7, .int a8, .int a9, .int a10], [.int r5, .int a9], M5) Q
    refine jRun.cut (k := jk_X8_odds) rfl 1 (c' := (if r5 = 0 then 128 else 124, [.ref 54, .int a1, .int a2, .int a3, .int a4, .int a5, .int a6, .int a7, .int a8, .int a9, .int a10], [.int a9], M5)) (ob := True ∧ True) rfl ⟨trivial, trivial⟩ ?_
    refine jRun.br (fun g => ?_) (fun g => ?_)
    · have h := h.1 g
      refine jRun.cut (k := jk_X8_odds) rfl 3 (c' := (132, [.ref 54, .int a1, .int a2, .int a3, .int a4, .int a5, .int a6, .int a7, .int a8, .int a9, .int a10], [.int (10 - a2), .int a9], M5)) (ob := True ∧ True ∧ True ∧ True) rfl ⟨trivial, trivial, trivial, trivial⟩ ?_
      exact h
    · have h := h.2 g
      refine jRun.cut (k := jk_X8_odds) rfl 2 (c' := (132, [.ref 54, .int a1, .int a2, .int a3, .int a4, .int a5, .int a6, .int a7, .int a8, .int a9, .int a10], [.int a2, .int a9], M5)) (ob := True ∧ True ∧ True) rfl ⟨trivial, trivial, trivial⟩ ?_
      exact h
theorem v_X8_odds_132 {X : jX} {d : Nat} (a1 : Int32) (a2 : Int32) (a3 : Int32) (a4 : Int32) (a5 : Int32) (a6 : Int32) (a7 : Int32) (a8 : Int32) (a9 : Int32) (a10 : Int32) (s0 : Int32) (s1 : Int32) (M : jMem) (Q : Option Value → jMem → Prop) (h : jRun X T0 (d + 1) q_X8_odds (105, [.ref 54, .int a1, .int a2, .int a3, .int a4, .int a5, .int a6, .int a7, .int a8, .int (s1 * s0), .int (a10 + 1)], [], M) Q) : jRun X T0 (d + 1) q_X8_odds (132, [.ref 54, .int a1, .int a2, .int a3, .int a4, .int a5, .int a6, .int a7, .int a8, .int a9, .int a10], [.int s0, .int s1], M) Q := by
  refine jRun.cut (k := jk_X8_odds) rfl 4 (c' := (105, [.ref 54, .int a1, .int a2, .int a3, .int a4, .int a5, .int a6, .int a7, .int a8, .int (s1 * s0), .int (a10 + 1)], [], M)) (ob := True ∧ True ∧ True ∧ True ∧ True) rfl ⟨trivial, trivial, trivial, trivial, trivial⟩ ?_
  exact h
theorem v_X8_odds_186 {X : jX} {d : Nat} (a1 : Int32) (a2 : Int32) (a3 : Int32) (a4 : Int32) (a5 : Int32) (a6 : Int32) (a7 : Int32) (a8 : Int32) (a9 : Int32) (a10 : Int32) (s0 : Int32) (s1 : Int32) (M : jMem) (Q : Option Value → jMem → Prop) (h : jRun X T0 (d + 1) q_X8_odds (90, [.ref 54, .int a1, .int a2, .int a3, .int a4, .int a5, .int (s1 + s0), .int a7, .int (a8 + 1), .null, .null], [], M) Q) : jRun X T0 (d + 1) q_X8_odds (186, [.ref 54, .int a1, .int a2, .int a3, .int a4, .int a5, .int a6, .int a7, .int a8, .int a9, .int a10], [.int s0, .int s1], M) Q := by
  refine jRun.cut (k := jk_X8_odds) rfl 4 (c' := (90, [.ref 54, .int a1, .int a2, .int a3, .int a4, .int a5, .int (s1 + s0), .int a7, .int (a8 + 1), .int a9, .int a10], [], M)) (ob := True ∧ True ∧ True ∧ True ∧ True) rfl ⟨trivial, trivial, trivial, trivial, trivial⟩ ?_
  exact jRun.weak (by simp [jFew]) h
theorem v_X8_odds_203 {X : jX} {d : Nat} (a1 : Int32) (a2 : Int32) (a3 : Int32) (a4 : Int32) (a5 : Int32) (a6 : Int32) (a7 : Int32) (a8 : Int32) (a9 : Int32) (M : jMem) (Q : Option Value → jMem → Prop) (h : ((a9 = 0 → ((¬ a3 = 0 → ¬ a8 = 0 ∧ Q (some (.int (a7 / a8))) M) ∧ (a3 = 0 → ¬ a8 = 0 ∧ Q (some (.int (a6 / a8))) M))) ∧ (¬ a9 = 0 → ¬ a9 = 0 ∧ jRun X T0 (d + 1) q_X8_odds (203, [.ref 54, .int a1, .int a2, .int a3, .int a4, .int a5, .int a6, .int a7, .int a9, .int (a8 - a8 / a9 * a9), .null], [], M) Q))) : jRun X T0 (d + 1) q_X8_odds (203, [.ref 54, .int a1, .int a2, .int a3, .int a4, .int a5, .int a6, .int a7, .int a8, .int a9, .null], [], M) Q := by
  refine jRun.cut (k := jk_X8_odds) rfl 2 (c' := (if a9 = 0 then 226 else 208, [.ref 54, .int a1, .int a2, .int a3, .int a4, .int a5, .int a6, .int a7, .int a8, .int a9, .null], [], M)) (ob := True ∧ True ∧ True) rfl ⟨trivial, trivial, trivial⟩ ?_
  refine jRun.br (fun g => ?_) (fun g => ?_)
  · have h := h.1 g
    refine jRun.cut (k := jk_X8_odds) rfl 2 (c' := (if ¬ a3 = 0 then 235 else 230, [.ref 54, .int a1, .int a2, .int a3, .int a4, .int a5, .int a6, .int a7, .int a8, .int a9, .null], [], M)) (ob := True ∧ True ∧ True) rfl ⟨trivial, trivial, trivial⟩ ?_
    refine jRun.brn (fun g => ?_) (fun g => ?_)
    · have h := h.1 g
      obtain ⟨o1, h⟩ := h
      exact jRun.ret (k := jk_X8_odds) rfl 4 (v := some (.int (a7 / a8))) (M1 := M) (ob := True ∧ True ∧ ¬ a8 = 0 ∧ True) rfl ⟨trivial, trivial, o1, trivial⟩ h
    · have h := h.2 g
      obtain ⟨o2, h⟩ := h
      exact jRun.ret (k := jk_X8_odds) rfl 5 (v := some (.int (a6 / a8))) (M1 := M) (ob := True ∧ True ∧ True ∧ ¬ a8 = 0 ∧ True) rfl ⟨trivial, trivial, trivial, o2, trivial⟩ h
  · have h := h.2 g
    obtain ⟨o3, h⟩ := h
    refine jRun.cut (k := jk_X8_odds) rfl 9 (c' := (203, [.ref 54, .int a1, .int a2, .int a3, .int a4, .int a5, .int a6, .int a7, .int a9, .int (a8 - a8 / a9 * a9), .int (a8 - a8 / a9 * a9)], [], M)) (ob := True ∧ True ∧ ¬ a9 = 0 ∧ True ∧ True ∧ True ∧ True ∧ True ∧ True ∧ True) rfl ⟨trivial, trivial, o3, trivial, trivial, trivial, trivial, trivial, trivial, trivial⟩ ?_
    exact jRun.weak (by simp [jFew]) h
theorem v_X8_keep {X : jX} {d : Nat} (hI : jInj X T0) (a1 : Int32) (M : jMem) (Q : Option Value → jMem → Prop) (h : (∀ M1, M1 = jP M 54 0 0 → jOk X T0 d q_X8_in [.long a1.toInt64, .long 0, .long 1] M1 (fun v M2 => ∃ r1, v = some (.int r1) ∧ ((¬ r1 = 0 → jRun X T0 (d + 1) q_X8_keep (19, [.ref 54, .int a1, .int 0], [], M2) Q) ∧ (r1 = 0 → Q (some (.int (-1))) M2))))) : jOk X T0 (d + 1) q_X8_keep [.ref 54, .int a1] M Q := by
  refine jOk.intro (ml := 3) (ls := [.ref 54, .int a1, .null]) (jTl (by decide)) rfl (Nat.le_of_ble_eq_true rfl) rfl hI ?_
  refine jRun.cut (k := jk_X8_keep) rfl 3 (c' := (5, [.ref 54, .int a1, .null], [], (jP M 54 0 0))) (ob := True ∧ True ∧ jKd T0 54 = 8 ∧ True) rfl ⟨trivial, trivial, rfl, trivial⟩ ?_
  refine jRun.nm (fun M1 eM1 => ?_)
  have h := h M1 eM1
  refine jRun.call (k := jk_X8_keep) rfl 5 (f := q_X8_in) (As := [.long a1.toInt64, .long 0, .long 1]) (c1 := (12, [.ref 54, .int a1, .null], [], M1)) (ob := True ∧ True ∧ True ∧ True ∧ True) rfl ⟨trivial, trivial, trivial, trivial, trivial⟩ h (fun v M2 h => ?_)
  obtain ⟨r1, rfl, h⟩ := h
  show jRun X T0 (d + 1) q_X8_keep (12, [.ref 54, .int a1, .null], [.int r1], M2) Q
  refine jRun.cut (k := jk_X8_keep) rfl 1 (c' := (if ¬ r1 = 0 then 17 else 15, [.ref 54, .int a1, .null], [], M2)) (ob := True ∧ True) rfl ⟨trivial, trivial⟩ ?_
  refine jRun.brn (fun g => ?_) (fun g => ?_)
  · have h := h.1 g
    refine jRun.cut (k := jk_X8_keep) rfl 2 (c' := (19, [.ref 54, .int a1, .int 0], [], M2)) (ob := True ∧ True ∧ True) rfl ⟨trivial, trivial, trivial⟩ ?_
    exact h
  · have h := h.2 g
    exact jRun.ret (k := jk_X8_keep) rfl 2 (v := some (.int (-1))) (M1 := M2) (ob := True ∧ True) rfl ⟨trivial, trivial⟩ h
theorem v_X8_keep_19 {X : jX} {d : Nat} (a1 : Int32) (a2 : Int32) (M : jMem) (Q : Option Value → jMem → Prop) (h : ((36 ≤ a2 → jRun X T0 (d + 1) q_X8_keep (50, [.ref 54, .int a1, .int 0], [], M) Q) ∧ (¬ 36 ≤ a2 → vp_in a2 36 ∧ vp_in ((36 * a1) + a2) 72 ∧ (∀ M1, M1 = jP M 64 (((36 * a1) + a2).toNatClampNeg) (M 57 a2.toNatClampNeg) → jRun X T0 (d + 1) q_X8_keep (19, [.ref 54, .int a1, .int (a2 + 1)], [], M1) Q)))) : jRun X T0 (d + 1) q_X8_keep (19, [.ref 54, .int a1, .int a2], [], M) Q := by
  refine jRun.cut (k := jk_X8_keep) rfl 3 (c' := (if 36 ≤ a2 then 48 else 25, [.ref 54, .int a1, .int a2], [], M)) (ob := True ∧ True ∧ True ∧ True) rfl ⟨trivial, trivial, trivial, trivial⟩ ?_
  refine jRun.br (fun g => ?_) (fun g => ?_)
  · have h := h.1 g
    refine jRun.cut (k := jk_X8_keep) rfl 2 (c' := (50, [.ref 54, .int a1, .int 0], [], M)) (ob := True ∧ True ∧ True) rfl ⟨trivial, trivial, trivial⟩ ?_
    exact h
  · have h := h.2 g
    obtain ⟨o1, o2, h⟩ := h
    refine jRun.cut (k := jk_X8_keep) rfl 12 (c' := (42, [.ref 54, .int a1, .int a2], [], (jP M 64 (((36 * a1) + a2).toNatClampNeg) (M 57 a2.toNatClampNeg)))) (ob := True ∧ jKd T0 54 = 8 ∧ True ∧ True ∧ True ∧ True ∧ True ∧ True ∧ jKd T0 54 = 8 ∧ True ∧ (jKd T0 57 = 9 ∧ vp_in a2 36) ∧ (jKd T0 64 = 9 ∧ vp_in ((36 * a1) + a2) 72) ∧ True) rfl ⟨trivial, rfl, trivial, trivial, trivial, trivial, trivial, trivial, rfl, trivial, ⟨rfl, o1⟩, ⟨rfl, o2⟩, trivial⟩ ?_
    refine jRun.nm (fun M1 eM1 => ?_)
    have h := h M1 eM1
    refine jRun.cut (k := jk_X8_keep) rfl 2 (c' := (19, [.ref 54, .int a1, .int (a2 + 1)], [], M1)) (ob := True ∧ True ∧ True) rfl ⟨trivial, trivial, trivial⟩ ?_
    exact h
theorem v_X8_keep_50 {X : jX} {d : Nat} (a1 : Int32) (a2 : Int32) (M : jMem) (Q : Option Value → jMem → Prop) (h : ((360 ≤ a2 → vp_in a1 2 ∧ (∀ M1, M1 = jP M 66 a1.toNatClampNeg (M 54 20) → (∀ M2, M2 = jP M1 63 a1.toNatClampNeg 1 → jOk X T0 d q_X8_isles [.ref 54] M2 (fun v M3 => ∃ r1, v = some (.int r1) ∧ Q (some (.int r1)) M3)))) ∧ (¬ 360 ≤ a2 → vp_in a2 360 ∧ vp_in ((360 * a1) + a2) 720 ∧ (∀ M4, M4 = jP M 65 (((360 * a1) + a2).toNatClampNeg) (M 62 a2.toNatClampNeg) → jRun X T0 (d + 1) q_X8_keep (50, [.ref 54, .int a1, .int (a2 + 1)], [], M4) Q)))) : jRun X T0 (d + 1) q_X8_keep (50, [.ref 54, .int a1, .int a2], [], M) Q := by
  refine jRun.cut (k := jk_X8_keep) rfl 3 (c' := (if 360 ≤ a2 then 81 else 57, [.ref 54, .int a1, .int a2], [], M)) (ob := True ∧ True ∧ True ∧ True) rfl ⟨trivial, trivial, trivial, trivial⟩ ?_
  refine jRun.br (fun g => ?_) (fun g => ?_)
  · have h := h.1 g
    obtain ⟨o1, h⟩ := h
    refine jRun.cut (k := jk_X8_keep) rfl 6 (c' := (91, [.ref 54, .int a1, .int a2], [], (jP M 66 a1.toNatClampNeg (M 54 20)))) (ob := True ∧ jKd T0 54 = 8 ∧ True ∧ True ∧ jKd T0 54 = 8 ∧ (jKd T0 66 = 9 ∧ vp_in a1 2) ∧ True) rfl ⟨trivial, rfl, trivial, trivial, rfl, ⟨rfl, o1⟩, trivial⟩ ?_
    refine jRun.nm (fun M1 eM1 => ?_)
    have h := h M1 eM1
    refine jRun.cut (k := jk_X8_keep) rfl 5 (c' := (98, [.ref 54, .int a1, .int a2], [], (jP M1 63 a1.toNatClampNeg 1))) (ob := True ∧ jKd T0 54 = 8 ∧ True ∧ True ∧ (jKd T0 63 = 10 ∧ vp_in a1 2 ∧ (1 = 0 ∨ 1 = 1)) ∧ True) rfl ⟨trivial, rfl, trivial, trivial, ⟨rfl, o1, (Or.inr rfl)⟩, trivial⟩ ?_
    refine jRun.nm (fun M2 eM2 => ?_)
    have h := h M2 eM2
    refine jRun.call (k := jk_X8_keep) rfl 2 (f := q_X8_isles) (As := [.ref 54]) (c1 := (102, [.ref 54, .int a1, .int a2], [], M2)) (ob := True ∧ jKd T0 54 = 8) rfl ⟨trivial, rfl⟩ h (fun v M3 h => ?_)
    obtain ⟨r1, rfl, h⟩ := h
    show jRun X T0 (d + 1) q_X8_keep (102, [.ref 54, .int a1, .int a2], [.int r1], M3) Q
    exact jRun.ret (k := jk_X8_keep) rfl 1 (v := some (.int r1)) (M1 := M3) (ob := True) rfl trivial h
  · have h := h.2 g
    obtain ⟨o2, o3, h⟩ := h
    refine jRun.cut (k := jk_X8_keep) rfl 12 (c' := (75, [.ref 54, .int a1, .int a2], [], (jP M 65 (((360 * a1) + a2).toNatClampNeg) (M 62 a2.toNatClampNeg)))) (ob := True ∧ jKd T0 54 = 8 ∧ True ∧ True ∧ True ∧ True ∧ True ∧ True ∧ jKd T0 54 = 8 ∧ True ∧ (jKd T0 62 = 9 ∧ vp_in a2 360) ∧ (jKd T0 65 = 9 ∧ vp_in ((360 * a1) + a2) 720) ∧ True) rfl ⟨trivial, rfl, trivial, trivial, trivial, trivial, trivial, trivial, rfl, trivial, ⟨rfl, o2⟩, ⟨rfl, o3⟩, trivial⟩ ?_
    refine jRun.nm (fun M4 eM4 => ?_)
    have h := h M4 eM4
    refine jRun.cut (k := jk_X8_keep) rfl 2 (c' := (50, [.ref 54, .int a1, .int (a2 + 1)], [], M4)) (ob := True ∧ True ∧ True) rfl ⟨trivial, trivial, trivial⟩ ?_
    exact h
theorem v_X8_back {X : jX} {d : Nat} (hI : jInj X T0) (a1 : Int32) (M : jMem) (Q : Option Value → jMem → Prop) (h : (∀ M1, M1 = jP M 54 0 0 → jOk X T0 d q_X8_in [.long a1.toInt64, .long 0, .long 1] M1 (fun v M2 => ∃ r1, v = some (.int r1) ∧ ((¬ r1 = 0 → vp_in a1 2 ∧ ((¬ (M2 63 a1.toNatClampNeg) = 0 → jRun X T0 (d + 1) q_X8_back (31, [.ref 54, .int a1, .int 0], [], M2) Q) ∧ ((M2 63 a1.toNatClampNeg) = 0 → Q (some (.int (-2))) M2))) ∧ (r1 = 0 → Q (some (.int (-1))) M2))))) : jOk X T0 (d + 1) q_X8_back [.ref 54, .int a1] M Q := by
  refine jOk.intro (ml := 3) (ls := [.ref 54, .int a1, .null]) (jTl (by decide)) rfl (Nat.le_of_ble_eq_true rfl) rfl hI ?_
  refine jRun.cut (k := jk_X8_back) rfl 3 (c' := (5, [.ref 54, .int a1, .null], [], (jP M 54 0 0))) (ob := True ∧ True ∧ jKd T0 54 = 8 ∧ True) rfl ⟨trivial, trivial, rfl, trivial⟩ ?_
  refine jRun.nm (fun M1 eM1 => ?_)
  have h := h M1 eM1
  refine jRun.call (k := jk_X8_back) rfl 5 (f := q_X8_in) (As := [.long a1.toInt64, .long 0, .long 1]) (c1 := (12, [.ref 54, .int a1, .null], [], M1)) (ob := True ∧ True ∧ True ∧ True ∧ True) rfl ⟨trivial, trivial, trivial, trivial, trivial⟩ h (fun v M2 h => ?_)
  obtain ⟨r1, rfl, h⟩ := h
  show jRun X T0 (d + 1) q_X8_back (12, [.ref 54, .int a1, .null], [.int r1], M2) Q
  refine jRun.cut (k := jk_X8_back) rfl 1 (c' := (if ¬ r1 = 0 then 17 else 15, [.ref 54, .int a1, .null], [], M2)) (ob := True ∧ True) rfl ⟨trivial, trivial⟩ ?_
  refine jRun.brn (fun g => ?_) (fun g => ?_)
  · have h := h.1 g
    obtain ⟨o1, h⟩ := h
    refine jRun.cut (k := jk_X8_back) rfl 5 (c' := (if ¬ (M2 63 a1.toNatClampNeg) = 0 then 29 else 26, [.ref 54, .int a1, .null], [], M2)) (ob := True ∧ jKd T0 54 = 8 ∧ True ∧ (jKd T0 63 = 10 ∧ vp_in a1 2) ∧ True ∧ True) rfl ⟨trivial, rfl, trivial, ⟨rfl, o1⟩, trivial, trivial⟩ ?_
    refine jRun.brn (fun g => ?_) (fun g => ?_)
    · have h := h.1 g
      refine jRun.cut (k := jk_X8_back) rfl 2 (c' := (31, [.ref 54, .int a1, .int 0], [], M2)) (ob := True ∧ True ∧ True) rfl ⟨trivial, trivial, trivial⟩ ?_
      exact h
    · have h := h.2 g
      exact jRun.ret (k := jk_X8_back) rfl 2 (v := some (.int (-2))) (M1 := M2) (ob := True ∧ True) rfl ⟨trivial, trivial⟩ h
  · have h := h.2 g
    exact jRun.ret (k := jk_X8_back) rfl 2 (v := some (.int (-1))) (M1 := M2) (ob := True ∧ True) rfl ⟨trivial, trivial⟩ h
theorem v_X8_back_31 {X : jX} {d : Nat} (a1 : Int32) (a2 : Int32) (M : jMem) (Q : Option Value → jMem → Prop) (h : ((36 ≤ a2 → jRun X T0 (d + 1) q_X8_back (62, [.ref 54, .int a1, .int 0], [], M) Q) ∧ (¬ 36 ≤ a2 → vp_in ((36 * a1) + a2) 72 ∧ vp_in a2 36 ∧ (∀ M1, M1 = jP M 57 a2.toNatClampNeg (M 64 ((36 * a1) + a2).toNatClampNeg) → jRun X T0 (d + 1) q_X8_back (31, [.ref 54, .int a1, .int (a2 + 1)], [], M1) Q)))) : jRun X T0 (d + 1) q_X8_back (31, [.ref 54, .int a1, .int a2], [], M) Q := by
  refine jRun.cut (k := jk_X8_back) rfl 3 (c' := (if 36 ≤ a2 then 60 else 37, [.ref 54, .int a1, .int a2], [], M)) (ob := True ∧ True ∧ True ∧ True) rfl ⟨trivial, trivial, trivial, trivial⟩ ?_
  refine jRun.br (fun g => ?_) (fun g => ?_)
  · have h := h.1 g
    refine jRun.cut (k := jk_X8_back) rfl 2 (c' := (62, [.ref 54, .int a1, .int 0], [], M)) (ob := True ∧ True ∧ True) rfl ⟨trivial, trivial, trivial⟩ ?_
    exact h
  · have h := h.2 g
    obtain ⟨o1, o2, h⟩ := h
    refine jRun.cut (k := jk_X8_back) rfl 12 (c' := (54, [.ref 54, .int a1, .int a2], [], (jP M 57 a2.toNatClampNeg (M 64 ((36 * a1) + a2).toNatClampNeg)))) (ob := True ∧ jKd T0 54 = 8 ∧ True ∧ True ∧ jKd T0 54 = 8 ∧ True ∧ True ∧ True ∧ True ∧ True ∧ (jKd T0 64 = 9 ∧ vp_in ((36 * a1) + a2) 72) ∧ (jKd T0 57 = 9 ∧ vp_in a2 36) ∧ True) rfl ⟨trivial, rfl, trivial, trivial, rfl, trivial, trivial, trivial, trivial, trivial, ⟨rfl, o1⟩, ⟨rfl, o2⟩, trivial⟩ ?_
    refine jRun.nm (fun M1 eM1 => ?_)
    have h := h M1 eM1
    refine jRun.cut (k := jk_X8_back) rfl 2 (c' := (31, [.ref 54, .int a1, .int (a2 + 1)], [], M1)) (ob := True ∧ True ∧ True) rfl ⟨trivial, trivial, trivial⟩ ?_
    exact h
theorem v_X8_back_62 {X : jX} {d : Nat} (a1 : Int32) (a2 : Int32) (M : jMem) (Q : Option Value → jMem → Prop) (h : ((360 ≤ a2 → vp_in a1 2 ∧ (∀ M1, M1 = jP M 54 20 (M 66 a1.toNatClampNeg) → jOk X T0 d q_X8_isles [.ref 54] M1 (fun v M2 => ∃ r1, v = some (.int r1) ∧ Q (some (.int r1)) M2))) ∧ (¬ 360 ≤ a2 → vp_in ((360 * a1) + a2) 720 ∧ vp_in a2 360 ∧ (∀ M3, M3 = jP M 62 a2.toNatClampNeg (M 65 ((360 * a1) + a2).toNatClampNeg) → jRun X T0 (d + 1) q_X8_back (62, [.ref 54, .int a1, .int (a2 + 1)], [], M3) Q)))) : jRun X T0 (d + 1) q_X8_back (62, [.ref 54, .int a1, .int a2], [], M) Q := by
  refine jRun.cut (k := jk_X8_back) rfl 3 (c' := (if 360 ≤ a2 then 93 else 69, [.ref 54, .int a1, .int a2], [], M)) (ob := True ∧ True ∧ True ∧ True) rfl ⟨trivial, trivial, trivial, trivial⟩ ?_
  refine jRun.br (fun g => ?_) (fun g => ?_)
  · have h := h.1 g
    obtain ⟨o1, h⟩ := h
    refine jRun.cut (k := jk_X8_back) rfl 6 (c' := (103, [.ref 54, .int a1, .int a2], [], (jP M 54 20 (M 66 a1.toNatClampNeg)))) (ob := True ∧ True ∧ jKd T0 54 = 8 ∧ True ∧ (jKd T0 66 = 9 ∧ vp_in a1 2) ∧ jKd T0 54 = 8 ∧ True) rfl ⟨trivial, trivial, rfl, trivial, ⟨rfl, o1⟩, rfl, trivial⟩ ?_
    refine jRun.nm (fun M1 eM1 => ?_)
    have h := h M1 eM1
    refine jRun.call (k := jk_X8_back) rfl 2 (f := q_X8_isles) (As := [.ref 54]) (c1 := (107, [.ref 54, .int a1, .int a2], [], M1)) (ob := True ∧ jKd T0 54 = 8) rfl ⟨trivial, rfl⟩ h (fun v M2 h => ?_)
    obtain ⟨r1, rfl, h⟩ := h
    show jRun X T0 (d + 1) q_X8_back (107, [.ref 54, .int a1, .int a2], [.int r1], M2) Q
    exact jRun.ret (k := jk_X8_back) rfl 1 (v := some (.int r1)) (M1 := M2) (ob := True) rfl trivial h
  · have h := h.2 g
    obtain ⟨o2, o3, h⟩ := h
    refine jRun.cut (k := jk_X8_back) rfl 12 (c' := (87, [.ref 54, .int a1, .int a2], [], (jP M 62 a2.toNatClampNeg (M 65 ((360 * a1) + a2).toNatClampNeg)))) (ob := True ∧ jKd T0 54 = 8 ∧ True ∧ True ∧ jKd T0 54 = 8 ∧ True ∧ True ∧ True ∧ True ∧ True ∧ (jKd T0 65 = 9 ∧ vp_in ((360 * a1) + a2) 720) ∧ (jKd T0 62 = 9 ∧ vp_in a2 360) ∧ True) rfl ⟨trivial, rfl, trivial, trivial, rfl, trivial, trivial, trivial, trivial, trivial, ⟨rfl, o2⟩, ⟨rfl, o3⟩, trivial⟩ ?_
    refine jRun.nm (fun M3 eM3 => ?_)
    have h := h M3 eM3
    refine jRun.cut (k := jk_X8_back) rfl 2 (c' := (62, [.ref 54, .int a1, .int (a2 + 1)], [], M3)) (ob := True ∧ True ∧ True) rfl ⟨trivial, trivial, trivial⟩ ?_
    exact h
theorem v_X8_count {X : jX} {d : Nat} (hI : jInj X T0) (a1 : Int32) (M : jMem) (Q : Option Value → jMem → Prop) (h : (∀ M1, M1 = jP M 54 0 0 → ((a1 = 0 → Q (some (.int (M1 54 7))) M1) ∧ (¬ a1 = 0 → ((a1 = 1 → Q (some (.int (M1 54 12))) M1) ∧ (¬ a1 = 1 → ((a1 = 2 → Q (some (.int (M1 54 14))) M1) ∧ (¬ a1 = 2 → ((a1 = 3 → Q (some (.int (M1 54 16))) M1) ∧ (¬ a1 = 3 → ((a1 = 4 → Q (some (.int (M1 54 18))) M1) ∧ (¬ a1 = 4 → ((a1 = 5 → Q (some (.int (M1 54 8))) M1) ∧ (¬ a1 = 5 → ((a1 = 6 → jOk X T0 d q_X8_isles [.ref 54] M1 (fun v M2 => ∃ r1, v = some (.int r1) ∧ Q (some (.int r1)) M2)) ∧ (¬ a1 = 6 → ((a1 = 7 → Q (some (.int (M1 54 20))) M1) ∧ (¬ a1 = 7 → ((a1 = 8 → Q (some (.int (M1 54 2))) M1) ∧ (¬ a1 = 8 → Q (some (.int (-1))) M1)))))))))))))))))))) : jOk X T0 (d + 1) q_X8_count [.ref 54, .int a1] M Q := by
  refine jOk.intro (ml := 2) (ls := [.ref 54, .int a1]) (jTl (by decide)) rfl (Nat.le_of_ble_eq_true rfl) rfl hI ?_
  refine jRun.cut (k := jk_X8_count) rfl 3 (c' := (5, [.ref 54, .int a1], [], (jP M 54 0 0))) (ob := True ∧ True ∧ jKd T0 54 = 8 ∧ True) rfl ⟨trivial, trivial, rfl, trivial⟩ ?_
  refine jRun.nm (fun M1 eM1 => ?_)
  have h := h M1 eM1
  refine jRun.cut (k := jk_X8_count) rfl 2 (c' := (if a1 = 0 then 56 else if a1 = 1 then 61 else if a1 = 2 then 66 else if a1 = 3 then 71 else if a1 = 4 then 76 else if a1 = 5 then 81 else if a1 = 6 then 86 else if a1 = 7 then 91 else if a1 = 8 then 96 else 101, [.ref 54, .int a1], [], M1)) (ob := True ∧ True ∧ True) rfl ⟨trivial, trivial, trivial⟩ ?_
  refine jRun.br (fun g => ?_) (fun g => ?_)
  · have h := h.1 g
    exact jRun.ret (k := jk_X8_count) rfl 3 (v := some (.int (M1 54 7))) (M1 := M1) (ob := True ∧ jKd T0 54 = 8 ∧ True) rfl ⟨trivial, rfl, trivial⟩ h
  · have h := h.2 g
    refine jRun.br (fun g => ?_) (fun g => ?_)
    · have h := h.1 g
      exact jRun.ret (k := jk_X8_count) rfl 3 (v := some (.int (M1 54 12))) (M1 := M1) (ob := True ∧ jKd T0 54 = 8 ∧ True) rfl ⟨trivial, rfl, trivial⟩ h
    · have h := h.2 g
      refine jRun.br (fun g => ?_) (fun g => ?_)
      · have h := h.1 g
        exact jRun.ret (k := jk_X8_count) rfl 3 (v := some (.int (M1 54 14))) (M1 := M1) (ob := True ∧ jKd T0 54 = 8 ∧ True) rfl ⟨trivial, rfl, trivial⟩ h
      · have h := h.2 g
        refine jRun.br (fun g => ?_) (fun g => ?_)
        · have h := h.1 g
          exact jRun.ret (k := jk_X8_count) rfl 3 (v := some (.int (M1 54 16))) (M1 := M1) (ob := True ∧ jKd T0 54 = 8 ∧ True) rfl ⟨trivial, rfl, trivial⟩ h
        · have h := h.2 g
          refine jRun.br (fun g => ?_) (fun g => ?_)
          · have h := h.1 g
            exact jRun.ret (k := jk_X8_count) rfl 3 (v := some (.int (M1 54 18))) (M1 := M1) (ob := True ∧ jKd T0 54 = 8 ∧ True) rfl ⟨trivial, rfl, trivial⟩ h
          · have h := h.2 g
            refine jRun.br (fun g => ?_) (fun g => ?_)
            · have h := h.1 g
              exact jRun.ret (k := jk_X8_count) rfl 3 (v := some (.int (M1 54 8))) (M1 := M1) (ob := True ∧ jKd T0 54 = 8 ∧ True) rfl ⟨trivial, rfl, trivial⟩ h
            · have h := h.2 g
              refine jRun.br (fun g => ?_) (fun g => ?_)
              · have h := h.1 g
                refine jRun.call (k := jk_X8_count) rfl 2 (f := q_X8_isles) (As := [.ref 54]) (c1 := (90, [.ref 54, .int a1], [], M1)) (ob := True ∧ jKd T0 54 = 8) rfl ⟨trivial, rfl⟩ h (fun v M2 h => ?_)
                obtain ⟨r1, rfl, h⟩ := h
                show jRun X T0 (d + 1) q_X8_count (90, [.ref 54, .int a1], [.int r1], M2) Q
                exact jRun.ret (k := jk_X8_count) rfl 1 (v := some (.int r1)) (M1 := M2) (ob := True) rfl trivial h
              · have h := h.2 g
                refine jRun.br (fun g => ?_) (fun g => ?_)
                · have h := h.1 g
                  exact jRun.ret (k := jk_X8_count) rfl 3 (v := some (.int (M1 54 20))) (M1 := M1) (ob := True ∧ jKd T0 54 = 8 ∧ True) rfl ⟨trivial, rfl, trivial⟩ h
                · have h := h.2 g
                  refine jRun.br (fun g => ?_) (fun g => ?_)
                  · have h := h.1 g
                    exact jRun.ret (k := jk_X8_count) rfl 3 (v := some (.int (M1 54 2))) (M1 := M1) (ob := True ∧ jKd T0 54 = 8 ∧ True) rfl ⟨trivial, rfl, trivial⟩ h
                  · have h := h.2 g
                    exact jRun.ret (k := jk_X8_count) rfl 2 (v := some (.int (-1))) (M1 := M1) (ob := True ∧ True) rfl ⟨trivial, trivial⟩ h
theorem v_J6_bitCount_0f7a4 {X : jX} {d : Nat} (hI : jInj X T0) (a0 : Int32) (M : jMem) (Q : Option Value → jMem → Prop) (h : Q (some (.int ((((((((a0 - (((a0.toUInt32 >>> ((1 : Int32).toUInt32 &&& Int32.toUInt32 31)).toInt32) &&& 1431655765)) &&& 858993459) + ((((a0 - (((a0.toUInt32 >>> ((1 : Int32).toUInt32 &&& Int32.toUInt32 31)).toInt32) &&& 1431655765)).toUInt32 >>> ((2 : Int32).toUInt32 &&& Int32.toUInt32 31)).toInt32) &&& 858993459)) + (((((a0 - (((a0.toUInt32 >>> ((1 : Int32).toUInt32 &&& Int32.toUInt32 31)).toInt32) &&& 1431655765)) &&& 858993459) + ((((a0 - (((a0.toUInt32 >>> ((1 : Int32).toUInt32 &&& Int32.toUInt32 31)).toInt32) &&& 1431655765)).toUInt32 >>> ((2 : Int32).toUInt32 &&& Int32.toUInt32 31)).toInt32) &&& 858993459)).toUInt32 >>> ((4 : Int32).toUInt32 &&& Int32.toUInt32 31)).toInt32)) &&& 252645135) + (((((((a0 - (((a0.toUInt32 >>> ((1 : Int32).toUInt32 &&& Int32.toUInt32 31)).toInt32) &&& 1431655765)) &&& 858993459) + ((((a0 - (((a0.toUInt32 >>> ((1 : Int32).toUInt32 &&& Int32.toUInt32 31)).toInt32) &&& 1431655765)).toUInt32 >>> ((2 : Int32).toUInt32 &&& Int32.toUInt32 31)).toInt32) &&& 858993459)) + (((((a0 - (((a0.toUInt32 >>> ((1 : Int32).toUInt32 &&& Int32.toUInt32 31)).toInt32) &&& 1431655765)) &&& 858993459) + ((((a0 - (((a0.toUInt32 >>> ((1 : Int32).toUInt32 &&& Int32.toUInt32 31)).toInt32) &&& 1431655765)).toUInt32 >>> ((2 : Int32).toUInt32 &&& Int32.toUInt32 31)).toInt32) &&& 858993459)).toUInt32 >>> ((4 : Int32).toUInt32 &&& Int32.toUInt32 31)).toInt32)) &&& 252645135).toUInt32 >>> ((8 : Int32).toUInt32 &&& Int32.toUInt32 31)).toInt32)) + ((((((((a0 - (((a0.toUInt32 >>> ((1 : Int32).toUInt32 &&& Int32.toUInt32 31)).toInt32) &&& 1431655765)) &&& 858993459) + ((((a0 - (((a0.toUInt32 >>> ((1 : Int32).toUInt32 &&& Int32.toUInt32 31)).toInt32) &&& 1431655765)).toUInt32 >>> ((2 : Int32).toUInt32 &&& Int32.toUInt32 31)).toInt32) &&& 858993459)) + (((((a0 - (((a0.toUInt32 >>> ((1 : Int32).toUInt32 &&& Int32.toUInt32 31)).toInt32) &&& 1431655765)) &&& 858993459) + ((((a0 - (((a0.toUInt32 >>> ((1 : Int32).toUInt32 &&& Int32.toUInt32 31)).toInt32) &&& 1431655765)).toUInt32 >>> ((2 : Int32).toUInt32 &&& Int32.toUInt32 31)).toInt32) &&& 858993459)).toUInt32 >>> ((4 : Int32).toUInt32 &&& Int32.toUInt32 31)).toInt32)) &&& 252645135) + (((((((a0 - (((a0.toUInt32 >>> ((1 : Int32).toUInt32 &&& Int32.toUInt32 31)).toInt32) &&& 1431655765)) &&& 858993459) + ((((a0 - (((a0.toUInt32 >>> ((1 : Int32).toUInt32 &&& Int32.toUInt32 31)).toInt32) &&& 1431655765)).toUInt32 >>> ((2 : Int32).toUInt32 &&& Int32.toUInt32 31)).toInt32) &&& 858993459)) + (((((a0 - (((a0.toUInt32 >>> ((1 : Int32).toUInt32 &&& Int32.toUInt32 31)).toInt32) &&& 1431655765)) &&& 858993459) + ((((a0 - (((a0.toUInt32 >>> ((1 : Int32).toUInt32 &&& Int32.toUInt32 31)).toInt32) &&& 1431655765)).toUInt32 >>> ((2 : Int32).toUInt32 &&& Int32.toUInt32 31)).toInt32) &&& 858993459)).toUInt32 >>> ((4 : Int32).toUInt32 &&& Int32.toUInt32 31)).toInt32)) &&& 252645135).toUInt32 >>> ((8 : Int32).toUInt32 &&& Int32.toUInt32 31)).toInt32)).toUInt32 >>> ((16 : Int32).toUInt32 &&& Int32.toUInt32 31)).toInt32)) &&& 63))) M) : jOk X T0 d q_J6_bitCount_0f7a4 [.int a0] M Q := by
  refine jOk.intro (ml := 1) (ls := [.int a0]) (jTl (by decide)) rfl (Nat.le_of_ble_eq_true rfl) rfl hI ?_
  exact jRun.ret (k := jk_J6_bitCount_0f7a4) rfl 42 (v := some (.int ((((((((a0 - (((a0.toUInt32 >>> ((1 : Int32).toUInt32 &&& Int32.toUInt32 31)).toInt32) &&& 1431655765)) &&& 858993459) + ((((a0 - (((a0.toUInt32 >>> ((1 : Int32).toUInt32 &&& Int32.toUInt32 31)).toInt32) &&& 1431655765)).toUInt32 >>> ((2 : Int32).toUInt32 &&& Int32.toUInt32 31)).toInt32) &&& 858993459)) + (((((a0 - (((a0.toUInt32 >>> ((1 : Int32).toUInt32 &&& Int32.toUInt32 31)).toInt32) &&& 1431655765)) &&& 858993459) + ((((a0 - (((a0.toUInt32 >>> ((1 : Int32).toUInt32 &&& Int32.toUInt32 31)).toInt32) &&& 1431655765)).toUInt32 >>> ((2 : Int32).toUInt32 &&& Int32.toUInt32 31)).toInt32) &&& 858993459)).toUInt32 >>> ((4 : Int32).toUInt32 &&& Int32.toUInt32 31)).toInt32)) &&& 252645135) + (((((((a0 - (((a0.toUInt32 >>> ((1 : Int32).toUInt32 &&& Int32.toUInt32 31)).toInt32) &&& 1431655765)) &&& 858993459) + ((((a0 - (((a0.toUInt32 >>> ((1 : Int32).toUInt32 &&& Int32.toUInt32 31)).toInt32) &&& 1431655765)).toUInt32 >>> ((2 : Int32).toUInt32 &&& Int32.toUInt32 31)).toInt32) &&& 858993459)) + (((((a0 - (((a0.toUInt32 >>> ((1 : Int32).toUInt32 &&& Int32.toUInt32 31)).toInt32) &&& 1431655765)) &&& 858993459) + ((((a0 - (((a0.toUInt32 >>> ((1 : Int32).toUInt32 &&& Int32.toUInt32 31)).toInt32) &&& 1431655765)).toUInt32 >>> ((2 : Int32).toUInt32 &&& Int32.toUInt32 31)).toInt32) &&& 858993459)).toUInt32 >>> ((4 : Int32).toUInt32 &&& Int32.toUInt32 31)).toInt32)) &&& 252645135).toUInt32 >>> ((8 : Int32).toUInt32 &&& Int32.toUInt32 31)).toInt32)) + ((((((((a0 - (((a0.toUInt32 >>> ((1 : Int32).toUInt32 &&& Int32.toUInt32 31)).toInt32) &&& 1431655765)) &&& 858993459) + ((((a0 - (((a0.toUInt32 >>> ((1 : Int32).toUInt32 &&& Int32.toUInt32 31)).toInt32) &&& 1431655765)).toUInt32 >>> ((2 : Int32).toUInt32 &&& Int32.toUInt32 31)).toInt32) &&& 858993459)) + (((((a0 - (((a0.toUInt32 >>> ((1 : Int32).toUInt32 &&& Int32.toUInt32 31)).toInt32) &&& 1431655765)) &&& 858993459) + ((((a0 - (((a0.toUInt32 >>> ((1 : Int32).toUInt32 &&& Int32.toUInt32 31)).toInt32) &&& 1431655765)).toUInt32 >>> ((2 : Int32).toUInt32 &&& Int32.toUInt32 31)).toInt32) &&& 858993459)).toUInt32 >>> ((4 : Int32).toUInt32 &&& Int32.toUInt32 31)).toInt32)) &&& 252645135) + (((((((a0 - (((a0.toUInt32 >>> ((1 : Int32).toUInt32 &&& Int32.toUInt32 31)).toInt32) &&& 1431655765)) &&& 858993459) + ((((a0 - (((a0.toUInt32 >>> ((1 : Int32).toUInt32 &&& Int32.toUInt32 31)).toInt32) &&& 1431655765)).toUInt32 >>> ((2 : Int32).toUInt32 &&& Int32.toUInt32 31)).toInt32) &&& 858993459)) + (((((a0 - (((a0.toUInt32 >>> ((1 : Int32).toUInt32 &&& Int32.toUInt32 31)).toInt32) &&& 1431655765)) &&& 858993459) + ((((a0 - (((a0.toUInt32 >>> ((1 : Int32).toUInt32 &&& Int32.toUInt32 31)).toInt32) &&& 1431655765)).toUInt32 >>> ((2 : Int32).toUInt32 &&& Int32.toUInt32 31)).toInt32) &&& 858993459)).toUInt32 >>> ((4 : Int32).toUInt32 &&& Int32.toUInt32 31)).toInt32)) &&& 252645135).toUInt32 >>> ((8 : Int32).toUInt32 &&& Int32.toUInt32 31)).toInt32)).toUInt32 >>> ((16 : Int32).toUInt32 &&& Int32.toUInt32 31)).toInt32)) &&& 63))) (M1 := M) (ob := True ∧ True ∧ True ∧ True ∧ True ∧ True ∧ True ∧ True ∧ True ∧ True ∧ True ∧ True ∧ True ∧ True ∧ True ∧ True ∧ True ∧ True ∧ True ∧ True ∧ True ∧ True ∧ True ∧ True ∧ True ∧ True ∧ True ∧ True ∧ True ∧ True ∧ True ∧ True ∧ True ∧ True ∧ True ∧ True ∧ True ∧ True ∧ True ∧ True ∧ True ∧ True) rfl ⟨trivial, trivial, trivial, trivial, trivial, trivial, trivial, trivial, trivial, trivial, trivial, trivial, trivial, trivial, trivial, trivial, trivial, trivial, trivial, trivial, trivial, trivial, trivial, trivial, trivial, trivial, trivial, trivial, trivial, trivial, trivial, trivial, trivial, trivial, trivial, trivial, trivial, trivial, trivial, trivial, trivial, trivial⟩ h
