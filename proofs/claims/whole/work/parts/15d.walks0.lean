theorem v_X6_take {X : jX} {d : Nat} (hI : jInj X T0) (a1 : Int32) (M : jMem) (Q : Option Value → jMem → Prop) (h : (((M 1 1) < 0 → Q none M) ∧ (¬ (M 1 1) < 0 → (((M 1 1) < 150 → vp_in (M 1 1) 150 ∧ (∀ M1, M1 = jP M 2 ((M 1 1).toNatClampNeg) a1 → (∀ M2, M2 = jP M1 1 1 ((M1 1 1) + 1) → Q none M2))) ∧ (¬ (M 1 1) < 150 → Q none M))))) : jOk X T0 d q_X6_take [.ref 1, .int a1] M Q := by
  refine jOk.intro (ml := 2) (ls := [.ref 1, .int a1]) (jTl (by decide)) rfl (Nat.le_of_ble_eq_true rfl) rfl hI ?_
  refine jRun.cut (k := jk_X6_take) rfl 3 (c' := (if (M 1 1) < 0 then 19 else 7, [.ref 1, .int a1], [], M)) (ob := True ∧ jKd T0 1 = 6 ∧ True ∧ True) rfl ⟨trivial, rfl, trivial, trivial⟩ ?_
  refine jRun.br (fun g => ?_) (fun g => ?_)
  · have h := h.1 g
    exact jRun.ret (k := jk_X6_take) rfl 1 (v := none) (M1 := M) (ob := True) rfl trivial h
  · have h := h.2 g
    refine jRun.cut (k := jk_X6_take) rfl 6 (c' := (if (M 1 1) < 150 then 20 else 19, [.ref 1, .int a1], [], M)) (ob := True ∧ jKd T0 1 = 6 ∧ True ∧ jKd T0 1 = 6 ∧ jKd T0 2 = 9 ∧ True ∧ True) rfl ⟨trivial, rfl, trivial, rfl, rfl, trivial, trivial⟩ ?_
    refine jRun.br (fun g => ?_) (fun g => ?_)
    · have h := h.1 g
      obtain ⟨o1, h⟩ := h
      refine jRun.cut (k := jk_X6_take) rfl 6 (c' := (30, [.ref 1, .int a1], [], (jP M 2 ((M 1 1).toNatClampNeg) a1))) (ob := True ∧ jKd T0 1 = 6 ∧ True ∧ jKd T0 1 = 6 ∧ True ∧ (jKd T0 2 = 9 ∧ vp_in (M 1 1) 150) ∧ True) rfl ⟨trivial, rfl, trivial, rfl, trivial, ⟨rfl, o1⟩, trivial⟩ ?_
      refine jRun.nm (fun M1 eM1 => ?_)
      have h := h M1 eM1
      refine jRun.cut (k := jk_X6_take) rfl 6 (c' := (40, [.ref 1, .int a1], [], (jP M1 1 1 ((M1 1 1) + 1)))) (ob := True ∧ True ∧ jKd T0 1 = 6 ∧ True ∧ True ∧ jKd T0 1 = 6 ∧ True) rfl ⟨trivial, trivial, rfl, trivial, trivial, rfl, trivial⟩ ?_
      refine jRun.nm (fun M2 eM2 => ?_)
      have h := h M2 eM2
      exact jRun.ret (k := jk_X6_take) rfl 1 (v := none) (M1 := M2) (ob := True) rfl trivial h
    · have h := h.2 g
      exact jRun.ret (k := jk_X6_take) rfl 1 (v := none) (M1 := M) (ob := True) rfl trivial h
theorem v_X6_begin {X : jX} {d : Nat} (hI : jInj X T0)  (M : jMem) (Q : Option Value → jMem → Prop) (h : (∀ M1, M1 = jP M 1 4 0 → jOk X T0 d q_X6_next [.ref 1] M1 (fun v M2 => v = none ∧ Q none M2))) : jOk X T0 (d + 1) q_X6_begin [.ref 1] M Q := by
  refine jOk.intro (ml := 1) (ls := [.ref 1]) (jTl (by decide)) rfl (Nat.le_of_ble_eq_true rfl) rfl hI ?_
  refine jRun.cut (k := jk_X6_begin) rfl 3 (c' := (5, [.ref 1], [], (jP M 1 4 0))) (ob := True ∧ True ∧ jKd T0 1 = 6 ∧ True) rfl ⟨trivial, trivial, rfl, trivial⟩ ?_
  refine jRun.nm (fun M1 eM1 => ?_)
  have h := h M1 eM1
  refine jRun.call (k := jk_X6_begin) rfl 2 (f := q_X6_next) (As := [.ref 1]) (c1 := (9, [.ref 1], [], M1)) (ob := True ∧ jKd T0 1 = 6) rfl ⟨trivial, rfl⟩ h (fun v M2 h => ?_)
  obtain ⟨rfl, h⟩ := h
  show jRun X T0 (d + 1) q_X6_begin (9, [.ref 1], [], M2) Q
  exact jRun.ret (k := jk_X6_begin) rfl 1 (v := none) (M1 := M2) (ob := True) rfl trivial h
theorem v_X6_next {X : jX} {d : Nat} (hI : jInj X T0)  (M : jMem) (Q : Option Value → jMem → Prop) (h : jRun X T0 (d + 1) q_X6_next (0, [.ref 1], [], M) Q) : jOk X T0 (d + 1) q_X6_next [.ref 1] M Q :=
  jOk.intro (ml := 1) (ls := [.ref 1]) (jTl (by decide)) rfl (Nat.le_of_ble_eq_true rfl) rfl hI h
theorem v_X6_next_0 {X : jX} {d : Nat}  (M : jMem) (Q : Option Value → jMem → Prop) (h : (((M 1 1) ≤ (M 1 4) → (∀ M1, M1 = jP M 1 2 (M 1 4) → (((M1 1 4) < (M1 1 1) → vp_in (M1 1 4) 150 ∧ jOk X T0 d q_X6_isLetter [.int (M1 2 (M1 1 4).toNatClampNeg)] M1 (fun v M2 => ∃ r1, v = some (.int r1) ∧ ((r1 = 0 → vp_in (M2 1 4) 150 ∧ jOk X T0 d q_X6_isDigit [.int (M2 2 (M2 1 4).toNatClampNeg)] M2 (fun v M3 => ∃ r2, v = some (.int r2) ∧ ((r2 = 0 → vp_in (M3 1 4) 150 ∧ ((¬ (M3 2 (M3 1 4).toNatClampNeg) = 59 → (∀ M4, M4 = jP M3 1 3 4 → (∀ M5, M5 = jP M4 1 4 ((M4 1 4) + 1) → Q none M5))) ∧ ((M3 2 (M3 1 4).toNatClampNeg) = 59 → (∀ M6, M6 = jP M3 1 3 3 → (∀ M7, M7 = jP M6 1 4 ((M6 1 4) + 1) → Q none M7))))) ∧ (¬ r2 = 0 → jOk X T0 d q_X6_readNumber [.ref 1] M3 (fun v M8 => v = none ∧ Q none M8))))) ∧ (¬ r1 = 0 → jOk X T0 d q_X6_readWord [.ref 1] M2 (fun v M9 => v = none ∧ Q none M9))))) ∧ (¬ (M1 1 4) < (M1 1 1) → (∀ M10, M10 = jP M1 1 3 0 → Q none M10))))) ∧ (¬ (M 1 1) ≤ (M 1 4) → vp_in (M 1 4) 150 ∧ ((¬ (M 2 (M 1 4).toNatClampNeg) = 32 → (∀ M11, M11 = jP M 1 2 (M 1 4) → (((M11 1 4) < (M11 1 1) → vp_in (M11 1 4) 150 ∧ jOk X T0 d q_X6_isLetter [.int (M11 2 (M11 1 4).toNatClampNeg)] M11 (fun v M12 => ∃ r5, v = some (.int r5) ∧ ((r5 = 0 → vp_in (M12 1 4) 150 ∧ jOk X T0 d q_X6_isDigit [.int (M12 2 (M12 1 4).toNatClampNeg)] M12 (fun v M13 => ∃ r6, v = some (.int r6) ∧ ((r6 = 0 → vp_in (M13 1 4) 150 ∧ ((¬ (M13 2 (M13 1 4).toNatClampNeg) = 59 → (∀ M14, M14 = jP M13 1 3 4 → (∀ M15, M15 = jP M14 1 4 ((M14 1 4) + 1) → Q none M15))) ∧ ((M13 2 (M13 1 4).toNatClampNeg) = 59 → (∀ M16, M16 = jP M13 1 3 3 → (∀ M17, M17 = jP M16 1 4 ((M16 1 4) + 1) → Q none M17))))) ∧ (¬ r6 = 0 → jOk X T0 d q_X6_readNumber [.ref 1] M13 (fun v M18 => v = none ∧ Q none M18))))) ∧ (¬ r5 = 0 → jOk X T0 d q_X6_readWord [.ref 1] M12 (fun v M19 => v = none ∧ Q none M19))))) ∧ (¬ (M11 1 4) < (M11 1 1) → (∀ M20, M20 = jP M11 1 3 0 → Q none M20))))) ∧ ((M 2 (M 1 4).toNatClampNeg) = 32 → (∀ M21, M21 = jP M 1 4 ((M 1 4) + 1) → jRun X T0 (d + 1) q_X6_next (0, [.ref 1], [], M21) Q)))))) : jRun X T0 (d + 1) q_X6_next (0, [.ref 1], [], M) Q := by
  refine jRun.cut (k := jk_X6_next) rfl 5 (c' := (if (M 1 1) ≤ (M 1 4) then 38 else 11, [.ref 1], [], M)) (ob := True ∧ jKd T0 1 = 6 ∧ True ∧ jKd T0 1 = 6 ∧ True ∧ True) rfl ⟨trivial, rfl, trivial, rfl, trivial, trivial⟩ ?_
  refine jRun.br (fun g => ?_) (fun g => ?_)
  · have h := h.1 g
    refine jRun.cut (k := jk_X6_next) rfl 4 (c' := (46, [.ref 1], [], (jP M 1 2 (M 1 4)))) (ob := True ∧ True ∧ jKd T0 1 = 6 ∧ jKd T0 1 = 6 ∧ True) rfl ⟨trivial, trivial, rfl, rfl, trivial⟩ ?_
    refine jRun.nm (fun M1 eM1 => ?_)
    have h := h M1 eM1
    refine jRun.cut (k := jk_X6_next) rfl 5 (c' := (if (M1 1 4) < (M1 1 1) then 65 else 57, [.ref 1], [], M1)) (ob := True ∧ jKd T0 1 = 6 ∧ True ∧ jKd T0 1 = 6 ∧ True ∧ True) rfl ⟨trivial, rfl, trivial, rfl, trivial, trivial⟩ ?_
    refine jRun.br (fun g => ?_) (fun g => ?_)
    · have h := h.1 g
      obtain ⟨o1, h⟩ := h
      refine jRun.call (k := jk_X6_next) rfl 6 (f := q_X6_isLetter) (As := [.int (M1 2 (M1 1 4).toNatClampNeg)]) (c1 := (77, [.ref 1], [], M1)) (ob := True ∧ jKd T0 1 = 6 ∧ True ∧ jKd T0 1 = 6 ∧ (jKd T0 2 = 9 ∧ vp_in (M1 1 4) 150) ∧ True) rfl ⟨trivial, rfl, trivial, rfl, ⟨rfl, o1⟩, trivial⟩ h (fun v M2 h => ?_)
      obtain ⟨r1, rfl, h⟩ := h
      show jRun X T0 (d + 1) q_X6_next (77, [.ref 1], [.int r1], M2) Q
      refine jRun.cut (k := jk_X6_next) rfl 1 (c' := (if r1 = 0 then 87 else 80, [.ref 1], [], M2)) (ob := True ∧ True) rfl ⟨trivial, trivial⟩ ?_
      refine jRun.br (fun g => ?_) (fun g => ?_)
      · have h := h.1 g
        obtain ⟨o2, h⟩ := h
        refine jRun.call (k := jk_X6_next) rfl 6 (f := q_X6_isDigit) (As := [.int (M2 2 (M2 1 4).toNatClampNeg)]) (c1 := (99, [.ref 1], [], M2)) (ob := True ∧ jKd T0 1 = 6 ∧ True ∧ jKd T0 1 = 6 ∧ (jKd T0 2 = 9 ∧ vp_in (M2 1 4) 150) ∧ True) rfl ⟨trivial, rfl, trivial, rfl, ⟨rfl, o2⟩, trivial⟩ h (fun v M3 h => ?_)
        obtain ⟨r2, rfl, h⟩ := h
        show jRun X T0 (d + 1) q_X6_next (99, [.ref 1], [.int r2], M3) Q
        refine jRun.cut (k := jk_X6_next) rfl 1 (c' := (if r2 = 0 then 109 else 102, [.ref 1], [], M3)) (ob := True ∧ True) rfl ⟨trivial, trivial⟩ ?_
        refine jRun.br (fun g => ?_) (fun g => ?_)
        · have h := h.1 g
          obtain ⟨o3, h⟩ := h
          refine jRun.cut (k := jk_X6_next) rfl 8 (c' := (if ¬ (M3 2 (M3 1 4).toNatClampNeg) = 59 then 128 else 124, [.ref 1], [.ref 1], M3)) (ob := True ∧ True ∧ jKd T0 1 = 6 ∧ True ∧ jKd T0 1 = 6 ∧ (jKd T0 2 = 9 ∧ vp_in (M3 1 4) 150) ∧ True ∧ True ∧ True) rfl ⟨trivial, trivial, rfl, trivial, rfl, ⟨rfl, o3⟩, trivial, trivial, trivial⟩ ?_
          refine jRun.brn (fun g => ?_) (fun g => ?_)
          · have h := h.1 g
            refine jRun.cut (k := jk_X6_next) rfl 2 (c' := (132, [.ref 1], [], (jP M3 1 3 4))) (ob := True ∧ jKd T0 1 = 6 ∧ True) rfl ⟨trivial, rfl, trivial⟩ ?_
            refine jRun.nm (fun M4 eM4 => ?_)
            have h := h M4 eM4
            refine jRun.cut (k := jk_X6_next) rfl 6 (c' := (142, [.ref 1], [], (jP M4 1 4 ((M4 1 4) + 1)))) (ob := True ∧ True ∧ jKd T0 1 = 6 ∧ True ∧ True ∧ jKd T0 1 = 6 ∧ True) rfl ⟨trivial, trivial, rfl, trivial, trivial, rfl, trivial⟩ ?_
            refine jRun.nm (fun M5 eM5 => ?_)
            have h := h M5 eM5
            exact jRun.ret (k := jk_X6_next) rfl 1 (v := none) (M1 := M5) (ob := True) rfl trivial h
          · have h := h.2 g
            refine jRun.cut (k := jk_X6_next) rfl 3 (c' := (132, [.ref 1], [], (jP M3 1 3 3))) (ob := True ∧ True ∧ jKd T0 1 = 6 ∧ True) rfl ⟨trivial, trivial, rfl, trivial⟩ ?_
            refine jRun.nm (fun M6 eM6 => ?_)
            have h := h M6 eM6
            refine jRun.cut (k := jk_X6_next) rfl 6 (c' := (142, [.ref 1], [], (jP M6 1 4 ((M6 1 4) + 1)))) (ob := True ∧ True ∧ jKd T0 1 = 6 ∧ True ∧ True ∧ jKd T0 1 = 6 ∧ True) rfl ⟨trivial, trivial, rfl, trivial, trivial, rfl, trivial⟩ ?_
            refine jRun.nm (fun M7 eM7 => ?_)
            have h := h M7 eM7
            exact jRun.ret (k := jk_X6_next) rfl 1 (v := none) (M1 := M7) (ob := True) rfl trivial h
        · have h := h.2 g
          refine jRun.call (k := jk_X6_next) rfl 2 (f := q_X6_readNumber) (As := [.ref 1]) (c1 := (106, [.ref 1], [], M3)) (ob := True ∧ jKd T0 1 = 6) rfl ⟨trivial, rfl⟩ h (fun v M8 h => ?_)
          obtain ⟨rfl, h⟩ := h
          show jRun X T0 (d + 1) q_X6_next (106, [.ref 1], [], M8) Q
          exact jRun.ret (k := jk_X6_next) rfl 2 (v := none) (M1 := M8) (ob := True ∧ True) rfl ⟨trivial, trivial⟩ h
      · have h := h.2 g
        refine jRun.call (k := jk_X6_next) rfl 2 (f := q_X6_readWord) (As := [.ref 1]) (c1 := (84, [.ref 1], [], M2)) (ob := True ∧ jKd T0 1 = 6) rfl ⟨trivial, rfl⟩ h (fun v M9 h => ?_)
        obtain ⟨rfl, h⟩ := h
        show jRun X T0 (d + 1) q_X6_next (84, [.ref 1], [], M9) Q
        exact jRun.ret (k := jk_X6_next) rfl 2 (v := none) (M1 := M9) (ob := True ∧ True) rfl ⟨trivial, trivial⟩ h
    · have h := h.2 g
      refine jRun.cut (k := jk_X6_next) rfl 3 (c' := (62, [.ref 1], [], (jP M1 1 3 0))) (ob := True ∧ True ∧ jKd T0 1 = 6 ∧ True) rfl ⟨trivial, trivial, rfl, trivial⟩ ?_
      refine jRun.nm (fun M10 eM10 => ?_)
      have h := h M10 eM10
      exact jRun.ret (k := jk_X6_next) rfl 2 (v := none) (M1 := M10) (ob := True ∧ True) rfl ⟨trivial, trivial⟩ h
  · have h := h.2 g
    obtain ⟨o4, h⟩ := h
    refine jRun.cut (k := jk_X6_next) rfl 7 (c' := (if ¬ (M 2 (M 1 4).toNatClampNeg) = 32 then 38 else 25, [.ref 1], [], M)) (ob := True ∧ jKd T0 1 = 6 ∧ True ∧ jKd T0 1 = 6 ∧ (jKd T0 2 = 9 ∧ vp_in (M 1 4) 150) ∧ True ∧ True ∧ True) rfl ⟨trivial, rfl, trivial, rfl, ⟨rfl, o4⟩, trivial, trivial, trivial⟩ ?_
    refine jRun.brn (fun g => ?_) (fun g => ?_)
    · have h := h.1 g
      refine jRun.cut (k := jk_X6_next) rfl 4 (c' := (46, [.ref 1], [], (jP M 1 2 (M 1 4)))) (ob := True ∧ True ∧ jKd T0 1 = 6 ∧ jKd T0 1 = 6 ∧ True) rfl ⟨trivial, trivial, rfl, rfl, trivial⟩ ?_
      refine jRun.nm (fun M11 eM11 => ?_)
      have h := h M11 eM11
      refine jRun.cut (k := jk_X6_next) rfl 5 (c' := (if (M11 1 4) < (M11 1 1) then 65 else 57, [.ref 1], [], M11)) (ob := True ∧ jKd T0 1 = 6 ∧ True ∧ jKd T0 1 = 6 ∧ True ∧ True) rfl ⟨trivial, rfl, trivial, rfl, trivial, trivial⟩ ?_
      refine jRun.br (fun g => ?_) (fun g => ?_)
      · have h := h.1 g
        obtain ⟨o5, h⟩ := h
        refine jRun.call (k := jk_X6_next) rfl 6 (f := q_X6_isLetter) (As := [.int (M11 2 (M11 1 4).toNatClampNeg)]) (c1 := (77, [.ref 1], [], M11)) (ob := True ∧ jKd T0 1 = 6 ∧ True ∧ jKd T0 1 = 6 ∧ (jKd T0 2 = 9 ∧ vp_in (M11 1 4) 150) ∧ True) rfl ⟨trivial, rfl, trivial, rfl, ⟨rfl, o5⟩, trivial⟩ h (fun v M12 h => ?_)
        obtain ⟨r5, rfl, h⟩ := h
        show jRun X T0 (d + 1) q_X6_next (77, [.ref 1], [.int r5], M12) Q
        refine jRun.cut (k := jk_X6_next) rfl 1 (c' := (if r5 = 0 then 87 else 80, [.ref 1], [], M12)) (ob := True ∧ True) rfl ⟨trivial, trivial⟩ ?_
        refine jRun.br (fun g => ?_) (fun g => ?_)
        · have h := h.1 g
          obtain ⟨o6, h⟩ := h
          refine jRun.call (k := jk_X6_next) rfl 6 (f := q_X6_isDigit) (As := [.int (M12 2 (M12 1 4).toNatClampNeg)]) (c1 := (99, [.ref 1], [], M12)) (ob := True ∧ jKd T0 1 = 6 ∧ True ∧ jKd T0 1 = 6 ∧ (jKd T0 2 = 9 ∧ vp_in (M12 1 4) 150) ∧ True) rfl ⟨trivial, rfl, trivial, rfl, ⟨rfl, o6⟩, trivial⟩ h (fun v M13 h => ?_)
          obtain ⟨r6, rfl, h⟩ := h
          show jRun X T0 (d + 1) q_X6_next (99, [.ref 1], [.int r6], M13) Q
          refine jRun.cut (k := jk_X6_next) rfl 1 (c' := (if r6 = 0 then 109 else 102, [.ref 1], [], M13)) (ob := True ∧ True) rfl ⟨trivial, trivial⟩ ?_
          refine jRun.br (fun g => ?_) (fun g => ?_)
          · have h := h.1 g
            obtain ⟨o7, h⟩ := h
            refine jRun.cut (k := jk_X6_next) rfl 8 (c' := (if ¬ (M13 2 (M13 1 4).toNatClampNeg) = 59 then 128 else 124, [.ref 1], [.ref 1], M13)) (ob := True ∧ True ∧ jKd T0 1 = 6 ∧ True ∧ jKd T0 1 = 6 ∧ (jKd T0 2 = 9 ∧ vp_in (M13 1 4) 150) ∧ True ∧ True ∧ True) rfl ⟨trivial, trivial, rfl, trivial, rfl, ⟨rfl, o7⟩, trivial, trivial, trivial⟩ ?_
            refine jRun.brn (fun g => ?_) (fun g => ?_)
            · have h := h.1 g
              refine jRun.cut (k := jk_X6_next) rfl 2 (c' := (132, [.ref 1], [], (jP M13 1 3 4))) (ob := True ∧ jKd T0 1 = 6 ∧ True) rfl ⟨trivial, rfl, trivial⟩ ?_
              refine jRun.nm (fun M14 eM14 => ?_)
              have h := h M14 eM14
              refine jRun.cut (k := jk_X6_next) rfl 6 (c' := (142, [.ref 1], [], (jP M14 1 4 ((M14 1 4) + 1)))) (ob := True ∧ True ∧ jKd T0 1 = 6 ∧ True ∧ True ∧ jKd T0 1 = 6 ∧ True) rfl ⟨trivial, trivial, rfl, trivial, trivial, rfl, trivial⟩ ?_
              refine jRun.nm (fun M15 eM15 => ?_)
              have h := h M15 eM15
              exact jRun.ret (k := jk_X6_next) rfl 1 (v := none) (M1 := M15) (ob := True) rfl trivial h
            · have h := h.2 g
              refine jRun.cut (k := jk_X6_next) rfl 3 (c' := (132, [.ref 1], [], (jP M13 1 3 3))) (ob := True ∧ True ∧ jKd T0 1 = 6 ∧ True) rfl ⟨trivial, trivial, rfl, trivial⟩ ?_
              refine jRun.nm (fun M16 eM16 => ?_)
              have h := h M16 eM16
              refine jRun.cut (k := jk_X6_next) rfl 6 (c' := (142, [.ref 1], [], (jP M16 1 4 ((M16 1 4) + 1)))) (ob := True ∧ True ∧ jKd T0 1 = 6 ∧ True ∧ True ∧ jKd T0 1 = 6 ∧ True) rfl ⟨trivial, trivial, rfl, trivial, trivial, rfl, trivial⟩ ?_
              refine jRun.nm (fun M17 eM17 => ?_)
              have h := h M17 eM17
              exact jRun.ret (k := jk_X6_next) rfl 1 (v := none) (M1 := M17) (ob := True) rfl trivial h
          · have h := h.2 g
            refine jRun.call (k := jk_X6_next) rfl 2 (f := q_X6_readNumber) (As := [.ref 1]) (c1 := (106, [.ref 1], [], M13)) (ob := True ∧ jKd T0 1 = 6) rfl ⟨trivial, rfl⟩ h (fun v M18 h => ?_)
            obtain ⟨rfl, h⟩ := h
            show jRun X T0 (d + 1) q_X6_next (106, [.ref 1], [], M18) Q
            exact jRun.ret (k := jk_X6_next) rfl 2 (v := none) (M1 := M18) (ob := True ∧ True) rfl ⟨trivial, trivial⟩ h
        · have h := h.2 g
          refine jRun.call (k := jk_X6_next) rfl 2 (f := q_X6_readWord) (As := [.ref 1]) (c1 := (84, [.ref 1], [], M12)) (ob := True ∧ jKd T0 1 = 6) rfl ⟨trivial, rfl⟩ h (fun v M19 h => ?_)
          obtain ⟨rfl, h⟩ := h
          show jRun X T0 (d + 1) q_X6_next (84, [.ref 1], [], M19) Q
          exact jRun.ret (k := jk_X6_next) rfl 2 (v := none) (M1 := M19) (ob := True ∧ True) rfl ⟨trivial, trivial⟩ h
      · have h := h.2 g
        refine jRun.cut (k := jk_X6_next) rfl 3 (c' := (62, [.ref 1], [], (jP M11 1 3 0))) (ob := True ∧ True ∧ jKd T0 1 = 6 ∧ True) rfl ⟨trivial, trivial, rfl, trivial⟩ ?_
        refine jRun.nm (fun M20 eM20 => ?_)
        have h := h M20 eM20
        exact jRun.ret (k := jk_X6_next) rfl 2 (v := none) (M1 := M20) (ob := True ∧ True) rfl ⟨trivial, trivial⟩ h
    · have h := h.2 g
      refine jRun.cut (k := jk_X6_next) rfl 6 (c' := (35, [.ref 1], [], (jP M 1 4 ((M 1 4) + 1)))) (ob := True ∧ True ∧ jKd T0 1 = 6 ∧ True ∧ True ∧ jKd T0 1 = 6 ∧ True) rfl ⟨trivial, trivial, rfl, trivial, trivial, rfl, trivial⟩ ?_
      refine jRun.nm (fun M21 eM21 => ?_)
      have h := h M21 eM21
      refine jRun.cut (k := jk_X6_next) rfl 1 (c' := (0, [.ref 1], [], M21)) (ob := True ∧ True) rfl ⟨trivial, trivial⟩ ?_
      exact h
theorem v_X6_isNumber {X : jX} {d : Nat} (hI : jInj X T0) (a1 : Int32) (a2 : Int32) (M : jMem) (Q : Option Value → jMem → Prop) (h : ((¬ (M 1 3) = 2 → Q (some (.int 0)) M) ∧ ((M 1 3) = 2 → (((M 1 5) < a1 → Q (some (.int 0)) M) ∧ (¬ (M 1 5) < a1 → ((a2 < (M 1 5) → Q (some (.int 0)) M) ∧ (¬ a2 < (M 1 5) → Q (some (.int 1)) M))))))) : jOk X T0 d q_X6_isNumber [.ref 1, .int a1, .int a2] M Q := by
  refine jOk.intro (ml := 3) (ls := [.ref 1, .int a1, .int a2]) (jTl (by decide)) rfl (Nat.le_of_ble_eq_true rfl) rfl hI ?_
  refine jRun.cut (k := jk_X6_isNumber) rfl 4 (c' := (if ¬ (M 1 3) = 2 then 28 else 8, [.ref 1, .int a1, .int a2], [], M)) (ob := True ∧ jKd T0 1 = 6 ∧ True ∧ True ∧ True) rfl ⟨trivial, rfl, trivial, trivial, trivial⟩ ?_
  refine jRun.brn (fun g => ?_) (fun g => ?_)
  · have h := h.1 g
    exact jRun.ret (k := jk_X6_isNumber) rfl 2 (v := some (.int 0)) (M1 := M) (ob := True ∧ (0 = 0 ∨ 0 = 1)) rfl ⟨trivial, (Or.inl rfl)⟩ h
  · have h := h.2 g
    refine jRun.cut (k := jk_X6_isNumber) rfl 4 (c' := (if (M 1 5) < a1 then 28 else 16, [.ref 1, .int a1, .int a2], [], M)) (ob := True ∧ jKd T0 1 = 6 ∧ True ∧ True ∧ True) rfl ⟨trivial, rfl, trivial, trivial, trivial⟩ ?_
    refine jRun.br (fun g => ?_) (fun g => ?_)
    · have h := h.1 g
      exact jRun.ret (k := jk_X6_isNumber) rfl 2 (v := some (.int 0)) (M1 := M) (ob := True ∧ (0 = 0 ∨ 0 = 1)) rfl ⟨trivial, (Or.inl rfl)⟩ h
    · have h := h.2 g
      refine jRun.cut (k := jk_X6_isNumber) rfl 4 (c' := (if a2 < (M 1 5) then 28 else 24, [.ref 1, .int a1, .int a2], [], M)) (ob := True ∧ jKd T0 1 = 6 ∧ True ∧ True ∧ True) rfl ⟨trivial, rfl, trivial, trivial, trivial⟩ ?_
      refine jRun.br (fun g => ?_) (fun g => ?_)
      · have h := h.1 g
        exact jRun.ret (k := jk_X6_isNumber) rfl 2 (v := some (.int 0)) (M1 := M) (ob := True ∧ (0 = 0 ∨ 0 = 1)) rfl ⟨trivial, (Or.inl rfl)⟩ h
      · have h := h.2 g
        exact jRun.ret (k := jk_X6_isNumber) rfl 3 (v := some (.int 1)) (M1 := M) (ob := True ∧ True ∧ (1 = 0 ∨ 1 = 1)) rfl ⟨trivial, trivial, (Or.inr rfl)⟩ h
theorem v_X6_isLabel {X : jX} {d : Nat} (hI : jInj X T0)  (M : jMem) (Q : Option Value → jMem → Prop) (h : ((¬ (M 1 3) = 1 → Q (some (.int 0)) M) ∧ ((M 1 3) = 1 → (((M 1 5) < 0 → Q (some (.int 0)) M) ∧ (¬ (M 1 5) < 0 → ((8 ≤ (M 1 5) → Q (some (.int 0)) M) ∧ (¬ 8 ≤ (M 1 5) → Q (some (.int 1)) M))))))) : jOk X T0 d q_X6_isLabel [.ref 1] M Q := by
  refine jOk.intro (ml := 1) (ls := [.ref 1]) (jTl (by decide)) rfl (Nat.le_of_ble_eq_true rfl) rfl hI ?_
  refine jRun.cut (k := jk_X6_isLabel) rfl 4 (c' := (if ¬ (M 1 3) = 1 then 28 else 8, [.ref 1], [], M)) (ob := True ∧ jKd T0 1 = 6 ∧ True ∧ True ∧ True) rfl ⟨trivial, rfl, trivial, trivial, trivial⟩ ?_
  refine jRun.brn (fun g => ?_) (fun g => ?_)
  · have h := h.1 g
    exact jRun.ret (k := jk_X6_isLabel) rfl 2 (v := some (.int 0)) (M1 := M) (ob := True ∧ (0 = 0 ∨ 0 = 1)) rfl ⟨trivial, (Or.inl rfl)⟩ h
  · have h := h.2 g
    refine jRun.cut (k := jk_X6_isLabel) rfl 3 (c' := (if (M 1 5) < 0 then 28 else 15, [.ref 1], [], M)) (ob := True ∧ jKd T0 1 = 6 ∧ True ∧ True) rfl ⟨trivial, rfl, trivial, trivial⟩ ?_
    refine jRun.br (fun g => ?_) (fun g => ?_)
    · have h := h.1 g
      exact jRun.ret (k := jk_X6_isLabel) rfl 2 (v := some (.int 0)) (M1 := M) (ob := True ∧ (0 = 0 ∨ 0 = 1)) rfl ⟨trivial, (Or.inl rfl)⟩ h
    · have h := h.2 g
      refine jRun.cut (k := jk_X6_isLabel) rfl 4 (c' := (if 8 ≤ (M 1 5) then 28 else 24, [.ref 1], [], M)) (ob := True ∧ jKd T0 1 = 6 ∧ True ∧ True ∧ True) rfl ⟨trivial, rfl, trivial, trivial, trivial⟩ ?_
      refine jRun.br (fun g => ?_) (fun g => ?_)
      · have h := h.1 g
        exact jRun.ret (k := jk_X6_isLabel) rfl 2 (v := some (.int 0)) (M1 := M) (ob := True ∧ (0 = 0 ∨ 0 = 1)) rfl ⟨trivial, (Or.inl rfl)⟩ h
      · have h := h.2 g
        exact jRun.ret (k := jk_X6_isLabel) rfl 3 (v := some (.int 1)) (M1 := M) (ob := True ∧ True ∧ (1 = 0 ∨ 1 = 1)) rfl ⟨trivial, trivial, (Or.inr rfl)⟩ h
theorem v_X6_readWord {X : jX} {d : Nat} (hI : jInj X T0)  (M : jMem) (Q : Option Value → jMem → Prop) (h : jRun X T0 (d + 1) q_X6_readWord (0, [.ref 1], [], M) Q) : jOk X T0 (d + 1) q_X6_readWord [.ref 1] M Q :=
  jOk.intro (ml := 1) (ls := [.ref 1]) (jTl (by decide)) rfl (Nat.le_of_ble_eq_true rfl) rfl hI h
theorem v_X6_readWord_0 {X : jX} {d : Nat}  (M : jMem) (Q : Option Value → jMem → Prop) (h : (((M 1 1) ≤ (M 1 4) → (∀ M1, M1 = jP M 1 3 1 → ((¬ ((M1 1 4) - (M1 1 2)) = 1 → (∀ M2, M2 = jP M1 1 5 (-1) → Q none M2)) ∧ (((M1 1 4) - (M1 1 2)) = 1 → vp_in (M1 1 2) 150 ∧ (∀ M3, M3 = jP M1 1 5 ((M1 2 (M1 1 2).toNatClampNeg) - 97) → Q none M3))))) ∧ (¬ (M 1 1) ≤ (M 1 4) → vp_in (M 1 4) 150 ∧ jOk X T0 d q_X6_isLetter [.int (M 2 (M 1 4).toNatClampNeg)] M (fun v M4 => ∃ r1, v = some (.int r1) ∧ ((r1 = 0 → (∀ M5, M5 = jP M4 1 3 1 → ((¬ ((M5 1 4) - (M5 1 2)) = 1 → (∀ M6, M6 = jP M5 1 5 (-1) → Q none M6)) ∧ (((M5 1 4) - (M5 1 2)) = 1 → vp_in (M5 1 2) 150 ∧ (∀ M7, M7 = jP M5 1 5 ((M5 2 (M5 1 2).toNatClampNeg) - 97) → Q none M7))))) ∧ (¬ r1 = 0 → (∀ M8, M8 = jP M4 1 4 ((M4 1 4) + 1) → jRun X T0 (d + 1) q_X6_readWord (0, [.ref 1], [], M8) Q))))))) : jRun X T0 (d + 1) q_X6_readWord (0, [.ref 1], [], M) Q := by
  refine jRun.cut (k := jk_X6_readWord) rfl 5 (c' := (if (M 1 1) ≤ (M 1 4) then 39 else 11, [.ref 1], [], M)) (ob := True ∧ jKd T0 1 = 6 ∧ True ∧ jKd T0 1 = 6 ∧ True ∧ True) rfl ⟨trivial, rfl, trivial, rfl, trivial, trivial⟩ ?_
  refine jRun.br (fun g => ?_) (fun g => ?_)
  · have h := h.1 g
    refine jRun.cut (k := jk_X6_readWord) rfl 3 (c' := (44, [.ref 1], [], (jP M 1 3 1))) (ob := True ∧ True ∧ jKd T0 1 = 6 ∧ True) rfl ⟨trivial, trivial, rfl, trivial⟩ ?_
    refine jRun.nm (fun M1 eM1 => ?_)
    have h := h M1 eM1
    refine jRun.cut (k := jk_X6_readWord) rfl 8 (c' := (if ¬ ((M1 1 4) - (M1 1 2)) = 1 then 73 else 58, [.ref 1], [.ref 1], M1)) (ob := True ∧ True ∧ jKd T0 1 = 6 ∧ True ∧ jKd T0 1 = 6 ∧ True ∧ True ∧ True ∧ True) rfl ⟨trivial, trivial, rfl, trivial, rfl, trivial, trivial, trivial, trivial⟩ ?_
    refine jRun.brn (fun g => ?_) (fun g => ?_)
    · have h := h.1 g
      refine jRun.cut (k := jk_X6_readWord) rfl 2 (c' := (77, [.ref 1], [], (jP M1 1 5 (-1)))) (ob := True ∧ jKd T0 1 = 6 ∧ True) rfl ⟨trivial, rfl, trivial⟩ ?_
      refine jRun.nm (fun M2 eM2 => ?_)
      have h := h M2 eM2
      exact jRun.ret (k := jk_X6_readWord) rfl 1 (v := none) (M1 := M2) (ob := True) rfl trivial h
    · have h := h.2 g
      obtain ⟨o1, h⟩ := h
      refine jRun.cut (k := jk_X6_readWord) rfl 9 (c' := (77, [.ref 1], [], (jP M1 1 5 ((M1 2 (M1 1 2).toNatClampNeg) - 97)))) (ob := True ∧ jKd T0 1 = 6 ∧ True ∧ jKd T0 1 = 6 ∧ (jKd T0 2 = 9 ∧ vp_in (M1 1 2) 150) ∧ True ∧ True ∧ True ∧ jKd T0 1 = 6 ∧ True) rfl ⟨trivial, rfl, trivial, rfl, ⟨rfl, o1⟩, trivial, trivial, trivial, rfl, trivial⟩ ?_
      refine jRun.nm (fun M3 eM3 => ?_)
      have h := h M3 eM3
      exact jRun.ret (k := jk_X6_readWord) rfl 1 (v := none) (M1 := M3) (ob := True) rfl trivial h
  · have h := h.2 g
    obtain ⟨o2, h⟩ := h
    refine jRun.call (k := jk_X6_readWord) rfl 6 (f := q_X6_isLetter) (As := [.int (M 2 (M 1 4).toNatClampNeg)]) (c1 := (23, [.ref 1], [], M)) (ob := True ∧ jKd T0 1 = 6 ∧ True ∧ jKd T0 1 = 6 ∧ (jKd T0 2 = 9 ∧ vp_in (M 1 4) 150) ∧ True) rfl ⟨trivial, rfl, trivial, rfl, ⟨rfl, o2⟩, trivial⟩ h (fun v M4 h => ?_)
    obtain ⟨r1, rfl, h⟩ := h
    show jRun X T0 (d + 1) q_X6_readWord (23, [.ref 1], [.int r1], M4) Q
    refine jRun.cut (k := jk_X6_readWord) rfl 1 (c' := (if r1 = 0 then 39 else 26, [.ref 1], [], M4)) (ob := True ∧ True) rfl ⟨trivial, trivial⟩ ?_
    refine jRun.br (fun g => ?_) (fun g => ?_)
    · have h := h.1 g
      refine jRun.cut (k := jk_X6_readWord) rfl 3 (c' := (44, [.ref 1], [], (jP M4 1 3 1))) (ob := True ∧ True ∧ jKd T0 1 = 6 ∧ True) rfl ⟨trivial, trivial, rfl, trivial⟩ ?_
      refine jRun.nm (fun M5 eM5 => ?_)
      have h := h M5 eM5
      refine jRun.cut (k := jk_X6_readWord) rfl 8 (c' := (if ¬ ((M5 1 4) - (M5 1 2)) = 1 then 73 else 58, [.ref 1], [.ref 1], M5)) (ob := True ∧ True ∧ jKd T0 1 = 6 ∧ True ∧ jKd T0 1 = 6 ∧ True ∧ True ∧ True ∧ True) rfl ⟨trivial, trivial, rfl, trivial, rfl, trivial, trivial, trivial, trivial⟩ ?_
      refine jRun.brn (fun g => ?_) (fun g => ?_)
      · have h := h.1 g
        refine jRun.cut (k := jk_X6_readWord) rfl 2 (c' := (77, [.ref 1], [], (jP M5 1 5 (-1)))) (ob := True ∧ jKd T0 1 = 6 ∧ True) rfl ⟨trivial, rfl, trivial⟩ ?_
        refine jRun.nm (fun M6 eM6 => ?_)
        have h := h M6 eM6
        exact jRun.ret (k := jk_X6_readWord) rfl 1 (v := none) (M1 := M6) (ob := True) rfl trivial h
      · have h := h.2 g
        obtain ⟨o3, h⟩ := h
        refine jRun.cut (k := jk_X6_readWord) rfl 9 (c' := (77, [.ref 1], [], (jP M5 1 5 ((M5 2 (M5 1 2).toNatClampNeg) - 97)))) (ob := True ∧ jKd T0 1 = 6 ∧ True ∧ jKd T0 1 = 6 ∧ (jKd T0 2 = 9 ∧ vp_in (M5 1 2) 150) ∧ True ∧ True ∧ True ∧ jKd T0 1 = 6 ∧ True) rfl ⟨trivial, rfl, trivial, rfl, ⟨rfl, o3⟩, trivial, trivial, trivial, rfl, trivial⟩ ?_
        refine jRun.nm (fun M7 eM7 => ?_)
        have h := h M7 eM7
        exact jRun.ret (k := jk_X6_readWord) rfl 1 (v := none) (M1 := M7) (ob := True) rfl trivial h
    · have h := h.2 g
      refine jRun.cut (k := jk_X6_readWord) rfl 6 (c' := (36, [.ref 1], [], (jP M4 1 4 ((M4 1 4) + 1)))) (ob := True ∧ True ∧ jKd T0 1 = 6 ∧ True ∧ True ∧ jKd T0 1 = 6 ∧ True) rfl ⟨trivial, trivial, rfl, trivial, trivial, rfl, trivial⟩ ?_
      refine jRun.nm (fun M8 eM8 => ?_)
      have h := h M8 eM8
      refine jRun.cut (k := jk_X6_readWord) rfl 1 (c' := (0, [.ref 1], [], M8)) (ob := True ∧ True) rfl ⟨trivial, trivial⟩ ?_
      exact h
theorem v_X6_readNumber {X : jX} {d : Nat} (hI : jInj X T0)  (M : jMem) (Q : Option Value → jMem → Prop) (h : (∀ M1, M1 = jP M 1 5 0 → jRun X T0 (d + 1) q_X6_readNumber (5, [.ref 1, .null], [], M1) Q)) : jOk X T0 (d + 1) q_X6_readNumber [.ref 1] M Q := by
  refine jOk.intro (ml := 2) (ls := [.ref 1, .null]) (jTl (by decide)) rfl (Nat.le_of_ble_eq_true rfl) rfl hI ?_
  refine jRun.cut (k := jk_X6_readNumber) rfl 3 (c' := (5, [.ref 1, .null], [], (jP M 1 5 0))) (ob := True ∧ True ∧ jKd T0 1 = 6 ∧ True) rfl ⟨trivial, trivial, rfl, trivial⟩ ?_
  refine jRun.nm (fun M1 eM1 => ?_)
  have h := h M1 eM1
  exact h
theorem v_X6_readNumber_5 {X : jX} {d : Nat}  (M : jMem) (Q : Option Value → jMem → Prop) (h : (((M 1 1) ≤ (M 1 4) → jRun X T0 (d + 1) q_X6_readNumber (74, [.ref 1, .null], [], M) Q) ∧ (¬ (M 1 1) ≤ (M 1 4) → vp_in (M 1 4) 150 ∧ jOk X T0 d q_X6_isDigit [.int (M 2 (M 1 4).toNatClampNeg)] M (fun v M1 => ∃ r1, v = some (.int r1) ∧ ((r1 = 0 → jRun X T0 (d + 1) q_X6_readNumber (74, [.ref 1, .null], [], M1) Q) ∧ (¬ r1 = 0 → vp_in (M1 1 4) 150 ∧ (∀ M2, M2 = jP M1 1 5 (if 1000 < (((10 * (M1 1 5)) + (M1 2 (M1 1 4).toNatClampNeg)) - 48) then 1000 else (((10 * (M1 1 5)) + (M1 2 (M1 1 4).toNatClampNeg)) - 48)) → (∀ M3, M3 = jP M2 1 4 ((M2 1 4) + 1) → jRun X T0 (d + 1) q_X6_readNumber (5, [.ref 1, .null], [], M3) Q)))))))) : jRun X T0 (d + 1) q_X6_readNumber (5, [.ref 1, .null], [], M) Q := by
  refine jRun.cut (k := jk_X6_readNumber) rfl 5 (c' := (if (M 1 1) ≤ (M 1 4) then 74 else 16, [.ref 1, .null], [], M)) (ob := True ∧ jKd T0 1 = 6 ∧ True ∧ jKd T0 1 = 6 ∧ True ∧ True) rfl ⟨trivial, rfl, trivial, rfl, trivial, trivial⟩ ?_
  refine jRun.br (fun g => ?_) (fun g => ?_)
  · have h := h.1 g
    exact h
  · have h := h.2 g
    obtain ⟨o1, h⟩ := h
    refine jRun.call (k := jk_X6_readNumber) rfl 6 (f := q_X6_isDigit) (As := [.int (M 2 (M 1 4).toNatClampNeg)]) (c1 := (28, [.ref 1, .null], [], M)) (ob := True ∧ jKd T0 1 = 6 ∧ True ∧ jKd T0 1 = 6 ∧ (jKd T0 2 = 9 ∧ vp_in (M 1 4) 150) ∧ True) rfl ⟨trivial, rfl, trivial, rfl, ⟨rfl, o1⟩, trivial⟩ h (fun v M1 h => ?_)
    obtain ⟨r1, rfl, h⟩ := h
    show jRun X T0 (d + 1) q_X6_readNumber (28, [.ref 1, .null], [.int r1], M1) Q
    refine jRun.cut (k := jk_X6_readNumber) rfl 1 (c' := (if r1 = 0 then 74 else 31, [.ref 1, .null], [], M1)) (ob := True ∧ True) rfl ⟨trivial, trivial⟩ ?_
    refine jRun.br (fun g => ?_) (fun g => ?_)
    · have h := h.1 g
      exact h
    · have h := h.2 g
      obtain ⟨o2, h⟩ := h
      refine jRun.cut (k := jk_X6_readNumber) rfl 16 (c' := (61, [.ref 1, .null], [], (jP M1 1 5 (if 1000 < (((10 * (M1 1 5)) + (M1 2 (M1 1 4).toNatClampNeg)) - 48) then 1000 else (((10 * (M1 1 5)) + (M1 2 (M1 1 4).toNatClampNeg)) - 48))))) (ob := True ∧ True ∧ True ∧ jKd T0 1 = 6 ∧ True ∧ True ∧ jKd T0 1 = 6 ∧ True ∧ jKd T0 1 = 6 ∧ (jKd T0 2 = 9 ∧ vp_in (M1 1 4) 150) ∧ True ∧ True ∧ True ∧ True ∧ True ∧ jKd T0 1 = 6 ∧ True) rfl ⟨trivial, trivial, trivial, rfl, trivial, trivial, rfl, trivial, rfl, ⟨rfl, o2⟩, trivial, trivial, trivial, trivial, trivial, rfl, trivial⟩ ?_
      refine jRun.nm (fun M2 eM2 => ?_)
      have h := h M2 eM2
      refine jRun.cut (k := jk_X6_readNumber) rfl 6 (c' := (71, [.ref 1, .null], [], (jP M2 1 4 ((M2 1 4) + 1)))) (ob := True ∧ True ∧ jKd T0 1 = 6 ∧ True ∧ True ∧ jKd T0 1 = 6 ∧ True) rfl ⟨trivial, trivial, rfl, trivial, trivial, rfl, trivial⟩ ?_
      refine jRun.nm (fun M3 eM3 => ?_)
      have h := h M3 eM3
      refine jRun.cut (k := jk_X6_readNumber) rfl 1 (c' := (5, [.ref 1, .null], [], M3)) (ob := True ∧ True) rfl ⟨trivial, trivial⟩ ?_
      exact h
theorem v_X6_readNumber_74 {X : jX} {d : Nat}  (M : jMem) (Q : Option Value → jMem → Prop) (h : vp_in (M 1 2) 150 ∧ ((¬ (M 2 (M 1 2).toNatClampNeg) = 48 → jRun X T0 (d + 1) q_X6_readNumber (105, [.ref 1, .null], [], M) Q) ∧ ((M 2 (M 1 2).toNatClampNeg) = 48 → ((((M 1 4) - (M 1 2)) ≤ 1 → jRun X T0 (d + 1) q_X6_readNumber (105, [.ref 1, .null], [], M) Q) ∧ (¬ ((M 1 4) - (M 1 2)) ≤ 1 → jRun X T0 (d + 1) q_X6_readNumber (106, [.ref 1, .null], [.int 1], M) Q))))) : jRun X T0 (d + 1) q_X6_readNumber (74, [.ref 1, .null], [], M) Q := by
  obtain ⟨o1, h⟩ := h
  refine jRun.cut (k := jk_X6_readNumber) rfl 7 (c' := (if ¬ (M 2 (M 1 2).toNatClampNeg) = 48 then 105 else 88, [.ref 1, .null], [], M)) (ob := True ∧ jKd T0 1 = 6 ∧ True ∧ jKd T0 1 = 6 ∧ (jKd T0 2 = 9 ∧ vp_in (M 1 2) 150) ∧ True ∧ True ∧ True) rfl ⟨trivial, rfl, trivial, rfl, ⟨rfl, o1⟩, trivial, trivial, trivial⟩ ?_
  refine jRun.brn (fun g => ?_) (fun g => ?_)
  · have h := h.1 g
    exact h
  · have h := h.2 g
    refine jRun.cut (k := jk_X6_readNumber) rfl 7 (c' := (if ((M 1 4) - (M 1 2)) ≤ 1 then 105 else 101, [.ref 1, .null], [], M)) (ob := True ∧ jKd T0 1 = 6 ∧ True ∧ jKd T0 1 = 6 ∧ True ∧ True ∧ True ∧ True) rfl ⟨trivial, rfl, trivial, rfl, trivial, trivial, trivial, trivial⟩ ?_
    refine jRun.br (fun g => ?_) (fun g => ?_)
    · have h := h.1 g
      exact h
    · have h := h.2 g
      refine jRun.cut (k := jk_X6_readNumber) rfl 2 (c' := (106, [.ref 1, .null], [.int 1], M)) (ob := True ∧ True ∧ True) rfl ⟨trivial, trivial, trivial⟩ ?_
      exact h
theorem v_X6_readNumber_105 {X : jX} {d : Nat}  (M : jMem) (Q : Option Value → jMem → Prop) (h : jRun X T0 (d + 1) q_X6_readNumber (106, [.ref 1, .null], [.int 0], M) Q) : jRun X T0 (d + 1) q_X6_readNumber (105, [.ref 1, .null], [], M) Q := by
  refine jRun.cut (k := jk_X6_readNumber) rfl 1 (c' := (106, [.ref 1, .null], [.int 0], M)) (ob := True ∧ True) rfl ⟨trivial, trivial⟩ ?_
  exact h
theorem v_X6_readNumber_106 {X : jX} {d : Nat} (s0 : Int32) (M : jMem) (Q : Option Value → jMem → Prop) (h : ((¬ s0 = 0 → jRun X T0 (d + 1) q_X6_readNumber (122, [.ref 1, .int s0], [.ref 1], M) Q) ∧ (s0 = 0 → (((M 1 5) ≤ 999 → (∀ M1, M1 = jP M 1 3 2 → Q none M1)) ∧ (¬ (M 1 5) ≤ 999 → jRun X T0 (d + 1) q_X6_readNumber (122, [.ref 1, .int s0], [.ref 1], M) Q))))) : jRun X T0 (d + 1) q_X6_readNumber (106, [.ref 1, .null], [.int s0], M) Q := by
  refine jRun.cut (k := jk_X6_readNumber) rfl 4 (c' := (if ¬ s0 = 0 then 122 else 112, [.ref 1, .int s0], [.ref 1], M)) (ob := True ∧ True ∧ True ∧ True ∧ True) rfl ⟨trivial, trivial, trivial, trivial, trivial⟩ ?_
  refine jRun.brn (fun g => ?_) (fun g => ?_)
  · have h := h.1 g
    exact h
  · have h := h.2 g
    refine jRun.cut (k := jk_X6_readNumber) rfl 4 (c' := (if (M 1 5) ≤ 999 then 126 else 122, [.ref 1, .int s0], [.ref 1], M)) (ob := True ∧ jKd T0 1 = 6 ∧ True ∧ True ∧ True) rfl ⟨trivial, rfl, trivial, trivial, trivial⟩ ?_
    refine jRun.br (fun g => ?_) (fun g => ?_)
    · have h := h.1 g
      refine jRun.cut (k := jk_X6_readNumber) rfl 2 (c' := (130, [.ref 1, .int s0], [], (jP M 1 3 2))) (ob := True ∧ jKd T0 1 = 6 ∧ True) rfl ⟨trivial, rfl, trivial⟩ ?_
      refine jRun.nm (fun M1 eM1 => ?_)
      have h := h M1 eM1
      exact jRun.ret (k := jk_X6_readNumber) rfl 1 (v := none) (M1 := M1) (ob := True) rfl trivial h
    · have h := h.2 g
      exact h
theorem v_X6_readNumber_122 {X : jX} {d : Nat} (a1 : Int32) (s0 : Nat) (M : jMem) (Q : Option Value → jMem → Prop) (h : jKd T0 s0 = 6 ∧ (∀ M1, M1 = jP M s0 3 4 → Q none M1)) : jRun X T0 (d + 1) q_X6_readNumber (122, [.ref 1, .int a1], [.ref s0], M) Q := by
  obtain ⟨o1, h⟩ := h
  refine jRun.cut (k := jk_X6_readNumber) rfl 3 (c' := (130, [.ref 1, .int a1], [], (jP M s0 3 4))) (ob := True ∧ True ∧ jKd T0 s0 = 6 ∧ True) rfl ⟨trivial, trivial, o1, trivial⟩ ?_
  refine jRun.nm (fun M1 eM1 => ?_)
  have h := h M1 eM1
  exact jRun.ret (k := jk_X6_readNumber) rfl 1 (v := none) (M1 := M1) (ob := True) rfl trivial h
theorem v_X6_isLetter {X : jX} {d : Nat} (hI : jInj X T0) (a0 : Int32) (M : jMem) (Q : Option Value → jMem → Prop) (h : ((a0 < 97 → Q (some (.int 0)) M) ∧ (¬ a0 < 97 → ((122 < a0 → Q (some (.int 0)) M) ∧ (¬ 122 < a0 → Q (some (.int 1)) M))))) : jOk X T0 d q_X6_isLetter [.int a0] M Q := by
  refine jOk.intro (ml := 1) (ls := [.int a0]) (jTl (by decide)) rfl (Nat.le_of_ble_eq_true rfl) rfl hI ?_
  refine jRun.cut (k := jk_X6_isLetter) rfl 3 (c' := (if a0 < 97 then 16 else 6, [.int a0], [], M)) (ob := True ∧ True ∧ True ∧ True) rfl ⟨trivial, trivial, trivial, trivial⟩ ?_
  refine jRun.br (fun g => ?_) (fun g => ?_)
  · have h := h.1 g
    exact jRun.ret (k := jk_X6_isLetter) rfl 2 (v := some (.int 0)) (M1 := M) (ob := True ∧ (0 = 0 ∨ 0 = 1)) rfl ⟨trivial, (Or.inl rfl)⟩ h
  · have h := h.2 g
    refine jRun.cut (k := jk_X6_isLetter) rfl 3 (c' := (if 122 < a0 then 16 else 12, [.int a0], [], M)) (ob := True ∧ True ∧ True ∧ True) rfl ⟨trivial, trivial, trivial, trivial⟩ ?_
    refine jRun.br (fun g => ?_) (fun g => ?_)
    · have h := h.1 g
      exact jRun.ret (k := jk_X6_isLetter) rfl 2 (v := some (.int 0)) (M1 := M) (ob := True ∧ (0 = 0 ∨ 0 = 1)) rfl ⟨trivial, (Or.inl rfl)⟩ h
    · have h := h.2 g
      exact jRun.ret (k := jk_X6_isLetter) rfl 3 (v := some (.int 1)) (M1 := M) (ob := True ∧ True ∧ (1 = 0 ∨ 1 = 1)) rfl ⟨trivial, trivial, (Or.inr rfl)⟩ h
theorem v_X6_isDigit {X : jX} {d : Nat} (hI : jInj X T0) (a0 : Int32) (M : jMem) (Q : Option Value → jMem → Prop) (h : ((a0 < 48 → Q (some (.int 0)) M) ∧ (¬ a0 < 48 → ((57 < a0 → Q (some (.int 0)) M) ∧ (¬ 57 < a0 → Q (some (.int 1)) M))))) : jOk X T0 d q_X6_isDigit [.int a0] M Q := by
  refine jOk.intro (ml := 1) (ls := [.int a0]) (jTl (by decide)) rfl (Nat.le_of_ble_eq_true rfl) rfl hI ?_
  refine jRun.cut (k := jk_X6_isDigit) rfl 3 (c' := (if a0 < 48 then 16 else 6, [.int a0], [], M)) (ob := True ∧ True ∧ True ∧ True) rfl ⟨trivial, trivial, trivial, trivial⟩ ?_
  refine jRun.br (fun g => ?_) (fun g => ?_)
  · have h := h.1 g
    exact jRun.ret (k := jk_X6_isDigit) rfl 2 (v := some (.int 0)) (M1 := M) (ob := True ∧ (0 = 0 ∨ 0 = 1)) rfl ⟨trivial, (Or.inl rfl)⟩ h
  · have h := h.2 g
    refine jRun.cut (k := jk_X6_isDigit) rfl 3 (c' := (if 57 < a0 then 16 else 12, [.int a0], [], M)) (ob := True ∧ True ∧ True ∧ True) rfl ⟨trivial, trivial, trivial, trivial⟩ ?_
    refine jRun.br (fun g => ?_) (fun g => ?_)
    · have h := h.1 g
      exact jRun.ret (k := jk_X6_isDigit) rfl 2 (v := some (.int 0)) (M1 := M) (ob := True ∧ (0 = 0 ∨ 0 = 1)) rfl ⟨trivial, (Or.inl rfl)⟩ h
    · have h := h.2 g
      exact jRun.ret (k := jk_X6_isDigit) rfl 3 (v := some (.int 1)) (M1 := M) (ob := True ∧ True ∧ (1 = 0 ∨ 1 = 1)) rfl ⟨trivial, trivial, (Or.inr rfl)⟩ h
theorem v_X3_readFrom {X : jX} {d : Nat} (hI : jInj X T0)  (M : jMem) (Q : Option Value → jMem → Prop) (h : jOk X T0 d q_X3_empty [.ref 3] M (fun v M1 => v = none ∧ jOk X T0 d q_X6_begin [.ref 1] M1 (fun v M2 => v = none ∧ jRun X T0 (d + 1) q_X3_readFrom (10, [.ref 3, .ref 1, .int 0], [], M2) Q))) : jOk X T0 (d + 1) q_X3_readFrom [.ref 3, .ref 1] M Q := by
  refine jOk.intro (ml := 3) (ls := [.ref 3, .ref 1, .null]) (jTl (by decide)) rfl (Nat.le_of_ble_eq_true rfl) rfl hI ?_
  refine jRun.call (k := jk_X3_readFrom) rfl 2 (f := q_X3_empty) (As := [.ref 3]) (c1 := (4, [.ref 3, .ref 1, .null], [], M)) (ob := True ∧ jKd T0 3 = 3) rfl ⟨trivial, rfl⟩ h (fun v M1 h => ?_)
  obtain ⟨rfl, h⟩ := h
  show jRun X T0 (d + 1) q_X3_readFrom (4, [.ref 3, .ref 1, .null], [], M1) Q
  refine jRun.call (k := jk_X3_readFrom) rfl 2 (f := q_X6_begin) (As := [.ref 1]) (c1 := (8, [.ref 3, .ref 1, .null], [], M1)) (ob := True ∧ jKd T0 1 = 6) rfl ⟨trivial, rfl⟩ h (fun v M2 h => ?_)
  obtain ⟨rfl, h⟩ := h
  show jRun X T0 (d + 1) q_X3_readFrom (8, [.ref 3, .ref 1, .null], [], M2) Q
  refine jRun.cut (k := jk_X3_readFrom) rfl 2 (c' := (10, [.ref 3, .ref 1, .int 0], [], M2)) (ob := True ∧ True ∧ True) rfl ⟨trivial, trivial, trivial⟩ ?_
  exact h
theorem v_X3_readFrom_10 {X : jX} {d : Nat} (a2 : Int32) (M : jMem) (Q : Option Value → jMem → Prop) (h : ((150 ≤ a2 → jOk X T0 d q_X3_findTargets [.ref 3] M (fun v M1 => ∃ r1, v = some (.int r1) ∧ ((r1 = 0 → Q (some (.int (M1 1 1))) M1) ∧ (¬ r1 = 0 → Q (some (.int (-1))) M1)))) ∧ (¬ 150 ≤ a2 → (((M 1 3) = 0 → jOk X T0 d q_X3_findTargets [.ref 3] M (fun v M2 => ∃ r2, v = some (.int r2) ∧ ((r2 = 0 → Q (some (.int (M2 1 1))) M2) ∧ (¬ r2 = 0 → Q (some (.int (-1))) M2)))) ∧ (¬ (M 1 3) = 0 → ((¬ a2 = 0 → jOk X T0 d q_X3_readTold [.ref 3, .ref 1, .int 0] M (fun v M3 => ∃ r3, v = some (.int r3) ∧ ((¬ r3 = 0 → jRun X T0 (d + 1) q_X3_readFrom (10, [.ref 3, .ref 1, .int (a2 + 1)], [], M3) Q) ∧ (r3 = 0 → Q (some (.int (M3 1 2))) M3)))) ∧ (a2 = 0 → jOk X T0 d q_X3_readTold [.ref 3, .ref 1, .int 1] M (fun v M4 => ∃ r4, v = some (.int r4) ∧ ((¬ r4 = 0 → jRun X T0 (d + 1) q_X3_readFrom (10, [.ref 3, .ref 1, .int (a2 + 1)], [], M4) Q) ∧ (r4 = 0 → Q (some (.int (M4 1 2))) M4)))))))))) : jRun X T0 (d + 1) q_X3_readFrom (10, [.ref 3, .ref 1, .int a2], [], M) Q := by
  refine jRun.cut (k := jk_X3_readFrom) rfl 3 (c' := (if 150 ≤ a2 then 52 else 17, [.ref 3, .ref 1, .int a2], [], M)) (ob := True ∧ True ∧ True ∧ True) rfl ⟨trivial, trivial, trivial, trivial⟩ ?_
  refine jRun.br (fun g => ?_) (fun g => ?_)
  · have h := h.1 g
    refine jRun.call (k := jk_X3_readFrom) rfl 2 (f := q_X3_findTargets) (As := [.ref 3]) (c1 := (56, [.ref 3, .ref 1, .int a2], [], M)) (ob := True ∧ jKd T0 3 = 3) rfl ⟨trivial, rfl⟩ h (fun v M1 h => ?_)
    obtain ⟨r1, rfl, h⟩ := h
    show jRun X T0 (d + 1) q_X3_readFrom (56, [.ref 3, .ref 1, .int a2], [.int r1], M1) Q
    refine jRun.cut (k := jk_X3_readFrom) rfl 1 (c' := (if r1 = 0 then 63 else 59, [.ref 3, .ref 1, .int a2], [], M1)) (ob := True ∧ True) rfl ⟨trivial, trivial⟩ ?_
    refine jRun.br (fun g => ?_) (fun g => ?_)
    · have h := h.1 g
      exact jRun.ret (k := jk_X3_readFrom) rfl 3 (v := some (.int (M1 1 1))) (M1 := M1) (ob := True ∧ jKd T0 1 = 6 ∧ True) rfl ⟨trivial, rfl, trivial⟩ h
    · have h := h.2 g
      exact jRun.ret (k := jk_X3_readFrom) rfl 3 (v := some (.int (-1))) (M1 := M1) (ob := True ∧ True ∧ True) rfl ⟨trivial, trivial, trivial⟩ h
  · have h := h.2 g
    refine jRun.cut (k := jk_X3_readFrom) rfl 3 (c' := (if (M 1 3) = 0 then 52 else 24, [.ref 3, .ref 1, .int a2], [], M)) (ob := True ∧ jKd T0 1 = 6 ∧ True ∧ True) rfl ⟨trivial, rfl, trivial, trivial⟩ ?_
    refine jRun.br (fun g => ?_) (fun g => ?_)
    · have h := h.1 g
      refine jRun.call (k := jk_X3_readFrom) rfl 2 (f := q_X3_findTargets) (As := [.ref 3]) (c1 := (56, [.ref 3, .ref 1, .int a2], [], M)) (ob := True ∧ jKd T0 3 = 3) rfl ⟨trivial, rfl⟩ h (fun v M2 h => ?_)
      obtain ⟨r2, rfl, h⟩ := h
      show jRun X T0 (d + 1) q_X3_readFrom (56, [.ref 3, .ref 1, .int a2], [.int r2], M2) Q
      refine jRun.cut (k := jk_X3_readFrom) rfl 1 (c' := (if r2 = 0 then 63 else 59, [.ref 3, .ref 1, .int a2], [], M2)) (ob := True ∧ True) rfl ⟨trivial, trivial⟩ ?_
      refine jRun.br (fun g => ?_) (fun g => ?_)
      · have h := h.1 g
        exact jRun.ret (k := jk_X3_readFrom) rfl 3 (v := some (.int (M2 1 1))) (M1 := M2) (ob := True ∧ jKd T0 1 = 6 ∧ True) rfl ⟨trivial, rfl, trivial⟩ h
      · have h := h.2 g
        exact jRun.ret (k := jk_X3_readFrom) rfl 3 (v := some (.int (-1))) (M1 := M2) (ob := True ∧ True ∧ True) rfl ⟨trivial, trivial, trivial⟩ h
    · have h := h.2 g
      refine jRun.cut (k := jk_X3_readFrom) rfl 4 (c' := (if ¬ a2 = 0 then 34 else 30, [.ref 3, .ref 1, .int a2], [.ref 1, .ref 3], M)) (ob := True ∧ True ∧ True ∧ True ∧ True) rfl ⟨trivial, trivial, trivial, trivial, trivial⟩ ?_
      refine jRun.brn (fun g => ?_) (fun g => ?_)
      · have h := h.1 g
        refine jRun.call (k := jk_X3_readFrom) rfl 2 (f := q_X3_readTold) (As := [.ref 3, .ref 1, .int 0]) (c1 := (38, [.ref 3, .ref 1, .int a2], [], M)) (ob := True ∧ jKd T0 3 = 3) rfl ⟨trivial, rfl⟩ h (fun v M3 h => ?_)
        obtain ⟨r3, rfl, h⟩ := h
        show jRun X T0 (d + 1) q_X3_readFrom (38, [.ref 3, .ref 1, .int a2], [.int r3], M3) Q
        refine jRun.cut (k := jk_X3_readFrom) rfl 1 (c' := (if ¬ r3 = 0 then 46 else 41, [.ref 3, .ref 1, .int a2], [], M3)) (ob := True ∧ True) rfl ⟨trivial, trivial⟩ ?_
        refine jRun.brn (fun g => ?_) (fun g => ?_)
        · have h := h.1 g
          refine jRun.cut (k := jk_X3_readFrom) rfl 2 (c' := (10, [.ref 3, .ref 1, .int (a2 + 1)], [], M3)) (ob := True ∧ True ∧ True) rfl ⟨trivial, trivial, trivial⟩ ?_
          exact h
        · have h := h.2 g
          exact jRun.ret (k := jk_X3_readFrom) rfl 3 (v := some (.int (M3 1 2))) (M1 := M3) (ob := True ∧ jKd T0 1 = 6 ∧ True) rfl ⟨trivial, rfl, trivial⟩ h
      · have h := h.2 g
        refine jRun.call (k := jk_X3_readFrom) rfl 3 (f := q_X3_readTold) (As := [.ref 3, .ref 1, .int 1]) (c1 := (38, [.ref 3, .ref 1, .int a2], [], M)) (ob := True ∧ True ∧ jKd T0 3 = 3) rfl ⟨trivial, trivial, rfl⟩ h (fun v M4 h => ?_)
        obtain ⟨r4, rfl, h⟩ := h
        show jRun X T0 (d + 1) q_X3_readFrom (38, [.ref 3, .ref 1, .int a2], [.int r4], M4) Q
        refine jRun.cut (k := jk_X3_readFrom) rfl 1 (c' := (if ¬ r4 = 0 then 46 else 41, [.ref 3, .ref 1, .int a2], [], M4)) (ob := True ∧ True) rfl ⟨trivial, trivial⟩ ?_
        refine jRun.brn (fun g => ?_) (fun g => ?_)
        · have h := h.1 g
          refine jRun.cut (k := jk_X3_readFrom) rfl 2 (c' := (10, [.ref 3, .ref 1, .int (a2 + 1)], [], M4)) (ob := True ∧ True ∧ True) rfl ⟨trivial, trivial, trivial⟩ ?_
          exact h
        · have h := h.2 g
          exact jRun.ret (k := jk_X3_readFrom) rfl 3 (v := some (.int (M4 1 2))) (M1 := M4) (ob := True ∧ jKd T0 1 = 6 ∧ True) rfl ⟨trivial, rfl, trivial⟩ h
theorem v_X3_empty {X : jX} {d : Nat} (hI : jInj X T0)  (M : jMem) (Q : Option Value → jMem → Prop) (h : jRun X T0 d q_X3_empty (2, [.ref 3, .int 0], [], M) Q) : jOk X T0 d q_X3_empty [.ref 3] M Q := by
  refine jOk.intro (ml := 2) (ls := [.ref 3, .null]) (jTl (by decide)) rfl (Nat.le_of_ble_eq_true rfl) rfl hI ?_
  refine jRun.cut (k := jk_X3_empty) rfl 2 (c' := (2, [.ref 3, .int 0], [], M)) (ob := True ∧ True ∧ True) rfl ⟨trivial, trivial, trivial⟩ ?_
  exact h
theorem v_X3_empty_2 {X : jX} {d : Nat} (a1 : Int32) (M : jMem) (Q : Option Value → jMem → Prop) (h : ((8 ≤ a1 → (∀ M1, M1 = jP M 3 8 0 → (∀ M2, M2 = jP M1 3 9 0 → (∀ M3, M3 = jP M2 3 10 0 → (∀ M4, M4 = jP M3 3 11 0 → (∀ M5, M5 = jP M4 3 12 0 → (∀ M6, M6 = jP M5 3 13 20 → Q none M6))))))) ∧ (¬ 8 ≤ a1 → vp_in a1 8 ∧ (∀ M7, M7 = jP M 8 a1.toNatClampNeg (-1) → jRun X T0 d q_X3_empty (2, [.ref 3, .int (a1 + 1)], [], M7) Q)))) : jRun X T0 d q_X3_empty (2, [.ref 3, .int a1], [], M) Q := by
  refine jRun.cut (k := jk_X3_empty) rfl 3 (c' := (if 8 ≤ a1 then 21 else 8, [.ref 3, .int a1], [], M)) (ob := True ∧ True ∧ True ∧ True) rfl ⟨trivial, trivial, trivial, trivial⟩ ?_
  refine jRun.br (fun g => ?_) (fun g => ?_)
  · have h := h.1 g
    refine jRun.cut (k := jk_X3_empty) rfl 3 (c' := (26, [.ref 3, .int a1], [], (jP M 3 8 0))) (ob := True ∧ True ∧ jKd T0 3 = 3 ∧ True) rfl ⟨trivial, trivial, rfl, trivial⟩ ?_
    refine jRun.nm (fun M1 eM1 => ?_)
    have h := h M1 eM1
    refine jRun.cut (k := jk_X3_empty) rfl 3 (c' := (31, [.ref 3, .int a1], [], (jP M1 3 9 0))) (ob := True ∧ True ∧ jKd T0 3 = 3 ∧ True) rfl ⟨trivial, trivial, rfl, trivial⟩ ?_
    refine jRun.nm (fun M2 eM2 => ?_)
    have h := h M2 eM2
    refine jRun.cut (k := jk_X3_empty) rfl 3 (c' := (36, [.ref 3, .int a1], [], (jP M2 3 10 0))) (ob := True ∧ True ∧ jKd T0 3 = 3 ∧ True) rfl ⟨trivial, trivial, rfl, trivial⟩ ?_
    refine jRun.nm (fun M3 eM3 => ?_)
    have h := h M3 eM3
    refine jRun.cut (k := jk_X3_empty) rfl 3 (c' := (41, [.ref 3, .int a1], [], (jP M3 3 11 0))) (ob := True ∧ True ∧ jKd T0 3 = 3 ∧ True) rfl ⟨trivial, trivial, rfl, trivial⟩ ?_
    refine jRun.nm (fun M4 eM4 => ?_)
    have h := h M4 eM4
    refine jRun.cut (k := jk_X3_empty) rfl 3 (c' := (46, [.ref 3, .int a1], [], (jP M4 3 12 0))) (ob := True ∧ True ∧ jKd T0 3 = 3 ∧ True) rfl ⟨trivial, trivial, rfl, trivial⟩ ?_
    refine jRun.nm (fun M5 eM5 => ?_)
    have h := h M5 eM5
    refine jRun.cut (k := jk_X3_empty) rfl 3 (c' := (52, [.ref 3, .int a1], [], (jP M5 3 13 20))) (ob := True ∧ True ∧ jKd T0 3 = 3 ∧ True) rfl ⟨trivial, trivial, rfl, trivial⟩ ?_
    refine jRun.nm (fun M6 eM6 => ?_)
    have h := h M6 eM6
    exact jRun.ret (k := jk_X3_empty) rfl 1 (v := none) (M1 := M6) (ob := True) rfl trivial h
  · have h := h.2 g
    obtain ⟨o1, h⟩ := h
    refine jRun.cut (k := jk_X3_empty) rfl 5 (c' := (15, [.ref 3, .int a1], [], (jP M 8 a1.toNatClampNeg (-1)))) (ob := True ∧ jKd T0 3 = 3 ∧ True ∧ True ∧ (jKd T0 8 = 9 ∧ vp_in a1 8) ∧ True) rfl ⟨trivial, rfl, trivial, trivial, ⟨rfl, o1⟩, trivial⟩ ?_
    refine jRun.nm (fun M7 eM7 => ?_)
    have h := h M7 eM7
    refine jRun.cut (k := jk_X3_empty) rfl 2 (c' := (2, [.ref 3, .int (a1 + 1)], [], M7)) (ob := True ∧ True ∧ True) rfl ⟨trivial, trivial, trivial⟩ ?_
    exact h
theorem v_X3_readTold {X : jX} {d : Nat} (hI : jInj X T0) (a2 : Int32) (M : jMem) (Q : Option Value → jMem → Prop) (h : (((M 1 3) = 1 → ((¬ ((M 1 5) + 97) = 114 → jRun X T0 (d + 1) q_X3_readTold (29, [.ref 3, .ref 1, .int a2, .int ((M 1 5) + 97), .null, .null, .null], [.int 0], M) Q) ∧ (((M 1 5) + 97) = 114 → jRun X T0 (d + 1) q_X3_readTold (29, [.ref 3, .ref 1, .int a2, .int ((M 1 5) + 97), .null, .null, .null], [.int 1], M) Q))) ∧ (¬ (M 1 3) = 1 → Q (some (.int 0)) M))) : jOk X T0 (d + 1) q_X3_readTold [.ref 3, .ref 1, .int a2] M Q := by
  refine jOk.intro (ml := 7) (ls := [.ref 3, .ref 1, .int a2, .null, .null, .null, .null]) (jTl (by decide)) rfl (Nat.le_of_ble_eq_true rfl) rfl hI ?_
  refine jRun.cut (k := jk_X3_readTold) rfl 4 (c' := (if (M 1 3) = 1 then 10 else 8, [.ref 3, .ref 1, .int a2, .null, .null, .null, .null], [], M)) (ob := True ∧ jKd T0 1 = 6 ∧ True ∧ True ∧ True) rfl ⟨trivial, rfl, trivial, trivial, trivial⟩ ?_
  refine jRun.br (fun g => ?_) (fun g => ?_)
  · have h := h.1 g
    refine jRun.cut (k := jk_X3_readTold) rfl 8 (c' := (if ¬ ((M 1 5) + 97) = 114 then 28 else 24, [.ref 3, .ref 1, .int a2, .int ((M 1 5) + 97), .null, .null, .null], [], M)) (ob := True ∧ jKd T0 1 = 6 ∧ True ∧ True ∧ True ∧ True ∧ True ∧ True ∧ True) rfl ⟨trivial, rfl, trivial, trivial, trivial, trivial, trivial, trivial, trivial⟩ ?_
    refine jRun.brn (fun g => ?_) (fun g => ?_)
    · have h := h.1 g
      refine jRun.cut (k := jk_X3_readTold) rfl 1 (c' := (29, [.ref 3, .ref 1, .int a2, .int ((M 1 5) + 97), .null, .null, .null], [.int 0], M)) (ob := True ∧ True) rfl ⟨trivial, trivial⟩ ?_
      exact h
    · have h := h.2 g
      refine jRun.cut (k := jk_X3_readTold) rfl 2 (c' := (29, [.ref 3, .ref 1, .int a2, .int ((M 1 5) + 97), .null, .null, .null], [.int 1], M)) (ob := True ∧ True ∧ True) rfl ⟨trivial, trivial, trivial⟩ ?_
      exact h
  · have h := h.2 g
    exact jRun.ret (k := jk_X3_readTold) rfl 2 (v := some (.int 0)) (M1 := M) (ob := True ∧ (0 = 0 ∨ 0 = 1)) rfl ⟨trivial, (Or.inl rfl)⟩ h
theorem v_X3_readTold_29 {X : jX} {d : Nat} (a2 : Int32) (a3 : Int32) (s0 : Int32) (M : jMem) (Q : Option Value → jMem → Prop) (h : jOk X T0 d q_X3_sortOf [.int a3] M (fun v M1 => ∃ r1, v = some (.int r1) ∧ ((s0 = 0 → jOk X T0 d q_X3_hasRoomFor [.ref 3, .int r1] M1 (fun v M2 => ∃ r2, v = some (.int r2) ∧ ((¬ r2 = 0 → jRun X T0 (d + 1) q_X3_readTold (60, [.ref 3, .ref 1, .int a2, .int a3, .int s0, .int r1, .null], [], M2) Q) ∧ (r2 = 0 → Q (some (.int 0)) M2)))) ∧ (¬ s0 = 0 → ((¬ a2 = 0 → jRun X T0 (d + 1) q_X3_readTold (60, [.ref 3, .ref 1, .int a2, .int a3, .int s0, .int r1, .null], [], M1) Q) ∧ (a2 = 0 → Q (some (.int 0)) M1)))))) : jRun X T0 (d + 1) q_X3_readTold (29, [.ref 3, .ref 1, .int a2, .int a3, .null, .null, .null], [.int s0], M) Q := by
  refine jRun.call (k := jk_X3_readTold) rfl 3 (f := q_X3_sortOf) (As := [.int a3]) (c1 := (35, [.ref 3, .ref 1, .int a2, .int a3, .int s0, .null, .null], [], M)) (ob := True ∧ True ∧ True) rfl ⟨trivial, trivial, trivial⟩ h (fun v M1 h => ?_)
  obtain ⟨r1, rfl, h⟩ := h
  show jRun X T0 (d + 1) q_X3_readTold (35, [.ref 3, .ref 1, .int a2, .int a3, .int s0, .null, .null], [.int r1], M1) Q
  refine jRun.cut (k := jk_X3_readTold) rfl 3 (c' := (if s0 = 0 then 49 else 42, [.ref 3, .ref 1, .int a2, .int a3, .int s0, .int r1, .null], [], M1)) (ob := True ∧ True ∧ True ∧ True) rfl ⟨trivial, trivial, trivial, trivial⟩ ?_
  refine jRun.br (fun g => ?_) (fun g => ?_)
  · have h := h.1 g
    refine jRun.call (k := jk_X3_readTold) rfl 3 (f := q_X3_hasRoomFor) (As := [.ref 3, .int r1]) (c1 := (55, [.ref 3, .ref 1, .int a2, .int a3, .int s0, .int r1, .null], [], M1)) (ob := True ∧ True ∧ jKd T0 3 = 3) rfl ⟨trivial, trivial, rfl⟩ h (fun v M2 h => ?_)
    obtain ⟨r2, rfl, h⟩ := h
    show jRun X T0 (d + 1) q_X3_readTold (55, [.ref 3, .ref 1, .int a2, .int a3, .int s0, .int r1, .null], [.int r2], M2) Q
    refine jRun.cut (k := jk_X3_readTold) rfl 1 (c' := (if ¬ r2 = 0 then 60 else 58, [.ref 3, .ref 1, .int a2, .int a3, .int s0, .int r1, .null], [], M2)) (ob := True ∧ True) rfl ⟨trivial, trivial⟩ ?_
    refine jRun.brn (fun g => ?_) (fun g => ?_)
    · have h := h.1 g
      exact h
    · have h := h.2 g
      exact jRun.ret (k := jk_X3_readTold) rfl 2 (v := some (.int 0)) (M1 := M2) (ob := True ∧ (0 = 0 ∨ 0 = 1)) rfl ⟨trivial, (Or.inl rfl)⟩ h
  · have h := h.2 g
    refine jRun.cut (k := jk_X3_readTold) rfl 2 (c' := (if ¬ a2 = 0 then 60 else 46, [.ref 3, .ref 1, .int a2, .int a3, .int s0, .int r1, .null], [], M1)) (ob := True ∧ True ∧ True) rfl ⟨trivial, trivial, trivial⟩ ?_
    refine jRun.brn (fun g => ?_) (fun g => ?_)
    · have h := h.1 g
      exact h
    · have h := h.2 g
      exact jRun.ret (k := jk_X3_readTold) rfl 3 (v := some (.int 0)) (M1 := M1) (ob := True ∧ True ∧ (0 = 0 ∨ 0 = 1)) rfl ⟨trivial, trivial, (Or.inl rfl)⟩ h
theorem v_X3_readTold_60 {X : jX} {d : Nat} (a2 : Int32) (a3 : Int32) (a4 : Int32) (a5 : Int32) (M : jMem) (Q : Option Value → jMem → Prop) (h : jOk X T0 d q_X6_next [.ref 1] M (fun v M1 => v = none ∧ ((a5 = 5 → jRun X T0 (d + 1) q_X3_readTold (113, [.ref 3, .ref 1, .int a2, .int a3, .int a4, .int a5, .int 0], [], M1) Q) ∧ (¬ a5 = 5 → ((a4 = 0 → jOk X T0 d q_X3_mayBeOf [.ref 3, .int a5, .ref 1] M1 (fun v M2 => ∃ r2, v = some (.int r2) ∧ ((¬ r2 = 0 → jRun X T0 (d + 1) q_X3_readTold (103, [.ref 3, .ref 1, .int a2, .int a3, .int a4, .int a5, .int 0], [], M2) Q) ∧ (r2 = 0 → Q (some (.int 0)) M2)))) ∧ (¬ a4 = 0 → jOk X T0 d q_X6_isNumber [.ref 1, .int 4, .int 127] M1 (fun v M3 => ∃ r3, v = some (.int r3) ∧ ((¬ r3 = 0 → jRun X T0 (d + 1) q_X3_readTold (103, [.ref 3, .ref 1, .int a2, .int a3, .int a4, .int a5, .int 0], [], M3) Q) ∧ (r3 = 0 → Q (some (.int 0)) M3))))))))) : jRun X T0 (d + 1) q_X3_readTold (60, [.ref 3, .ref 1, .int a2, .int a3, .int a4, .int a5, .null], [], M) Q := by
  refine jRun.call (k := jk_X3_readTold) rfl 2 (f := q_X6_next) (As := [.ref 1]) (c1 := (64, [.ref 3, .ref 1, .int a2, .int a3, .int a4, .int a5, .null], [], M)) (ob := True ∧ jKd T0 1 = 6) rfl ⟨trivial, rfl⟩ h (fun v M1 h => ?_)
  obtain ⟨rfl, h⟩ := h
  show jRun X T0 (d + 1) q_X3_readTold (64, [.ref 3, .ref 1, .int a2, .int a3, .int a4, .int a5, .null], [], M1) Q
  refine jRun.cut (k := jk_X3_readTold) rfl 5 (c' := (if a5 = 5 then 113 else 73, [.ref 3, .ref 1, .int a2, .int a3, .int a4, .int a5, .int 0], [], M1)) (ob := True ∧ True ∧ True ∧ True ∧ True ∧ True) rfl ⟨trivial, trivial, trivial, trivial, trivial, trivial⟩ ?_
  refine jRun.br (fun g => ?_) (fun g => ?_)
  · have h := h.1 g
    exact h
  · have h := h.2 g
    refine jRun.cut (k := jk_X3_readTold) rfl 2 (c' := (if a4 = 0 then 91 else 78, [.ref 3, .ref 1, .int a2, .int a3, .int a4, .int a5, .int 0], [], M1)) (ob := True ∧ True ∧ True) rfl ⟨trivial, trivial, trivial⟩ ?_
    refine jRun.br (fun g => ?_) (fun g => ?_)
    · have h := h.1 g
      refine jRun.call (k := jk_X3_readTold) rfl 4 (f := q_X3_mayBeOf) (As := [.ref 3, .int a5, .ref 1]) (c1 := (98, [.ref 3, .ref 1, .int a2, .int a3, .int a4, .int a5, .int 0], [], M1)) (ob := True ∧ True ∧ True ∧ jKd T0 3 = 3) rfl ⟨trivial, trivial, trivial, rfl⟩ h (fun v M2 h => ?_)
      obtain ⟨r2, rfl, h⟩ := h
      show jRun X T0 (d + 1) q_X3_readTold (98, [.ref 3, .ref 1, .int a2, .int a3, .int a4, .int a5, .int 0], [.int r2], M2) Q
      refine jRun.cut (k := jk_X3_readTold) rfl 1 (c' := (if ¬ r2 = 0 then 103 else 101, [.ref 3, .ref 1, .int a2, .int a3, .int a4, .int a5, .int 0], [], M2)) (ob := True ∧ True) rfl ⟨trivial, trivial⟩ ?_
      refine jRun.brn (fun g => ?_) (fun g => ?_)
      · have h := h.1 g
        exact h
      · have h := h.2 g
        exact jRun.ret (k := jk_X3_readTold) rfl 2 (v := some (.int 0)) (M1 := M2) (ob := True ∧ (0 = 0 ∨ 0 = 1)) rfl ⟨trivial, (Or.inl rfl)⟩ h
    · have h := h.2 g
      refine jRun.call (k := jk_X3_readTold) rfl 4 (f := q_X6_isNumber) (As := [.ref 1, .int 4, .int 127]) (c1 := (85, [.ref 3, .ref 1, .int a2, .int a3, .int a4, .int a5, .int 0], [], M1)) (ob := True ∧ True ∧ True ∧ jKd T0 1 = 6) rfl ⟨trivial, trivial, trivial, rfl⟩ h (fun v M3 h => ?_)
      obtain ⟨r3, rfl, h⟩ := h
      show jRun X T0 (d + 1) q_X3_readTold (85, [.ref 3, .ref 1, .int a2, .int a3, .int a4, .int a5, .int 0], [.int r3], M3) Q
      refine jRun.cut (k := jk_X3_readTold) rfl 1 (c' := (if ¬ r3 = 0 then 103 else 88, [.ref 3, .ref 1, .int a2, .int a3, .int a4, .int a5, .int 0], [], M3)) (ob := True ∧ True) rfl ⟨trivial, trivial⟩ ?_
      refine jRun.brn (fun g => ?_) (fun g => ?_)
      · have h := h.1 g
        exact h
      · have h := h.2 g
        exact jRun.ret (k := jk_X3_readTold) rfl 3 (v := some (.int 0)) (M1 := M3) (ob := True ∧ True ∧ (0 = 0 ∨ 0 = 1)) rfl ⟨trivial, trivial, (Or.inl rfl)⟩ h
theorem v_X3_readTold_103 {X : jX} {d : Nat} (a2 : Int32) (a3 : Int32) (a4 : Int32) (a5 : Int32) (a6 : Int32) (M : jMem) (Q : Option Value → jMem → Prop) (h : jOk X T0 d q_X6_next [.ref 1] M (fun v M1 => v = none ∧ jRun X T0 (d + 1) q_X3_readTold (113, [.ref 3, .ref 1, .int a2, .int a3, .int a4, .int a5, .int (M 1 5)], [], M1) Q)) : jRun X T0 (d + 1) q_X3_readTold (103, [.ref 3, .ref 1, .int a2, .int a3, .int a4, .int a5, .int a6], [], M) Q := by
  refine jRun.call (k := jk_X3_readTold) rfl 5 (f := q_X6_next) (As := [.ref 1]) (c1 := (113, [.ref 3, .ref 1, .int a2, .int a3, .int a4, .int a5, .int (M 1 5)], [], M)) (ob := True ∧ jKd T0 1 = 6 ∧ True ∧ True ∧ jKd T0 1 = 6) rfl ⟨trivial, rfl, trivial, trivial, rfl⟩ h (fun v M1 h => ?_)
  obtain ⟨rfl, h⟩ := h
  show jRun X T0 (d + 1) q_X3_readTold (113, [.ref 3, .ref 1, .int a2, .int a3, .int a4, .int a5, .int (M 1 5)], [], M1) Q
  exact h
theorem v_X3_readTold_113 {X : jX} {d : Nat} (a2 : Int32) (a3 : Int32) (a4 : Int32) (a5 : Int32) (a6 : Int32) (M : jMem) (Q : Option Value → jMem → Prop) (h : (((M 1 3) = 3 → ((a4 = 0 → jOk X T0 d q_X3_add [.ref 3, .int a5, .int a6] M (fun v M1 => v = none ∧ jRun X T0 (d + 1) q_X3_readTold (145, [.ref 3, .ref 1, .int a2, .int a3, .int a4, .int a5, .int a6], [], M1) Q)) ∧ (¬ a4 = 0 → (∀ M2, M2 = jP M 3 13 a6 → jRun X T0 (d + 1) q_X3_readTold (145, [.ref 3, .ref 1, .int a2, .int a3, .int a4, .int a5, .int a6], [], M2) Q)))) ∧ (¬ (M 1 3) = 3 → Q (some (.int 0)) M))) : jRun X T0 (d + 1) q_X3_readTold (113, [.ref 3, .ref 1, .int a2, .int a3, .int a4, .int a5, .int a6], [], M) Q := by
  refine jRun.cut (k := jk_X3_readTold) rfl 4 (c' := (if (M 1 3) = 3 then 123 else 121, [.ref 3, .ref 1, .int a2, .int a3, .int a4, .int a5, .int a6], [], M)) (ob := True ∧ jKd T0 1 = 6 ∧ True ∧ True ∧ True) rfl ⟨trivial, rfl, trivial, trivial, trivial⟩ ?_
  refine jRun.br (fun g => ?_) (fun g => ?_)
  · have h := h.1 g
    refine jRun.cut (k := jk_X3_readTold) rfl 2 (c' := (if a4 = 0 then 137 else 128, [.ref 3, .ref 1, .int a2, .int a3, .int a4, .int a5, .int a6], [], M)) (ob := True ∧ True ∧ True) rfl ⟨trivial, trivial, trivial⟩ ?_
    refine jRun.br (fun g => ?_) (fun g => ?_)
    · have h := h.1 g
      refine jRun.call (k := jk_X3_readTold) rfl 4 (f := q_X3_add) (As := [.ref 3, .int a5, .int a6]) (c1 := (145, [.ref 3, .ref 1, .int a2, .int a3, .int a4, .int a5, .int a6], [], M)) (ob := True ∧ True ∧ True ∧ jKd T0 3 = 3) rfl ⟨trivial, trivial, trivial, rfl⟩ h (fun v M1 h => ?_)
      obtain ⟨rfl, h⟩ := h
      show jRun X T0 (d + 1) q_X3_readTold (145, [.ref 3, .ref 1, .int a2, .int a3, .int a4, .int a5, .int a6], [], M1) Q
      exact h
    · have h := h.2 g
      refine jRun.cut (k := jk_X3_readTold) rfl 3 (c' := (134, [.ref 3, .ref 1, .int a2, .int a3, .int a4, .int a5, .int a6], [], (jP M 3 13 a6))) (ob := True ∧ True ∧ jKd T0 3 = 3 ∧ True) rfl ⟨trivial, trivial, rfl, trivial⟩ ?_
      refine jRun.nm (fun M2 eM2 => ?_)
      have h := h M2 eM2
      refine jRun.cut (k := jk_X3_readTold) rfl 1 (c' := (145, [.ref 3, .ref 1, .int a2, .int a3, .int a4, .int a5, .int a6], [], M2)) (ob := True ∧ True) rfl ⟨trivial, trivial⟩ ?_
      exact h
  · have h := h.2 g
    exact jRun.ret (k := jk_X3_readTold) rfl 2 (v := some (.int 0)) (M1 := M) (ob := True ∧ (0 = 0 ∨ 0 = 1)) rfl ⟨trivial, (Or.inl rfl)⟩ h
theorem v_X3_readTold_145 {X : jX} {d : Nat} (a2 : Int32) (a3 : Int32) (a4 : Int32) (a5 : Int32) (a6 : Int32) (M : jMem) (Q : Option Value → jMem → Prop) (h : jOk X T0 d q_X6_next [.ref 1] M (fun v M1 => v = none ∧ Q (some (.int 1)) M1)) : jRun X T0 (d + 1) q_X3_readTold (145, [.ref 3, .ref 1, .int a2, .int a3, .int a4, .int a5, .int a6], [], M) Q := by
  refine jRun.call (k := jk_X3_readTold) rfl 2 (f := q_X6_next) (As := [.ref 1]) (c1 := (149, [.ref 3, .ref 1, .int a2, .int a3, .int a4, .int a5, .int a6], [], M)) (ob := True ∧ jKd T0 1 = 6) rfl ⟨trivial, rfl⟩ h (fun v M1 h => ?_)
  obtain ⟨rfl, h⟩ := h
  show jRun X T0 (d + 1) q_X3_readTold (149, [.ref 3, .ref 1, .int a2, .int a3, .int a4, .int a5, .int a6], [], M1) Q
  exact jRun.ret (k := jk_X3_readTold) rfl 2 (v := some (.int 1)) (M1 := M1) (ob := True ∧ (1 = 0 ∨ 1 = 1)) rfl ⟨trivial, (Or.inr rfl)⟩ h
theorem v_X3_sortOf {X : jX} {d : Nat} (hI : jInj X T0) (a0 : Int32) (M : jMem) (Q : Option Value → jMem → Prop) (h : ((a0 = 97 → Q (some (.int 3)) M) ∧ (¬ a0 = 97 → ((a0 = 98 → Q (some (.int (-1))) M) ∧ (¬ a0 = 98 → ((a0 = 99 → Q (some (.int 4)) M) ∧ (¬ a0 = 99 → ((a0 = 100 → Q (some (.int (-1))) M) ∧ (¬ a0 = 100 → ((a0 = 101 → Q (some (.int (-1))) M) ∧ (¬ a0 = 101 → ((a0 = 102 → Q (some (.int (-1))) M) ∧ (¬ a0 = 102 → ((a0 = 103 → Q (some (.int (-1))) M) ∧ (¬ a0 = 103 → ((a0 = 104 → Q (some (.int (-1))) M) ∧ (¬ a0 = 104 → ((a0 = 105 → Q (some (.int 5)) M) ∧ (¬ a0 = 105 → ((a0 = 106 → Q (some (.int 2)) M) ∧ (¬ a0 = 106 → ((a0 = 107 → Q (some (.int (-1))) M) ∧ (¬ a0 = 107 → ((a0 = 108 → Q (some (.int 1)) M) ∧ (¬ a0 = 108 → ((a0 = 109 → Q (some (.int (-1))) M) ∧ (¬ a0 = 109 → ((a0 = 110 → Q (some (.int (-1))) M) ∧ (¬ a0 = 110 → ((a0 = 111 → Q (some (.int 0)) M) ∧ (¬ a0 = 111 → Q (some (.int (-1))) M))))))))))))))))))))))))))))))) : jOk X T0 d q_X3_sortOf [.int a0] M Q := by
  refine jOk.intro (ml := 1) (ls := [.int a0]) (jTl (by decide)) rfl (Nat.le_of_ble_eq_true rfl) rfl hI ?_
  refine jRun.cut (k := jk_X3_sortOf) rfl 2 (c' := (if a0 = 97 then 82 else if a0 = 98 then 88 else if a0 = 99 then 84 else if a0 = 100 then 88 else if a0 = 101 then 88 else if a0 = 102 then 88 else if a0 = 103 then 88 else if a0 = 104 then 88 else if a0 = 105 then 86 else if a0 = 106 then 80 else if a0 = 107 then 88 else if a0 = 108 then 78 else if a0 = 109 then 88 else if a0 = 110 then 88 else if a0 = 111 then 76 else 88, [.int a0], [], M)) (ob := True ∧ True ∧ True) rfl ⟨trivial, trivial, trivial⟩ ?_
  refine jRun.br (fun g => ?_) (fun g => ?_)
  · have h := h.1 g
    exact jRun.ret (k := jk_X3_sortOf) rfl 2 (v := some (.int 3)) (M1 := M) (ob := True ∧ True) rfl ⟨trivial, trivial⟩ h
  · have h := h.2 g
    refine jRun.br (fun g => ?_) (fun g => ?_)
    · have h := h.1 g
      exact jRun.ret (k := jk_X3_sortOf) rfl 2 (v := some (.int (-1))) (M1 := M) (ob := True ∧ True) rfl ⟨trivial, trivial⟩ h
    · have h := h.2 g
      refine jRun.br (fun g => ?_) (fun g => ?_)
      · have h := h.1 g
        exact jRun.ret (k := jk_X3_sortOf) rfl 2 (v := some (.int 4)) (M1 := M) (ob := True ∧ True) rfl ⟨trivial, trivial⟩ h
      · have h := h.2 g
        refine jRun.br (fun g => ?_) (fun g => ?_)
        · have h := h.1 g
          exact jRun.ret (k := jk_X3_sortOf) rfl 2 (v := some (.int (-1))) (M1 := M) (ob := True ∧ True) rfl ⟨trivial, trivial⟩ h
        · have h := h.2 g
          refine jRun.br (fun g => ?_) (fun g => ?_)
          · have h := h.1 g
            exact jRun.ret (k := jk_X3_sortOf) rfl 2 (v := some (.int (-1))) (M1 := M) (ob := True ∧ True) rfl ⟨trivial, trivial⟩ h
          · have h := h.2 g
            refine jRun.br (fun g => ?_) (fun g => ?_)
            · have h := h.1 g
              exact jRun.ret (k := jk_X3_sortOf) rfl 2 (v := some (.int (-1))) (M1 := M) (ob := True ∧ True) rfl ⟨trivial, trivial⟩ h
            · have h := h.2 g
              refine jRun.br (fun g => ?_) (fun g => ?_)
              · have h := h.1 g
                exact jRun.ret (k := jk_X3_sortOf) rfl 2 (v := some (.int (-1))) (M1 := M) (ob := True ∧ True) rfl ⟨trivial, trivial⟩ h
              · have h := h.2 g
                refine jRun.br (fun g => ?_) (fun g => ?_)
                · have h := h.1 g
                  exact jRun.ret (k := jk_X3_sortOf) rfl 2 (v := some (.int (-1))) (M1 := M) (ob := True ∧ True) rfl ⟨trivial, trivial⟩ h
                · have h := h.2 g
                  refine jRun.br (fun g => ?_) (fun g => ?_)
                  · have h := h.1 g
                    exact jRun.ret (k := jk_X3_sortOf) rfl 2 (v := some (.int 5)) (M1 := M) (ob := True ∧ True) rfl ⟨trivial, trivial⟩ h
                  · have h := h.2 g
                    refine jRun.br (fun g => ?_) (fun g => ?_)
                    · have h := h.1 g
                      exact jRun.ret (k := jk_X3_sortOf) rfl 2 (v := some (.int 2)) (M1 := M) (ob := True ∧ True) rfl ⟨trivial, trivial⟩ h
                    · have h := h.2 g
                      refine jRun.br (fun g => ?_) (fun g => ?_)
                      · have h := h.1 g
                        exact jRun.ret (k := jk_X3_sortOf) rfl 2 (v := some (.int (-1))) (M1 := M) (ob := True ∧ True) rfl ⟨trivial, trivial⟩ h
                      · have h := h.2 g
                        refine jRun.br (fun g => ?_) (fun g => ?_)
                        · have h := h.1 g
                          exact jRun.ret (k := jk_X3_sortOf) rfl 2 (v := some (.int 1)) (M1 := M) (ob := True ∧ True) rfl ⟨trivial, trivial⟩ h
                        · have h := h.2 g
                          refine jRun.br (fun g => ?_) (fun g => ?_)
                          · have h := h.1 g
                            exact jRun.ret (k := jk_X3_sortOf) rfl 2 (v := some (.int (-1))) (M1 := M) (ob := True ∧ True) rfl ⟨trivial, trivial⟩ h
                          · have h := h.2 g
                            refine jRun.br (fun g => ?_) (fun g => ?_)
                            · have h := h.1 g
                              exact jRun.ret (k := jk_X3_sortOf) rfl 2 (v := some (.int (-1))) (M1 := M) (ob := True ∧ True) rfl ⟨trivial, trivial⟩ h
                            · have h := h.2 g
                              refine jRun.br (fun g => ?_) (fun g => ?_)
                              · have h := h.1 g
                                exact jRun.ret (k := jk_X3_sortOf) rfl 2 (v := some (.int 0)) (M1 := M) (ob := True ∧ True) rfl ⟨trivial, trivial⟩ h
                              · have h := h.2 g
                                exact jRun.ret (k := jk_X3_sortOf) rfl 2 (v := some (.int (-1))) (M1 := M) (ob := True ∧ True) rfl ⟨trivial, trivial⟩ h
theorem v_X3_hasRoomFor {X : jX} {d : Nat} (hI : jInj X T0) (a1 : Int32) (M : jMem) (Q : Option Value → jMem → Prop) (h : ((a1 < 0 → Q (some (.int 0)) M) ∧ (¬ a1 < 0 → (((M 3 8) < 32 → ((¬ a1 = 2 → ((¬ a1 = 4 → ((¬ a1 = 5 → Q (some (.int 1)) M) ∧ (a1 = 5 → ((3 ≤ (M 3 12) → Q (some (.int 0)) M) ∧ (¬ 3 ≤ (M 3 12) → Q (some (.int 1)) M))))) ∧ (a1 = 4 → ((6 ≤ (M 3 11) → Q (some (.int 0)) M) ∧ (¬ 6 ≤ (M 3 11) → Q (some (.int 1)) M))))) ∧ (a1 = 2 → ((10 ≤ (M 3 10) → Q (some (.int 0)) M) ∧ (¬ 10 ≤ (M 3 10) → Q (some (.int 1)) M))))) ∧ (¬ (M 3 8) < 32 → Q (some (.int 0)) M))))) : jOk X T0 d q_X3_hasRoomFor [.ref 3, .int a1] M Q := by
  refine jOk.intro (ml := 2) (ls := [.ref 3, .int a1]) (jTl (by decide)) rfl (Nat.le_of_ble_eq_true rfl) rfl hI ?_
  refine jRun.cut (k := jk_X3_hasRoomFor) rfl 2 (c' := (if a1 < 0 then 13 else 4, [.ref 3, .int a1], [], M)) (ob := True ∧ True ∧ True) rfl ⟨trivial, trivial, trivial⟩ ?_
  refine jRun.br (fun g => ?_) (fun g => ?_)
  · have h := h.1 g
    exact jRun.ret (k := jk_X3_hasRoomFor) rfl 2 (v := some (.int 0)) (M1 := M) (ob := True ∧ (0 = 0 ∨ 0 = 1)) rfl ⟨trivial, (Or.inl rfl)⟩ h
  · have h := h.2 g
    refine jRun.cut (k := jk_X3_hasRoomFor) rfl 4 (c' := (if (M 3 8) < 32 then 15 else 13, [.ref 3, .int a1], [], M)) (ob := True ∧ jKd T0 3 = 3 ∧ True ∧ True ∧ True) rfl ⟨trivial, rfl, trivial, trivial, trivial⟩ ?_
    refine jRun.br (fun g => ?_) (fun g => ?_)
    · have h := h.1 g
      refine jRun.cut (k := jk_X3_hasRoomFor) rfl 3 (c' := (if ¬ a1 = 2 then 35 else 20, [.ref 3, .int a1], [], M)) (ob := True ∧ True ∧ True ∧ True) rfl ⟨trivial, trivial, trivial, trivial⟩ ?_
      refine jRun.brn (fun g => ?_) (fun g => ?_)
      · have h := h.1 g
        refine jRun.cut (k := jk_X3_hasRoomFor) rfl 3 (c' := (if ¬ a1 = 4 then 55 else 40, [.ref 3, .int a1], [], M)) (ob := True ∧ True ∧ True ∧ True) rfl ⟨trivial, trivial, trivial, trivial⟩ ?_
        refine jRun.brn (fun g => ?_) (fun g => ?_)
        · have h := h.1 g
          refine jRun.cut (k := jk_X3_hasRoomFor) rfl 3 (c' := (if ¬ a1 = 5 then 68 else 60, [.ref 3, .int a1], [], M)) (ob := True ∧ True ∧ True ∧ True) rfl ⟨trivial, trivial, trivial, trivial⟩ ?_
          refine jRun.brn (fun g => ?_) (fun g => ?_)
          · have h := h.1 g
            exact jRun.ret (k := jk_X3_hasRoomFor) rfl 3 (v := some (.int 1)) (M1 := M) (ob := True ∧ True ∧ (1 = 0 ∨ 1 = 1)) rfl ⟨trivial, trivial, (Or.inr rfl)⟩ h
          · have h := h.2 g
            refine jRun.cut (k := jk_X3_hasRoomFor) rfl 4 (c' := (if 3 ≤ (M 3 12) then 72 else 68, [.ref 3, .int a1], [], M)) (ob := True ∧ jKd T0 3 = 3 ∧ True ∧ True ∧ True) rfl ⟨trivial, rfl, trivial, trivial, trivial⟩ ?_
            refine jRun.br (fun g => ?_) (fun g => ?_)
            · have h := h.1 g
              exact jRun.ret (k := jk_X3_hasRoomFor) rfl 2 (v := some (.int 0)) (M1 := M) (ob := True ∧ (0 = 0 ∨ 0 = 1)) rfl ⟨trivial, (Or.inl rfl)⟩ h
            · have h := h.2 g
              exact jRun.ret (k := jk_X3_hasRoomFor) rfl 3 (v := some (.int 1)) (M1 := M) (ob := True ∧ True ∧ (1 = 0 ∨ 1 = 1)) rfl ⟨trivial, trivial, (Or.inr rfl)⟩ h
        · have h := h.2 g
          refine jRun.cut (k := jk_X3_hasRoomFor) rfl 4 (c' := (if 6 ≤ (M 3 11) then 53 else 49, [.ref 3, .int a1], [], M)) (ob := True ∧ jKd T0 3 = 3 ∧ True ∧ True ∧ True) rfl ⟨trivial, rfl, trivial, trivial, trivial⟩ ?_
          refine jRun.br (fun g => ?_) (fun g => ?_)
          · have h := h.1 g
            exact jRun.ret (k := jk_X3_hasRoomFor) rfl 2 (v := some (.int 0)) (M1 := M) (ob := True ∧ (0 = 0 ∨ 0 = 1)) rfl ⟨trivial, (Or.inl rfl)⟩ h
          · have h := h.2 g
            exact jRun.ret (k := jk_X3_hasRoomFor) rfl 3 (v := some (.int 1)) (M1 := M) (ob := True ∧ True ∧ (1 = 0 ∨ 1 = 1)) rfl ⟨trivial, trivial, (Or.inr rfl)⟩ h
      · have h := h.2 g
        refine jRun.cut (k := jk_X3_hasRoomFor) rfl 4 (c' := (if 10 ≤ (M 3 10) then 33 else 29, [.ref 3, .int a1], [], M)) (ob := True ∧ jKd T0 3 = 3 ∧ True ∧ True ∧ True) rfl ⟨trivial, rfl, trivial, trivial, trivial⟩ ?_
        refine jRun.br (fun g => ?_) (fun g => ?_)
        · have h := h.1 g
          exact jRun.ret (k := jk_X3_hasRoomFor) rfl 2 (v := some (.int 0)) (M1 := M) (ob := True ∧ (0 = 0 ∨ 0 = 1)) rfl ⟨trivial, (Or.inl rfl)⟩ h
        · have h := h.2 g
          exact jRun.ret (k := jk_X3_hasRoomFor) rfl 3 (v := some (.int 1)) (M1 := M) (ob := True ∧ True ∧ (1 = 0 ∨ 1 = 1)) rfl ⟨trivial, trivial, (Or.inr rfl)⟩ h
    · have h := h.2 g
      exact jRun.ret (k := jk_X3_hasRoomFor) rfl 2 (v := some (.int 0)) (M1 := M) (ob := True ∧ (0 = 0 ∨ 0 = 1)) rfl ⟨trivial, (Or.inl rfl)⟩ h
theorem v_X3_mayBeOf {X : jX} {d : Nat} (hI : jInj X T0) (a1 : Int32) (M : jMem) (Q : Option Value → jMem → Prop) (h : ((a1 = 0 → jOk X T0 d q_X6_isNumber [.ref 1, .int 1, .int 60] M (fun v M1 => ∃ r1, v = some (.int r1) ∧ (r1 = 0 ∨ r1 = 1) ∧ Q (some (.int r1)) M1)) ∧ (¬ a1 = 0 → ((a1 = 1 → jOk X T0 d q_X6_isLabel [.ref 1] M (fun v M2 => ∃ r2, v = some (.int r2) ∧ ((r2 = 0 → Q (some (.int 0)) M2) ∧ (¬ r2 = 0 → jOk X T0 d q_X3_hasLabel [.ref 3, .int (M2 1 5)] M2 (fun v M3 => ∃ r3, v = some (.int r3) ∧ ((¬ r3 = 0 → Q (some (.int 0)) M3) ∧ (r3 = 0 → Q (some (.int 1)) M3))))))) ∧ (¬ a1 = 1 → ((a1 = 2 → jOk X T0 d q_X6_isLabel [.ref 1] M (fun v M4 => ∃ r4, v = some (.int r4) ∧ (r4 = 0 ∨ r4 = 1) ∧ Q (some (.int r4)) M4)) ∧ (¬ a1 = 2 → ((a1 = 3 → jOk X T0 d q_X6_isNumber [.ref 1, .int 2, .int 16] M (fun v M5 => ∃ r5, v = some (.int r5) ∧ ((r5 = 0 → Q (some (.int 0)) M5) ∧ (¬ r5 = 0 → jOk X T0 d q_J6_bitCount_0f7a4 [.int (M5 1 5)] M5 (fun v M6 => ∃ r6, v = some (.int r6) ∧ ((¬ r6 = 1 → Q (some (.int 0)) M6) ∧ (r6 = 1 → Q (some (.int 1)) M6))))))) ∧ (¬ a1 = 3 → jOk X T0 d q_X6_isLabel [.ref 1] M (fun v M7 => ∃ r7, v = some (.int r7) ∧ (r7 = 0 ∨ r7 = 1) ∧ Q (some (.int r7)) M7)))))))))) : jOk X T0 (d + 1) q_X3_mayBeOf [.ref 3, .int a1, .ref 1] M Q := by
  refine jOk.intro (ml := 3) (ls := [.ref 3, .int a1, .ref 1]) (jTl (by decide)) rfl (Nat.le_of_ble_eq_true rfl) rfl hI ?_
  refine jRun.cut (k := jk_X3_mayBeOf) rfl 2 (c' := (if a1 = 0 then 32 else if a1 = 1 then 40 else if a1 = 2 then 91 else if a1 = 3 then 64 else 91, [.ref 3, .int a1, .ref 1], [], M)) (ob := True ∧ True ∧ True) rfl ⟨trivial, trivial, trivial⟩ ?_
  refine jRun.br (fun g => ?_) (fun g => ?_)
  · have h := h.1 g
    refine jRun.call (k := jk_X3_mayBeOf) rfl 4 (f := q_X6_isNumber) (As := [.ref 1, .int 1, .int 60]) (c1 := (39, [.ref 3, .int a1, .ref 1], [], M)) (ob := True ∧ True ∧ True ∧ jKd T0 1 = 6) rfl ⟨trivial, trivial, trivial, rfl⟩ h (fun v M1 h => ?_)
    obtain ⟨r1, rfl, h⟩ := h
    show jRun X T0 (d + 1) q_X3_mayBeOf (39, [.ref 3, .int a1, .ref 1], [.int r1], M1) Q
    obtain ⟨o1, h⟩ := h
    exact jRun.ret (k := jk_X3_mayBeOf) rfl 1 (v := some (.int r1)) (M1 := M1) (ob := (r1 = 0 ∨ r1 = 1)) rfl o1 h
  · have h := h.2 g
    refine jRun.br (fun g => ?_) (fun g => ?_)
    · have h := h.1 g
      refine jRun.call (k := jk_X3_mayBeOf) rfl 2 (f := q_X6_isLabel) (As := [.ref 1]) (c1 := (44, [.ref 3, .int a1, .ref 1], [], M)) (ob := True ∧ jKd T0 1 = 6) rfl ⟨trivial, rfl⟩ h (fun v M2 h => ?_)
      obtain ⟨r2, rfl, h⟩ := h
      show jRun X T0 (d + 1) q_X3_mayBeOf (44, [.ref 3, .int a1, .ref 1], [.int r2], M2) Q
      refine jRun.cut (k := jk_X3_mayBeOf) rfl 1 (c' := (if r2 = 0 then 62 else 47, [.ref 3, .int a1, .ref 1], [], M2)) (ob := True ∧ True) rfl ⟨trivial, trivial⟩ ?_
      refine jRun.br (fun g => ?_) (fun g => ?_)
      · have h := h.1 g
        exact jRun.ret (k := jk_X3_mayBeOf) rfl 2 (v := some (.int 0)) (M1 := M2) (ob := True ∧ (0 = 0 ∨ 0 = 1)) rfl ⟨trivial, (Or.inl rfl)⟩ h
      · have h := h.2 g
        refine jRun.call (k := jk_X3_mayBeOf) rfl 4 (f := q_X3_hasLabel) (As := [.ref 3, .int (M2 1 5)]) (c1 := (55, [.ref 3, .int a1, .ref 1], [], M2)) (ob := True ∧ True ∧ jKd T0 1 = 6 ∧ jKd T0 3 = 3) rfl ⟨trivial, trivial, rfl, rfl⟩ h (fun v M3 h => ?_)
        obtain ⟨r3, rfl, h⟩ := h
        show jRun X T0 (d + 1) q_X3_mayBeOf (55, [.ref 3, .int a1, .ref 1], [.int r3], M3) Q
        refine jRun.cut (k := jk_X3_mayBeOf) rfl 1 (c' := (if ¬ r3 = 0 then 62 else 58, [.ref 3, .int a1, .ref 1], [], M3)) (ob := True ∧ True) rfl ⟨trivial, trivial⟩ ?_
        refine jRun.brn (fun g => ?_) (fun g => ?_)
        · have h := h.1 g
          exact jRun.ret (k := jk_X3_mayBeOf) rfl 2 (v := some (.int 0)) (M1 := M3) (ob := True ∧ (0 = 0 ∨ 0 = 1)) rfl ⟨trivial, (Or.inl rfl)⟩ h
        · have h := h.2 g
          exact jRun.ret (k := jk_X3_mayBeOf) rfl 3 (v := some (.int 1)) (M1 := M3) (ob := True ∧ True ∧ (1 = 0 ∨ 1 = 1)) rfl ⟨trivial, trivial, (Or.inr rfl)⟩ h
    · have h := h.2 g
      refine jRun.br (fun g => ?_) (fun g => ?_)
      · have h := h.1 g
        refine jRun.call (k := jk_X3_mayBeOf) rfl 2 (f := q_X6_isLabel) (As := [.ref 1]) (c1 := (95, [.ref 3, .int a1, .ref 1], [], M)) (ob := True ∧ jKd T0 1 = 6) rfl ⟨trivial, rfl⟩ h (fun v M4 h => ?_)
        obtain ⟨r4, rfl, h⟩ := h
        show jRun X T0 (d + 1) q_X3_mayBeOf (95, [.ref 3, .int a1, .ref 1], [.int r4], M4) Q
        obtain ⟨o2, h⟩ := h
        exact jRun.ret (k := jk_X3_mayBeOf) rfl 1 (v := some (.int r4)) (M1 := M4) (ob := (r4 = 0 ∨ r4 = 1)) rfl o2 h
      · have h := h.2 g
        refine jRun.br (fun g => ?_) (fun g => ?_)
        · have h := h.1 g
          refine jRun.call (k := jk_X3_mayBeOf) rfl 4 (f := q_X6_isNumber) (As := [.ref 1, .int 2, .int 16]) (c1 := (71, [.ref 3, .int a1, .ref 1], [], M)) (ob := True ∧ True ∧ True ∧ jKd T0 1 = 6) rfl ⟨trivial, trivial, trivial, rfl⟩ h (fun v M5 h => ?_)
          obtain ⟨r5, rfl, h⟩ := h
          show jRun X T0 (d + 1) q_X3_mayBeOf (71, [.ref 3, .int a1, .ref 1], [.int r5], M5) Q
          refine jRun.cut (k := jk_X3_mayBeOf) rfl 1 (c' := (if r5 = 0 then 89 else 74, [.ref 3, .int a1, .ref 1], [], M5)) (ob := True ∧ True) rfl ⟨trivial, trivial⟩ ?_
          refine jRun.br (fun g => ?_) (fun g => ?_)
          · have h := h.1 g
            exact jRun.ret (k := jk_X3_mayBeOf) rfl 2 (v := some (.int 0)) (M1 := M5) (ob := True ∧ (0 = 0 ∨ 0 = 1)) rfl ⟨trivial, (Or.inl rfl)⟩ h
          · have h := h.2 g
            refine jRun.call (k := jk_X3_mayBeOf) rfl 3 (f := q_J6_bitCount_0f7a4) (As := [.int (M5 1 5)]) (c1 := (81, [.ref 3, .int a1, .ref 1], [], M5)) (ob := True ∧ jKd T0 1 = 6 ∧ True) rfl ⟨trivial, rfl, trivial⟩ h (fun v M6 h => ?_)
            obtain ⟨r6, rfl, h⟩ := h
            show jRun X T0 (d + 1) q_X3_mayBeOf (81, [.ref 3, .int a1, .ref 1], [.int r6], M6) Q
            refine jRun.cut (k := jk_X3_mayBeOf) rfl 2 (c' := (if ¬ r6 = 1 then 89 else 85, [.ref 3, .int a1, .ref 1], [], M6)) (ob := True ∧ True ∧ True) rfl ⟨trivial, trivial, trivial⟩ ?_
            refine jRun.brn (fun g => ?_) (fun g => ?_)
            · have h := h.1 g
              exact jRun.ret (k := jk_X3_mayBeOf) rfl 2 (v := some (.int 0)) (M1 := M6) (ob := True ∧ (0 = 0 ∨ 0 = 1)) rfl ⟨trivial, (Or.inl rfl)⟩ h
            · have h := h.2 g
              exact jRun.ret (k := jk_X3_mayBeOf) rfl 3 (v := some (.int 1)) (M1 := M6) (ob := True ∧ True ∧ (1 = 0 ∨ 1 = 1)) rfl ⟨trivial, trivial, (Or.inr rfl)⟩ h
        · have h := h.2 g
          refine jRun.call (k := jk_X3_mayBeOf) rfl 2 (f := q_X6_isLabel) (As := [.ref 1]) (c1 := (95, [.ref 3, .int a1, .ref 1], [], M)) (ob := True ∧ jKd T0 1 = 6) rfl ⟨trivial, rfl⟩ h (fun v M7 h => ?_)
          obtain ⟨r7, rfl, h⟩ := h
          show jRun X T0 (d + 1) q_X3_mayBeOf (95, [.ref 3, .int a1, .ref 1], [.int r7], M7) Q
          obtain ⟨o3, h⟩ := h
          exact jRun.ret (k := jk_X3_mayBeOf) rfl 1 (v := some (.int r7)) (M1 := M7) (ob := (r7 = 0 ∨ r7 = 1)) rfl o3 h
theorem v_X3_add {X : jX} {d : Nat} (hI : jInj X T0) (a1 : Int32) (a2 : Int32) (M : jMem) (Q : Option Value → jMem → Prop) (h : jOk X T0 d q_X3_hasRoomFor [.ref 3, .int a1] M (fun v M1 => ∃ r1, v = some (.int r1) ∧ ((¬ r1 = 0 → vp_in (M1 3 8) 32 ∧ (∀ M2, M2 = jP M1 4 ((M1 3 8).toNatClampNeg) a1 → vp_in (M2 3 8) 32 ∧ (∀ M3, M3 = jP M2 5 ((M2 3 8).toNatClampNeg) a2 → jOk X T0 d q_X3_numberOf [.ref 3, .int a1, .int a2] M3 (fun v M4 => ∃ r2, v = some (.int r2) ∧ vp_in (M3 3 8) 32 ∧ (∀ M5, M5 = jP M4 6 ((M3 3 8).toNatClampNeg) r2 → (∀ M6, M6 = jP M5 3 8 ((M5 3 8) + 1) → Q none M6)))))) ∧ (r1 = 0 → Q none M1)))) : jOk X T0 (d + 1) q_X3_add [.ref 3, .int a1, .int a2] M Q := by
  refine jOk.intro (ml := 3) (ls := [.ref 3, .int a1, .int a2]) (jTl (by decide)) rfl (Nat.le_of_ble_eq_true rfl) rfl hI ?_
  refine jRun.call (k := jk_X3_add) rfl 3 (f := q_X3_hasRoomFor) (As := [.ref 3, .int a1]) (c1 := (5, [.ref 3, .int a1, .int a2], [], M)) (ob := True ∧ True ∧ jKd T0 3 = 3) rfl ⟨trivial, trivial, rfl⟩ h (fun v M1 h => ?_)
  obtain ⟨r1, rfl, h⟩ := h
  show jRun X T0 (d + 1) q_X3_add (5, [.ref 3, .int a1, .int a2], [.int r1], M1) Q
  refine jRun.cut (k := jk_X3_add) rfl 1 (c' := (if ¬ r1 = 0 then 9 else 8, [.ref 3, .int a1, .int a2], [], M1)) (ob := True ∧ True) rfl ⟨trivial, trivial⟩ ?_
  refine jRun.brn (fun g => ?_) (fun g => ?_)
  · have h := h.1 g
    obtain ⟨o1, h⟩ := h
    refine jRun.cut (k := jk_X3_add) rfl 6 (c' := (19, [.ref 3, .int a1, .int a2], [], (jP M1 4 ((M1 3 8).toNatClampNeg) a1))) (ob := True ∧ jKd T0 3 = 3 ∧ True ∧ jKd T0 3 = 3 ∧ True ∧ (jKd T0 4 = 9 ∧ vp_in (M1 3 8) 32) ∧ True) rfl ⟨trivial, rfl, trivial, rfl, trivial, ⟨rfl, o1⟩, trivial⟩ ?_
    refine jRun.nm (fun M2 eM2 => ?_)
    have h := h M2 eM2
    obtain ⟨o2, h⟩ := h
    refine jRun.cut (k := jk_X3_add) rfl 6 (c' := (29, [.ref 3, .int a1, .int a2], [], (jP M2 5 ((M2 3 8).toNatClampNeg) a2))) (ob := True ∧ jKd T0 3 = 3 ∧ True ∧ jKd T0 3 = 3 ∧ True ∧ (jKd T0 5 = 9 ∧ vp_in (M2 3 8) 32) ∧ True) rfl ⟨trivial, rfl, trivial, rfl, trivial, ⟨rfl, o2⟩, trivial⟩ ?_
    refine jRun.nm (fun M3 eM3 => ?_)
    have h := h M3 eM3
    refine jRun.call (k := jk_X3_add) rfl 8 (f := q_X3_numberOf) (As := [.ref 3, .int a1, .int a2]) (c1 := (43, [.ref 3, .int a1, .int a2], [.int (M3 3 8), .ref 6], M3)) (ob := True ∧ jKd T0 3 = 3 ∧ True ∧ jKd T0 3 = 3 ∧ True ∧ True ∧ True ∧ jKd T0 3 = 3) rfl ⟨trivial, rfl, trivial, rfl, trivial, trivial, trivial, rfl⟩ h (fun v M4 h => ?_)
    obtain ⟨r2, rfl, h⟩ := h
    show jRun X T0 (d + 1) q_X3_add (43, [.ref 3, .int a1, .int a2], [.int r2, .int (M3 3 8), .ref 6], M4) Q
    obtain ⟨o3, h⟩ := h
    refine jRun.cut (k := jk_X3_add) rfl 1 (c' := (44, [.ref 3, .int a1, .int a2], [], (jP M4 6 ((M3 3 8).toNatClampNeg) r2))) (ob := (jKd T0 6 = 9 ∧ vp_in (M3 3 8) 32) ∧ True) rfl ⟨⟨rfl, o3⟩, trivial⟩ ?_
    refine jRun.nm (fun M5 eM5 => ?_)
    have h := h M5 eM5
    refine jRun.cut (k := jk_X3_add) rfl 6 (c' := (54, [.ref 3, .int a1, .int a2], [], (jP M5 3 8 ((M5 3 8) + 1)))) (ob := True ∧ True ∧ jKd T0 3 = 3 ∧ True ∧ True ∧ jKd T0 3 = 3 ∧ True) rfl ⟨trivial, trivial, rfl, trivial, trivial, rfl, trivial⟩ ?_
    refine jRun.nm (fun M6 eM6 => ?_)
    have h := h M6 eM6
    exact jRun.ret (k := jk_X3_add) rfl 1 (v := none) (M1 := M6) (ob := True) rfl trivial h
  · have h := h.2 g
    exact jRun.ret (k := jk_X3_add) rfl 1 (v := none) (M1 := M1) (ob := True) rfl trivial h
theorem v_X3_numberOf {X : jX} {d : Nat} (hI : jInj X T0) (a1 : Int32) (a2 : Int32) (M : jMem) (Q : Option Value → jMem → Prop) (h : ((a1 = 0 → (∀ M1, M1 = jP M 3 9 ((M 3 9) + 1) → Q (some (.int (M 3 9))) M1)) ∧ (¬ a1 = 0 → ((a1 = 1 → ((a2 < 0 → Q (some (.int 0)) M) ∧ (¬ a2 < 0 → ((8 ≤ a2 → Q (some (.int 0)) M) ∧ (¬ 8 ≤ a2 → vp_in a2 8 ∧ (∀ M2, M2 = jP M 8 a2.toNatClampNeg (M 3 8) → Q (some (.int 0)) M2)))))) ∧ (¬ a1 = 1 → ((a1 = 2 → vp_in (M 3 10) 10 ∧ (∀ M3, M3 = jP M 9 ((M 3 10).toNatClampNeg) (M 3 8) → (∀ M4, M4 = jP M3 3 10 ((M3 3 10) + 1) → Q (some (.int (M3 3 10))) M4))) ∧ (¬ a1 = 2 → ((a1 = 3 → Q (some (.int 0)) M) ∧ (¬ a1 = 3 → ((a1 = 4 → vp_in (M 3 11) 6 ∧ (∀ M5, M5 = jP M 10 ((M 3 11).toNatClampNeg) (M 3 8) → (∀ M6, M6 = jP M5 3 11 ((M5 3 11) + 1) → Q (some (.int (M5 3 11))) M6))) ∧ (¬ a1 = 4 → ((a1 = 5 → vp_in (M 3 12) 3 ∧ (∀ M7, M7 = jP M 11 ((M 3 12).toNatClampNeg) (M 3 8) → (∀ M8, M8 = jP M7 3 12 ((M7 3 12) + 1) → Q (some (.int (M7 3 12))) M8))) ∧ (¬ a1 = 5 → Q (some (.int 0)) M))))))))))))) : jOk X T0 d q_X3_numberOf [.ref 3, .int a1, .int a2] M Q := by
  refine jOk.intro (ml := 3) (ls := [.ref 3, .int a1, .int a2]) (jTl (by decide)) rfl (Nat.le_of_ble_eq_true rfl) rfl hI ?_
  refine jRun.cut (k := jk_X3_numberOf) rfl 2 (c' := (if a1 = 0 then 40 else if a1 = 1 then 52 else if a1 = 2 then 74 else if a1 = 3 then 149 else if a1 = 4 then 99 else if a1 = 5 then 124 else 149, [.ref 3, .int a1, .int a2], [], M)) (ob := True ∧ True ∧ True) rfl ⟨trivial, trivial, trivial⟩ ?_
  refine jRun.br (fun g => ?_) (fun g => ?_)
  · have h := h.1 g
    refine jRun.cut (k := jk_X3_numberOf) rfl 7 (c' := (51, [.ref 3, .int a1, .int a2], [.int (M 3 9)], (jP M 3 9 ((M 3 9) + 1)))) (ob := True ∧ True ∧ jKd T0 3 = 3 ∧ True ∧ True ∧ True ∧ jKd T0 3 = 3 ∧ True) rfl ⟨trivial, trivial, rfl, trivial, trivial, trivial, rfl, trivial⟩ ?_
    refine jRun.nm (fun M1 eM1 => ?_)
    have h := h M1 eM1
    exact jRun.ret (k := jk_X3_numberOf) rfl 1 (v := some (.int (M 3 9))) (M1 := M1) (ob := True) rfl trivial h
  · have h := h.2 g
    refine jRun.br (fun g => ?_) (fun g => ?_)
    · have h := h.1 g
      refine jRun.cut (k := jk_X3_numberOf) rfl 2 (c' := (if a2 < 0 then 72 else 56, [.ref 3, .int a1, .int a2], [], M)) (ob := True ∧ True ∧ True) rfl ⟨trivial, trivial, trivial⟩ ?_
      refine jRun.br (fun g => ?_) (fun g => ?_)
      · have h := h.1 g
        exact jRun.ret (k := jk_X3_numberOf) rfl 2 (v := some (.int 0)) (M1 := M) (ob := True ∧ True) rfl ⟨trivial, trivial⟩ h
      · have h := h.2 g
        refine jRun.cut (k := jk_X3_numberOf) rfl 3 (c' := (if 8 ≤ a2 then 72 else 62, [.ref 3, .int a1, .int a2], [], M)) (ob := True ∧ True ∧ True ∧ True) rfl ⟨trivial, trivial, trivial, trivial⟩ ?_
        refine jRun.br (fun g => ?_) (fun g => ?_)
        · have h := h.1 g
          exact jRun.ret (k := jk_X3_numberOf) rfl 2 (v := some (.int 0)) (M1 := M) (ob := True ∧ True) rfl ⟨trivial, trivial⟩ h
        · have h := h.2 g
          obtain ⟨o1, h⟩ := h
          refine jRun.cut (k := jk_X3_numberOf) rfl 6 (c' := (72, [.ref 3, .int a1, .int a2], [], (jP M 8 a2.toNatClampNeg (M 3 8)))) (ob := True ∧ jKd T0 3 = 3 ∧ True ∧ True ∧ jKd T0 3 = 3 ∧ (jKd T0 8 = 9 ∧ vp_in a2 8) ∧ True) rfl ⟨trivial, rfl, trivial, trivial, rfl, ⟨rfl, o1⟩, trivial⟩ ?_
          refine jRun.nm (fun M2 eM2 => ?_)
          have h := h M2 eM2
          exact jRun.ret (k := jk_X3_numberOf) rfl 2 (v := some (.int 0)) (M1 := M2) (ob := True ∧ True) rfl ⟨trivial, trivial⟩ h
    · have h := h.2 g
      refine jRun.br (fun g => ?_) (fun g => ?_)
      · have h := h.1 g
        obtain ⟨o2, h⟩ := h
        refine jRun.cut (k := jk_X3_numberOf) rfl 7 (c' := (87, [.ref 3, .int a1, .int a2], [], (jP M 9 ((M 3 10).toNatClampNeg) (M 3 8)))) (ob := True ∧ jKd T0 3 = 3 ∧ True ∧ jKd T0 3 = 3 ∧ True ∧ jKd T0 3 = 3 ∧ (jKd T0 9 = 9 ∧ vp_in (M 3 10) 10) ∧ True) rfl ⟨trivial, rfl, trivial, rfl, trivial, rfl, ⟨rfl, o2⟩, trivial⟩ ?_
        refine jRun.nm (fun M3 eM3 => ?_)
        have h := h M3 eM3
        refine jRun.cut (k := jk_X3_numberOf) rfl 7 (c' := (98, [.ref 3, .int a1, .int a2], [.int (M3 3 10)], (jP M3 3 10 ((M3 3 10) + 1)))) (ob := True ∧ True ∧ jKd T0 3 = 3 ∧ True ∧ True ∧ True ∧ jKd T0 3 = 3 ∧ True) rfl ⟨trivial, trivial, rfl, trivial, trivial, trivial, rfl, trivial⟩ ?_
        refine jRun.nm (fun M4 eM4 => ?_)
        have h := h M4 eM4
        exact jRun.ret (k := jk_X3_numberOf) rfl 1 (v := some (.int (M3 3 10))) (M1 := M4) (ob := True) rfl trivial h
      · have h := h.2 g
        refine jRun.br (fun g => ?_) (fun g => ?_)
        · have h := h.1 g
          exact jRun.ret (k := jk_X3_numberOf) rfl 2 (v := some (.int 0)) (M1 := M) (ob := True ∧ True) rfl ⟨trivial, trivial⟩ h
        · have h := h.2 g
          refine jRun.br (fun g => ?_) (fun g => ?_)
          · have h := h.1 g
            obtain ⟨o3, h⟩ := h
            refine jRun.cut (k := jk_X3_numberOf) rfl 7 (c' := (112, [.ref 3, .int a1, .int a2], [], (jP M 10 ((M 3 11).toNatClampNeg) (M 3 8)))) (ob := True ∧ jKd T0 3 = 3 ∧ True ∧ jKd T0 3 = 3 ∧ True ∧ jKd T0 3 = 3 ∧ (jKd T0 10 = 9 ∧ vp_in (M 3 11) 6) ∧ True) rfl ⟨trivial, rfl, trivial, rfl, trivial, rfl, ⟨rfl, o3⟩, trivial⟩ ?_
            refine jRun.nm (fun M5 eM5 => ?_)
            have h := h M5 eM5
            refine jRun.cut (k := jk_X3_numberOf) rfl 7 (c' := (123, [.ref 3, .int a1, .int a2], [.int (M5 3 11)], (jP M5 3 11 ((M5 3 11) + 1)))) (ob := True ∧ True ∧ jKd T0 3 = 3 ∧ True ∧ True ∧ True ∧ jKd T0 3 = 3 ∧ True) rfl ⟨trivial, trivial, rfl, trivial, trivial, trivial, rfl, trivial⟩ ?_
            refine jRun.nm (fun M6 eM6 => ?_)
            have h := h M6 eM6
            exact jRun.ret (k := jk_X3_numberOf) rfl 1 (v := some (.int (M5 3 11))) (M1 := M6) (ob := True) rfl trivial h
          · have h := h.2 g
            refine jRun.br (fun g => ?_) (fun g => ?_)
            · have h := h.1 g
              obtain ⟨o4, h⟩ := h
              refine jRun.cut (k := jk_X3_numberOf) rfl 7 (c' := (137, [.ref 3, .int a1, .int a2], [], (jP M 11 ((M 3 12).toNatClampNeg) (M 3 8)))) (ob := True ∧ jKd T0 3 = 3 ∧ True ∧ jKd T0 3 = 3 ∧ True ∧ jKd T0 3 = 3 ∧ (jKd T0 11 = 9 ∧ vp_in (M 3 12) 3) ∧ True) rfl ⟨trivial, rfl, trivial, rfl, trivial, rfl, ⟨rfl, o4⟩, trivial⟩ ?_
              refine jRun.nm (fun M7 eM7 => ?_)
              have h := h M7 eM7
              refine jRun.cut (k := jk_X3_numberOf) rfl 7 (c' := (148, [.ref 3, .int a1, .int a2], [.int (M7 3 12)], (jP M7 3 12 ((M7 3 12) + 1)))) (ob := True ∧ True ∧ jKd T0 3 = 3 ∧ True ∧ True ∧ True ∧ jKd T0 3 = 3 ∧ True) rfl ⟨trivial, trivial, rfl, trivial, trivial, trivial, rfl, trivial⟩ ?_
              refine jRun.nm (fun M8 eM8 => ?_)
              have h := h M8 eM8
              exact jRun.ret (k := jk_X3_numberOf) rfl 1 (v := some (.int (M7 3 12))) (M1 := M8) (ob := True) rfl trivial h
            · have h := h.2 g
              exact jRun.ret (k := jk_X3_numberOf) rfl 2 (v := some (.int 0)) (M1 := M) (ob := True ∧ True) rfl ⟨trivial, trivial⟩ h
theorem v_X3_findTargets {X : jX} {d : Nat} (hI : jInj X T0)  (M : jMem) (Q : Option Value → jMem → Prop) (h : jRun X T0 (d + 1) q_X3_findTargets (2, [.ref 3, .int 0], [], M) Q) : jOk X T0 (d + 1) q_X3_findTargets [.ref 3] M Q := by
  refine jOk.intro (ml := 2) (ls := [.ref 3, .null]) (jTl (by decide)) rfl (Nat.le_of_ble_eq_true rfl) rfl hI ?_
  refine jRun.cut (k := jk_X3_findTargets) rfl 2 (c' := (2, [.ref 3, .int 0], [], M)) (ob := True ∧ True ∧ True) rfl ⟨trivial, trivial, trivial⟩ ?_
  exact h
theorem v_X3_findTargets_2 {X : jX} {d : Nat} (a1 : Int32) (M : jMem) (Q : Option Value → jMem → Prop) (h : (((M 3 8) ≤ a1 → Q (some (.int 1)) M) ∧ (¬ (M 3 8) ≤ a1 → jOk X T0 d q_X3_goesToLabel [.ref 3, .int a1] M (fun v M1 => ∃ r1, v = some (.int r1) ∧ ((¬ r1 = 0 → vp_in a1 32 ∧ jOk X T0 d q_X3_hasLabel [.ref 3, .int (M1 5 a1.toNatClampNeg)] M1 (fun v M2 => ∃ r2, v = some (.int r2) ∧ ((¬ r2 = 0 → vp_in (M2 5 a1.toNatClampNeg) 8 ∧ (∀ M3, M3 = jP M2 7 a1.toNatClampNeg (M2 8 (M2 5 a1.toNatClampNeg).toNatClampNeg) → jRun X T0 (d + 1) q_X3_findTargets (2, [.ref 3, .int (a1 + 1)], [], M3) Q)) ∧ (r2 = 0 → Q (some (.int 0)) M2)))) ∧ (r1 = 0 → jRun X T0 (d + 1) q_X3_findTargets (2, [.ref 3, .int (a1 + 1)], [], M1) Q)))))) : jRun X T0 (d + 1) q_X3_findTargets (2, [.ref 3, .int a1], [], M) Q := by
  refine jRun.cut (k := jk_X3_findTargets) rfl 4 (c' := (if (M 3 8) ≤ a1 then 59 else 10, [.ref 3, .int a1], [], M)) (ob := True ∧ True ∧ jKd T0 3 = 3 ∧ True ∧ True) rfl ⟨trivial, trivial, rfl, trivial, trivial⟩ ?_
  refine jRun.br (fun g => ?_) (fun g => ?_)
  · have h := h.1 g
    exact jRun.ret (k := jk_X3_findTargets) rfl 2 (v := some (.int 1)) (M1 := M) (ob := True ∧ (1 = 0 ∨ 1 = 1)) rfl ⟨trivial, (Or.inr rfl)⟩ h
  · have h := h.2 g
    refine jRun.call (k := jk_X3_findTargets) rfl 3 (f := q_X3_goesToLabel) (As := [.ref 3, .int a1]) (c1 := (15, [.ref 3, .int a1], [], M)) (ob := True ∧ True ∧ jKd T0 3 = 3) rfl ⟨trivial, trivial, rfl⟩ h (fun v M1 h => ?_)
    obtain ⟨r1, rfl, h⟩ := h
    show jRun X T0 (d + 1) q_X3_findTargets (15, [.ref 3, .int a1], [.int r1], M1) Q
    refine jRun.cut (k := jk_X3_findTargets) rfl 1 (c' := (if ¬ r1 = 0 then 21 else 18, [.ref 3, .int a1], [], M1)) (ob := True ∧ True) rfl ⟨trivial, trivial⟩ ?_
    refine jRun.brn (fun g => ?_) (fun g => ?_)
    · have h := h.1 g
      obtain ⟨o1, h⟩ := h
      refine jRun.call (k := jk_X3_findTargets) rfl 6 (f := q_X3_hasLabel) (As := [.ref 3, .int (M1 5 a1.toNatClampNeg)]) (c1 := (31, [.ref 3, .int a1], [], M1)) (ob := True ∧ True ∧ jKd T0 3 = 3 ∧ True ∧ (jKd T0 5 = 9 ∧ vp_in a1 32) ∧ jKd T0 3 = 3) rfl ⟨trivial, trivial, rfl, trivial, ⟨rfl, o1⟩, rfl⟩ h (fun v M2 h => ?_)
      obtain ⟨r2, rfl, h⟩ := h
      show jRun X T0 (d + 1) q_X3_findTargets (31, [.ref 3, .int a1], [.int r2], M2) Q
      refine jRun.cut (k := jk_X3_findTargets) rfl 1 (c' := (if ¬ r2 = 0 then 36 else 34, [.ref 3, .int a1], [], M2)) (ob := True ∧ True) rfl ⟨trivial, trivial⟩ ?_
      refine jRun.brn (fun g => ?_) (fun g => ?_)
      · have h := h.1 g
        obtain ⟨o2, h⟩ := h
        refine jRun.cut (k := jk_X3_findTargets) rfl 11 (c' := (53, [.ref 3, .int a1], [], (jP M2 7 a1.toNatClampNeg (M2 8 (M2 5 a1.toNatClampNeg).toNatClampNeg)))) (ob := True ∧ jKd T0 3 = 3 ∧ True ∧ True ∧ jKd T0 3 = 3 ∧ True ∧ jKd T0 3 = 3 ∧ True ∧ (jKd T0 5 = 9 ∧ vp_in a1 32) ∧ (jKd T0 8 = 9 ∧ vp_in (M2 5 a1.toNatClampNeg) 8) ∧ (jKd T0 7 = 9 ∧ vp_in a1 32) ∧ True) rfl ⟨trivial, rfl, trivial, trivial, rfl, trivial, rfl, trivial, ⟨rfl, o1⟩, ⟨rfl, o2⟩, ⟨rfl, o1⟩, trivial⟩ ?_
        refine jRun.nm (fun M3 eM3 => ?_)
        have h := h M3 eM3
        refine jRun.cut (k := jk_X3_findTargets) rfl 2 (c' := (2, [.ref 3, .int (a1 + 1)], [], M3)) (ob := True ∧ True ∧ True) rfl ⟨trivial, trivial, trivial⟩ ?_
        exact h
      · have h := h.2 g
        exact jRun.ret (k := jk_X3_findTargets) rfl 2 (v := some (.int 0)) (M1 := M2) (ob := True ∧ (0 = 0 ∨ 0 = 1)) rfl ⟨trivial, (Or.inl rfl)⟩ h
    · have h := h.2 g
      refine jRun.cut (k := jk_X3_findTargets) rfl 3 (c' := (2, [.ref 3, .int (a1 + 1)], [], M1)) (ob := True ∧ True ∧ True ∧ True) rfl ⟨trivial, trivial, trivial, trivial⟩ ?_
      exact h
theorem v_X3_hasItem {X : jX} {d : Nat} (hI : jInj X T0) (a1 : Int32) (M : jMem) (Q : Option Value → jMem → Prop) (h : ((a1 < 0 → Q (some (.int 0)) M) ∧ (¬ a1 < 0 → (((M 3 8) ≤ a1 → Q (some (.int 0)) M) ∧ (¬ (M 3 8) ≤ a1 → Q (some (.int 1)) M))))) : jOk X T0 d q_X3_hasItem [.ref 3, .int a1] M Q := by
  refine jOk.intro (ml := 2) (ls := [.ref 3, .int a1]) (jTl (by decide)) rfl (Nat.le_of_ble_eq_true rfl) rfl hI ?_
  refine jRun.cut (k := jk_X3_hasItem) rfl 2 (c' := (if a1 < 0 then 16 else 4, [.ref 3, .int a1], [], M)) (ob := True ∧ True ∧ True) rfl ⟨trivial, trivial, trivial⟩ ?_
  refine jRun.br (fun g => ?_) (fun g => ?_)
  · have h := h.1 g
    exact jRun.ret (k := jk_X3_hasItem) rfl 2 (v := some (.int 0)) (M1 := M) (ob := True ∧ (0 = 0 ∨ 0 = 1)) rfl ⟨trivial, (Or.inl rfl)⟩ h
  · have h := h.2 g
    refine jRun.cut (k := jk_X3_hasItem) rfl 4 (c' := (if (M 3 8) ≤ a1 then 16 else 12, [.ref 3, .int a1], [], M)) (ob := True ∧ True ∧ jKd T0 3 = 3 ∧ True ∧ True) rfl ⟨trivial, trivial, rfl, trivial, trivial⟩ ?_
    refine jRun.br (fun g => ?_) (fun g => ?_)
    · have h := h.1 g
      exact jRun.ret (k := jk_X3_hasItem) rfl 2 (v := some (.int 0)) (M1 := M) (ob := True ∧ (0 = 0 ∨ 0 = 1)) rfl ⟨trivial, (Or.inl rfl)⟩ h
    · have h := h.2 g
      exact jRun.ret (k := jk_X3_hasItem) rfl 3 (v := some (.int 1)) (M1 := M) (ob := True ∧ True ∧ (1 = 0 ∨ 1 = 1)) rfl ⟨trivial, trivial, (Or.inr rfl)⟩ h
theorem v_X3_isOf {X : jX} {d : Nat} (hI : jInj X T0) (a1 : Int32) (a2 : Int32) (M : jMem) (Q : Option Value → jMem → Prop) (h : jOk X T0 d q_X3_hasItem [.ref 3, .int a1] M (fun v M1 => ∃ r1, v = some (.int r1) ∧ ((r1 = 0 → Q (some (.int 0)) M1) ∧ (¬ r1 = 0 → vp_in a1 32 ∧ ((¬ (M1 4 a1.toNatClampNeg) = a2 → Q (some (.int 0)) M1) ∧ ((M1 4 a1.toNatClampNeg) = a2 → Q (some (.int 1)) M1)))))) : jOk X T0 (d + 1) q_X3_isOf [.ref 3, .int a1, .int a2] M Q := by
  refine jOk.intro (ml := 3) (ls := [.ref 3, .int a1, .int a2]) (jTl (by decide)) rfl (Nat.le_of_ble_eq_true rfl) rfl hI ?_
  refine jRun.call (k := jk_X3_isOf) rfl 3 (f := q_X3_hasItem) (As := [.ref 3, .int a1]) (c1 := (5, [.ref 3, .int a1, .int a2], [], M)) (ob := True ∧ True ∧ jKd T0 3 = 3) rfl ⟨trivial, trivial, rfl⟩ h (fun v M1 h => ?_)
  obtain ⟨r1, rfl, h⟩ := h
  show jRun X T0 (d + 1) q_X3_isOf (5, [.ref 3, .int a1, .int a2], [.int r1], M1) Q
  refine jRun.cut (k := jk_X3_isOf) rfl 1 (c' := (if r1 = 0 then 22 else 8, [.ref 3, .int a1, .int a2], [], M1)) (ob := True ∧ True) rfl ⟨trivial, trivial⟩ ?_
  refine jRun.br (fun g => ?_) (fun g => ?_)
  · have h := h.1 g
    exact jRun.ret (k := jk_X3_isOf) rfl 2 (v := some (.int 0)) (M1 := M1) (ob := True ∧ (0 = 0 ∨ 0 = 1)) rfl ⟨trivial, (Or.inl rfl)⟩ h
  · have h := h.2 g
    obtain ⟨o1, h⟩ := h
    refine jRun.cut (k := jk_X3_isOf) rfl 6 (c' := (if ¬ (M1 4 a1.toNatClampNeg) = a2 then 22 else 18, [.ref 3, .int a1, .int a2], [], M1)) (ob := True ∧ jKd T0 3 = 3 ∧ True ∧ (jKd T0 4 = 9 ∧ vp_in a1 32) ∧ True ∧ True ∧ True) rfl ⟨trivial, rfl, trivial, ⟨rfl, o1⟩, trivial, trivial, trivial⟩ ?_
    refine jRun.brn (fun g => ?_) (fun g => ?_)
    · have h := h.1 g
      exact jRun.ret (k := jk_X3_isOf) rfl 2 (v := some (.int 0)) (M1 := M1) (ob := True ∧ (0 = 0 ∨ 0 = 1)) rfl ⟨trivial, (Or.inl rfl)⟩ h
    · have h := h.2 g
      exact jRun.ret (k := jk_X3_isOf) rfl 3 (v := some (.int 1)) (M1 := M1) (ob := True ∧ True ∧ (1 = 0 ∨ 1 = 1)) rfl ⟨trivial, trivial, (Or.inr rfl)⟩ h
theorem v_X3_goesToLabel {X : jX} {d : Nat} (hI : jInj X T0) (a1 : Int32) (M : jMem) (Q : Option Value → jMem → Prop) (h : jOk X T0 d q_X3_isOf [.ref 3, .int a1, .int 2] M (fun v M1 => ∃ r1, v = some (.int r1) ∧ ((¬ r1 = 0 → Q (some (.int 1)) M1) ∧ (r1 = 0 → jOk X T0 d q_X3_isOf [.ref 3, .int a1, .int 4] M1 (fun v M2 => ∃ r2, v = some (.int r2) ∧ ((r2 = 0 → Q (some (.int 0)) M2) ∧ (¬ r2 = 0 → Q (some (.int 1)) M2))))))) : jOk X T0 (d + 1) q_X3_goesToLabel [.ref 3, .int a1] M Q := by
  refine jOk.intro (ml := 2) (ls := [.ref 3, .int a1]) (jTl (by decide)) rfl (Nat.le_of_ble_eq_true rfl) rfl hI ?_
  refine jRun.call (k := jk_X3_goesToLabel) rfl 4 (f := q_X3_isOf) (As := [.ref 3, .int a1, .int 2]) (c1 := (6, [.ref 3, .int a1], [], M)) (ob := True ∧ True ∧ True ∧ jKd T0 3 = 3) rfl ⟨trivial, trivial, trivial, rfl⟩ h (fun v M1 h => ?_)
  obtain ⟨r1, rfl, h⟩ := h
  show jRun X T0 (d + 1) q_X3_goesToLabel (6, [.ref 3, .int a1], [.int r1], M1) Q
  refine jRun.cut (k := jk_X3_goesToLabel) rfl 1 (c' := (if ¬ r1 = 0 then 18 else 9, [.ref 3, .int a1], [], M1)) (ob := True ∧ True) rfl ⟨trivial, trivial⟩ ?_
  refine jRun.brn (fun g => ?_) (fun g => ?_)
  · have h := h.1 g
    exact jRun.ret (k := jk_X3_goesToLabel) rfl 3 (v := some (.int 1)) (M1 := M1) (ob := True ∧ True ∧ (1 = 0 ∨ 1 = 1)) rfl ⟨trivial, trivial, (Or.inr rfl)⟩ h
  · have h := h.2 g
    refine jRun.call (k := jk_X3_goesToLabel) rfl 4 (f := q_X3_isOf) (As := [.ref 3, .int a1, .int 4]) (c1 := (15, [.ref 3, .int a1], [], M1)) (ob := True ∧ True ∧ True ∧ jKd T0 3 = 3) rfl ⟨trivial, trivial, trivial, rfl⟩ h (fun v M2 h => ?_)
    obtain ⟨r2, rfl, h⟩ := h
    show jRun X T0 (d + 1) q_X3_goesToLabel (15, [.ref 3, .int a1], [.int r2], M2) Q
    refine jRun.cut (k := jk_X3_goesToLabel) rfl 1 (c' := (if r2 = 0 then 22 else 18, [.ref 3, .int a1], [], M2)) (ob := True ∧ True) rfl ⟨trivial, trivial⟩ ?_
    refine jRun.br (fun g => ?_) (fun g => ?_)
    · have h := h.1 g
      exact jRun.ret (k := jk_X3_goesToLabel) rfl 2 (v := some (.int 0)) (M1 := M2) (ob := True ∧ (0 = 0 ∨ 0 = 1)) rfl ⟨trivial, (Or.inl rfl)⟩ h
    · have h := h.2 g
      exact jRun.ret (k := jk_X3_goesToLabel) rfl 3 (v := some (.int 1)) (M1 := M2) (ob := True ∧ True ∧ (1 = 0 ∨ 1 = 1)) rfl ⟨trivial, trivial, (Or.inr rfl)⟩ h
theorem v_X3_hasLabel {X : jX} {d : Nat} (hI : jInj X T0) (a1 : Int32) (M : jMem) (Q : Option Value → jMem → Prop) (h : ((a1 < 0 → Q (some (.int 0)) M) ∧ (¬ a1 < 0 → ((8 ≤ a1 → Q (some (.int 0)) M) ∧ (¬ 8 ≤ a1 → vp_in a1 8 ∧ (((M 8 a1.toNatClampNeg) < 0 → Q (some (.int 0)) M) ∧ (¬ (M 8 a1.toNatClampNeg) < 0 → Q (some (.int 1)) M))))))) : jOk X T0 d q_X3_hasLabel [.ref 3, .int a1] M Q := by
  refine jOk.intro (ml := 2) (ls := [.ref 3, .int a1]) (jTl (by decide)) rfl (Nat.le_of_ble_eq_true rfl) rfl hI ?_
  refine jRun.cut (k := jk_X3_hasLabel) rfl 2 (c' := (if a1 < 0 then 23 else 4, [.ref 3, .int a1], [], M)) (ob := True ∧ True ∧ True) rfl ⟨trivial, trivial, trivial⟩ ?_
  refine jRun.br (fun g => ?_) (fun g => ?_)
  · have h := h.1 g
    exact jRun.ret (k := jk_X3_hasLabel) rfl 2 (v := some (.int 0)) (M1 := M) (ob := True ∧ (0 = 0 ∨ 0 = 1)) rfl ⟨trivial, (Or.inl rfl)⟩ h
  · have h := h.2 g
    refine jRun.cut (k := jk_X3_hasLabel) rfl 3 (c' := (if 8 ≤ a1 then 23 else 10, [.ref 3, .int a1], [], M)) (ob := True ∧ True ∧ True ∧ True) rfl ⟨trivial, trivial, trivial, trivial⟩ ?_
    refine jRun.br (fun g => ?_) (fun g => ?_)
    · have h := h.1 g
      exact jRun.ret (k := jk_X3_hasLabel) rfl 2 (v := some (.int 0)) (M1 := M) (ob := True ∧ (0 = 0 ∨ 0 = 1)) rfl ⟨trivial, (Or.inl rfl)⟩ h
    · have h := h.2 g
      obtain ⟨o1, h⟩ := h
      refine jRun.cut (k := jk_X3_hasLabel) rfl 5 (c' := (if (M 8 a1.toNatClampNeg) < 0 then 23 else 19, [.ref 3, .int a1], [], M)) (ob := True ∧ jKd T0 3 = 3 ∧ True ∧ (jKd T0 8 = 9 ∧ vp_in a1 8) ∧ True ∧ True) rfl ⟨trivial, rfl, trivial, ⟨rfl, o1⟩, trivial, trivial⟩ ?_
      refine jRun.br (fun g => ?_) (fun g => ?_)
      · have h := h.1 g
        exact jRun.ret (k := jk_X3_hasLabel) rfl 2 (v := some (.int 0)) (M1 := M) (ob := True ∧ (0 = 0 ∨ 0 = 1)) rfl ⟨trivial, (Or.inl rfl)⟩ h
      · have h := h.2 g
        exact jRun.ret (k := jk_X3_hasLabel) rfl 3 (v := some (.int 1)) (M1 := M) (ob := True ∧ True ∧ (1 = 0 ∨ 1 = 1)) rfl ⟨trivial, trivial, (Or.inr rfl)⟩ h
theorem v12_X3_hasItem {X : jX} {d : Nat} (hI : jInj X T0) (a1 : Int32) (M : jMem) (Q : Option Value → jMem → Prop) (h : ((a1 < 0 → Q (some (.int 0)) M) ∧ (¬ a1 < 0 → (((M 12 8) ≤ a1 → Q (some (.int 0)) M) ∧ (¬ (M 12 8) ≤ a1 → Q (some (.int 1)) M))))) : jOk X T0 d q_X3_hasItem [.ref 12, .int a1] M Q := by
  refine jOk.intro (ml := 2) (ls := [.ref 12, .int a1]) (jTl (by decide)) rfl (Nat.le_of_ble_eq_true rfl) rfl hI ?_
  refine jRun.cut (k := jk_X3_hasItem) rfl 2 (c' := (if a1 < 0 then 16 else 4, [.ref 12, .int a1], [], M)) (ob := True ∧ True ∧ True) rfl ⟨trivial, trivial, trivial⟩ ?_
  refine jRun.br (fun g => ?_) (fun g => ?_)
  · have h := h.1 g
    exact jRun.ret (k := jk_X3_hasItem) rfl 2 (v := some (.int 0)) (M1 := M) (ob := True ∧ (0 = 0 ∨ 0 = 1)) rfl ⟨trivial, (Or.inl rfl)⟩ h
  · have h := h.2 g
    refine jRun.cut (k := jk_X3_hasItem) rfl 4 (c' := (if (M 12 8) ≤ a1 then 16 else 12, [.ref 12, .int a1], [], M)) (ob := True ∧ True ∧ jKd T0 12 = 3 ∧ True ∧ True) rfl ⟨trivial, trivial, rfl, trivial, trivial⟩ ?_
    refine jRun.br (fun g => ?_) (fun g => ?_)
    · have h := h.1 g
      exact jRun.ret (k := jk_X3_hasItem) rfl 2 (v := some (.int 0)) (M1 := M) (ob := True ∧ (0 = 0 ∨ 0 = 1)) rfl ⟨trivial, (Or.inl rfl)⟩ h
    · have h := h.2 g
      exact jRun.ret (k := jk_X3_hasItem) rfl 3 (v := some (.int 1)) (M1 := M) (ob := True ∧ True ∧ (1 = 0 ∨ 1 = 1)) rfl ⟨trivial, trivial, (Or.inr rfl)⟩ h
theorem v12_X3_isOf {X : jX} {d : Nat} (hI : jInj X T0) (a1 : Int32) (a2 : Int32) (M : jMem) (Q : Option Value → jMem → Prop) (h : jOk X T0 d q_X3_hasItem [.ref 12, .int a1] M (fun v M1 => ∃ r1, v = some (.int r1) ∧ ((r1 = 0 → Q (some (.int 0)) M1) ∧ (¬ r1 = 0 → vp_in a1 32 ∧ ((¬ (M1 13 a1.toNatClampNeg) = a2 → Q (some (.int 0)) M1) ∧ ((M1 13 a1.toNatClampNeg) = a2 → Q (some (.int 1)) M1)))))) : jOk X T0 (d + 1) q_X3_isOf [.ref 12, .int a1, .int a2] M Q := by
  refine jOk.intro (ml := 3) (ls := [.ref 12, .int a1, .int a2]) (jTl (by decide)) rfl (Nat.le_of_ble_eq_true rfl) rfl hI ?_
  refine jRun.call (k := jk_X3_isOf) rfl 3 (f := q_X3_hasItem) (As := [.ref 12, .int a1]) (c1 := (5, [.ref 12, .int a1, .int a2], [], M)) (ob := True ∧ True ∧ jKd T0 12 = 3) rfl ⟨trivial, trivial, rfl⟩ h (fun v M1 h => ?_)
  obtain ⟨r1, rfl, h⟩ := h
  show jRun X T0 (d + 1) q_X3_isOf (5, [.ref 12, .int a1, .int a2], [.int r1], M1) Q
  refine jRun.cut (k := jk_X3_isOf) rfl 1 (c' := (if r1 = 0 then 22 else 8, [.ref 12, .int a1, .int a2], [], M1)) (ob := True ∧ True) rfl ⟨trivial, trivial⟩ ?_
  refine jRun.br (fun g => ?_) (fun g => ?_)
  · have h := h.1 g
    exact jRun.ret (k := jk_X3_isOf) rfl 2 (v := some (.int 0)) (M1 := M1) (ob := True ∧ (0 = 0 ∨ 0 = 1)) rfl ⟨trivial, (Or.inl rfl)⟩ h
  · have h := h.2 g
    obtain ⟨o1, h⟩ := h
    refine jRun.cut (k := jk_X3_isOf) rfl 6 (c' := (if ¬ (M1 13 a1.toNatClampNeg) = a2 then 22 else 18, [.ref 12, .int a1, .int a2], [], M1)) (ob := True ∧ jKd T0 12 = 3 ∧ True ∧ (jKd T0 13 = 9 ∧ vp_in a1 32) ∧ True ∧ True ∧ True) rfl ⟨trivial, rfl, trivial, ⟨rfl, o1⟩, trivial, trivial, trivial⟩ ?_
    refine jRun.brn (fun g => ?_) (fun g => ?_)
    · have h := h.1 g
      exact jRun.ret (k := jk_X3_isOf) rfl 2 (v := some (.int 0)) (M1 := M1) (ob := True ∧ (0 = 0 ∨ 0 = 1)) rfl ⟨trivial, (Or.inl rfl)⟩ h
    · have h := h.2 g
      exact jRun.ret (k := jk_X3_isOf) rfl 3 (v := some (.int 1)) (M1 := M1) (ob := True ∧ True ∧ (1 = 0 ∨ 1 = 1)) rfl ⟨trivial, trivial, (Or.inr rfl)⟩ h
theorem v12_X3_goesToLabel {X : jX} {d : Nat} (hI : jInj X T0) (a1 : Int32) (M : jMem) (Q : Option Value → jMem → Prop) (h : jOk X T0 d q_X3_isOf [.ref 12, .int a1, .int 2] M (fun v M1 => ∃ r1, v = some (.int r1) ∧ ((¬ r1 = 0 → Q (some (.int 1)) M1) ∧ (r1 = 0 → jOk X T0 d q_X3_isOf [.ref 12, .int a1, .int 4] M1 (fun v M2 => ∃ r2, v = some (.int r2) ∧ ((r2 = 0 → Q (some (.int 0)) M2) ∧ (¬ r2 = 0 → Q (some (.int 1)) M2))))))) : jOk X T0 (d + 1) q_X3_goesToLabel [.ref 12, .int a1] M Q := by
  refine jOk.intro (ml := 2) (ls := [.ref 12, .int a1]) (jTl (by decide)) rfl (Nat.le_of_ble_eq_true rfl) rfl hI ?_
  refine jRun.call (k := jk_X3_goesToLabel) rfl 4 (f := q_X3_isOf) (As := [.ref 12, .int a1, .int 2]) (c1 := (6, [.ref 12, .int a1], [], M)) (ob := True ∧ True ∧ True ∧ jKd T0 12 = 3) rfl ⟨trivial, trivial, trivial, rfl⟩ h (fun v M1 h => ?_)
  obtain ⟨r1, rfl, h⟩ := h
  show jRun X T0 (d + 1) q_X3_goesToLabel (6, [.ref 12, .int a1], [.int r1], M1) Q
  refine jRun.cut (k := jk_X3_goesToLabel) rfl 1 (c' := (if ¬ r1 = 0 then 18 else 9, [.ref 12, .int a1], [], M1)) (ob := True ∧ True) rfl ⟨trivial, trivial⟩ ?_
  refine jRun.brn (fun g => ?_) (fun g => ?_)
  · have h := h.1 g
    exact jRun.ret (k := jk_X3_goesToLabel) rfl 3 (v := some (.int 1)) (M1 := M1) (ob := True ∧ True ∧ (1 = 0 ∨ 1 = 1)) rfl ⟨trivial, trivial, (Or.inr rfl)⟩ h
  · have h := h.2 g
    refine jRun.call (k := jk_X3_goesToLabel) rfl 4 (f := q_X3_isOf) (As := [.ref 12, .int a1, .int 4]) (c1 := (15, [.ref 12, .int a1], [], M1)) (ob := True ∧ True ∧ True ∧ jKd T0 12 = 3) rfl ⟨trivial, trivial, trivial, rfl⟩ h (fun v M2 h => ?_)
    obtain ⟨r2, rfl, h⟩ := h
    show jRun X T0 (d + 1) q_X3_goesToLabel (15, [.ref 12, .int a1], [.int r2], M2) Q
    refine jRun.cut (k := jk_X3_goesToLabel) rfl 1 (c' := (if r2 = 0 then 22 else 18, [.ref 12, .int a1], [], M2)) (ob := True ∧ True) rfl ⟨trivial, trivial⟩ ?_
    refine jRun.br (fun g => ?_) (fun g => ?_)
    · have h := h.1 g
      exact jRun.ret (k := jk_X3_goesToLabel) rfl 2 (v := some (.int 0)) (M1 := M2) (ob := True ∧ (0 = 0 ∨ 0 = 1)) rfl ⟨trivial, (Or.inl rfl)⟩ h
    · have h := h.2 g
      exact jRun.ret (k := jk_X3_goesToLabel) rfl 3 (v := some (.int 1)) (M1 := M2) (ob := True ∧ True ∧ (1 = 0 ∨ 1 = 1)) rfl ⟨trivial, trivial, (Or.inr rfl)⟩ h
theorem v12_X3_hasLabel {X : jX} {d : Nat} (hI : jInj X T0) (a1 : Int32) (M : jMem) (Q : Option Value → jMem → Prop) (h : ((a1 < 0 → Q (some (.int 0)) M) ∧ (¬ a1 < 0 → ((8 ≤ a1 → Q (some (.int 0)) M) ∧ (¬ 8 ≤ a1 → vp_in a1 8 ∧ (((M 17 a1.toNatClampNeg) < 0 → Q (some (.int 0)) M) ∧ (¬ (M 17 a1.toNatClampNeg) < 0 → Q (some (.int 1)) M))))))) : jOk X T0 d q_X3_hasLabel [.ref 12, .int a1] M Q := by
  refine jOk.intro (ml := 2) (ls := [.ref 12, .int a1]) (jTl (by decide)) rfl (Nat.le_of_ble_eq_true rfl) rfl hI ?_
  refine jRun.cut (k := jk_X3_hasLabel) rfl 2 (c' := (if a1 < 0 then 23 else 4, [.ref 12, .int a1], [], M)) (ob := True ∧ True ∧ True) rfl ⟨trivial, trivial, trivial⟩ ?_
  refine jRun.br (fun g => ?_) (fun g => ?_)
  · have h := h.1 g
    exact jRun.ret (k := jk_X3_hasLabel) rfl 2 (v := some (.int 0)) (M1 := M) (ob := True ∧ (0 = 0 ∨ 0 = 1)) rfl ⟨trivial, (Or.inl rfl)⟩ h
  · have h := h.2 g
    refine jRun.cut (k := jk_X3_hasLabel) rfl 3 (c' := (if 8 ≤ a1 then 23 else 10, [.ref 12, .int a1], [], M)) (ob := True ∧ True ∧ True ∧ True) rfl ⟨trivial, trivial, trivial, trivial⟩ ?_
    refine jRun.br (fun g => ?_) (fun g => ?_)
    · have h := h.1 g
      exact jRun.ret (k := jk_X3_hasLabel) rfl 2 (v := some (.int 0)) (M1 := M) (ob := True ∧ (0 = 0 ∨ 0 = 1)) rfl ⟨trivial, (Or.inl rfl)⟩ h
    · have h := h.2 g
      obtain ⟨o1, h⟩ := h
      refine jRun.cut (k := jk_X3_hasLabel) rfl 5 (c' := (if (M 17 a1.toNatClampNeg) < 0 then 23 else 19, [.ref 12, .int a1], [], M)) (ob := True ∧ jKd T0 12 = 3 ∧ True ∧ (jKd T0 17 = 9 ∧ vp_in a1 8) ∧ True ∧ True) rfl ⟨trivial, rfl, trivial, ⟨rfl, o1⟩, trivial, trivial⟩ ?_
      refine jRun.br (fun g => ?_) (fun g => ?_)
      · have h := h.1 g
        exact jRun.ret (k := jk_X3_hasLabel) rfl 2 (v := some (.int 0)) (M1 := M) (ob := True ∧ (0 = 0 ∨ 0 = 1)) rfl ⟨trivial, (Or.inl rfl)⟩ h
      · have h := h.2 g
        exact jRun.ret (k := jk_X3_hasLabel) rfl 3 (v := some (.int 1)) (M1 := M) (ob := True ∧ True ∧ (1 = 0 ∨ 1 = 1)) rfl ⟨trivial, trivial, (Or.inr rfl)⟩ h
theorem v12_X3_allJumps {X : jX} {d : Nat} (hI : jInj X T0)  (M : jMem) (Q : Option Value → jMem → Prop) (h : Q (some (.int ((1 <<< ((M 12 10) &&& 31)) - 1))) M) : jOk X T0 d q_X3_allJumps [.ref 12] M Q := by
  refine jOk.intro (ml := 1) (ls := [.ref 12]) (jTl (by decide)) rfl (Nat.le_of_ble_eq_true rfl) rfl hI ?_
  exact jRun.ret (k := jk_X3_allJumps) rfl 7 (v := some (.int ((1 <<< ((M 12 10) &&& 31)) - 1))) (M1 := M) (ob := True ∧ True ∧ jKd T0 12 = 3 ∧ True ∧ True ∧ True ∧ True) rfl ⟨trivial, trivial, rfl, trivial, trivial, trivial, trivial⟩ h
theorem v_X3_becomeAs {X : jX} {d : Nat} (hI : jInj X T0)  (M : jMem) (Q : Option Value → jMem → Prop) (h : (∀ M1, M1 = jSC M 13 (va_cpy (M 4) (M 13) 0 0 32) → (∀ M2, M2 = jSC M1 14 (va_cpy (M1 5) (M1 14) 0 0 32) → (∀ M3, M3 = jSC M2 15 (va_cpy (M2 6) (M2 15) 0 0 32) → (∀ M4, M4 = jSC M3 16 (va_cpy (M3 7) (M3 16) 0 0 32) → (∀ M5, M5 = jSC M4 17 (va_cpy (M4 8) (M4 17) 0 0 8) → (∀ M6, M6 = jSC M5 18 (va_cpy (M5 9) (M5 18) 0 0 10) → (∀ M7, M7 = jSC M6 19 (va_cpy (M6 10) (M6 19) 0 0 6) → (∀ M8, M8 = jSC M7 20 (va_cpy (M7 11) (M7 20) 0 0 3) → (∀ M9, M9 = jP M8 12 8 (M8 3 8) → (∀ M10, M10 = jP M9 12 9 (M9 3 9) → (∀ M11, M11 = jP M10 12 10 (M10 3 10) → (∀ M12, M12 = jP M11 12 11 (M11 3 11) → (∀ M13, M13 = jP M12 12 12 (M12 3 12) → (∀ M14, M14 = jP M13 12 13 (M13 3 13) → Q none M14))))))))))))))) : jOk X T0 d q_X3_becomeAs [.ref 12, .ref 3] M Q := by
  refine jOk.intro (ml := 2) (ls := [.ref 12, .ref 3]) (jTl (by decide)) rfl (Nat.le_of_ble_eq_true rfl) rfl hI ?_
  refine jRun.cut (k := jk_X3_becomeAs) rfl 8 (c' := (15, [.ref 12, .ref 3], [], (jSC M 13 (va_cpy (M 4) (M 13) 0 0 32)))) (ob := True ∧ jKd T0 3 = 3 ∧ True ∧ True ∧ jKd T0 12 = 3 ∧ True ∧ True ∧ (jKd T0 4 = 9 ∧ jKd T0 13 = 9 ∧ ¬ (0 : Int32) < 0 ∧ ¬ (0 : Int32) < 0 ∧ ¬ (32 : Int32) < 0 ∧ (0 : Int32).toNatClampNeg + (32 : Int32).toNatClampNeg ≤ jLn T0 4 ∧ (0 : Int32).toNatClampNeg + (32 : Int32).toNatClampNeg ≤ jLn T0 13) ∧ True) rfl ⟨trivial, rfl, trivial, trivial, rfl, trivial, trivial, ⟨rfl, rfl, (by decide), (by decide), (by decide), (by decide), (by decide)⟩, trivial⟩ ?_
  refine jRun.nm (fun M1 eM1 => ?_)
  have h := h M1 eM1
  refine jRun.cut (k := jk_X3_becomeAs) rfl 8 (c' := (30, [.ref 12, .ref 3], [], (jSC M1 14 (va_cpy (M1 5) (M1 14) 0 0 32)))) (ob := True ∧ jKd T0 3 = 3 ∧ True ∧ True ∧ jKd T0 12 = 3 ∧ True ∧ True ∧ (jKd T0 5 = 9 ∧ jKd T0 14 = 9 ∧ ¬ (0 : Int32) < 0 ∧ ¬ (0 : Int32) < 0 ∧ ¬ (32 : Int32) < 0 ∧ (0 : Int32).toNatClampNeg + (32 : Int32).toNatClampNeg ≤ jLn T0 5 ∧ (0 : Int32).toNatClampNeg + (32 : Int32).toNatClampNeg ≤ jLn T0 14) ∧ True) rfl ⟨trivial, rfl, trivial, trivial, rfl, trivial, trivial, ⟨rfl, rfl, (by decide), (by decide), (by decide), (by decide), (by decide)⟩, trivial⟩ ?_
  refine jRun.nm (fun M2 eM2 => ?_)
  have h := h M2 eM2
  refine jRun.cut (k := jk_X3_becomeAs) rfl 8 (c' := (45, [.ref 12, .ref 3], [], (jSC M2 15 (va_cpy (M2 6) (M2 15) 0 0 32)))) (ob := True ∧ jKd T0 3 = 3 ∧ True ∧ True ∧ jKd T0 12 = 3 ∧ True ∧ True ∧ (jKd T0 6 = 9 ∧ jKd T0 15 = 9 ∧ ¬ (0 : Int32) < 0 ∧ ¬ (0 : Int32) < 0 ∧ ¬ (32 : Int32) < 0 ∧ (0 : Int32).toNatClampNeg + (32 : Int32).toNatClampNeg ≤ jLn T0 6 ∧ (0 : Int32).toNatClampNeg + (32 : Int32).toNatClampNeg ≤ jLn T0 15) ∧ True) rfl ⟨trivial, rfl, trivial, trivial, rfl, trivial, trivial, ⟨rfl, rfl, (by decide), (by decide), (by decide), (by decide), (by decide)⟩, trivial⟩ ?_
  refine jRun.nm (fun M3 eM3 => ?_)
  have h := h M3 eM3
  refine jRun.cut (k := jk_X3_becomeAs) rfl 8 (c' := (60, [.ref 12, .ref 3], [], (jSC M3 16 (va_cpy (M3 7) (M3 16) 0 0 32)))) (ob := True ∧ jKd T0 3 = 3 ∧ True ∧ True ∧ jKd T0 12 = 3 ∧ True ∧ True ∧ (jKd T0 7 = 9 ∧ jKd T0 16 = 9 ∧ ¬ (0 : Int32) < 0 ∧ ¬ (0 : Int32) < 0 ∧ ¬ (32 : Int32) < 0 ∧ (0 : Int32).toNatClampNeg + (32 : Int32).toNatClampNeg ≤ jLn T0 7 ∧ (0 : Int32).toNatClampNeg + (32 : Int32).toNatClampNeg ≤ jLn T0 16) ∧ True) rfl ⟨trivial, rfl, trivial, trivial, rfl, trivial, trivial, ⟨rfl, rfl, (by decide), (by decide), (by decide), (by decide), (by decide)⟩, trivial⟩ ?_
  refine jRun.nm (fun M4 eM4 => ?_)
  have h := h M4 eM4
  refine jRun.cut (k := jk_X3_becomeAs) rfl 8 (c' := (75, [.ref 12, .ref 3], [], (jSC M4 17 (va_cpy (M4 8) (M4 17) 0 0 8)))) (ob := True ∧ jKd T0 3 = 3 ∧ True ∧ True ∧ jKd T0 12 = 3 ∧ True ∧ True ∧ (jKd T0 8 = 9 ∧ jKd T0 17 = 9 ∧ ¬ (0 : Int32) < 0 ∧ ¬ (0 : Int32) < 0 ∧ ¬ (8 : Int32) < 0 ∧ (0 : Int32).toNatClampNeg + (8 : Int32).toNatClampNeg ≤ jLn T0 8 ∧ (0 : Int32).toNatClampNeg + (8 : Int32).toNatClampNeg ≤ jLn T0 17) ∧ True) rfl ⟨trivial, rfl, trivial, trivial, rfl, trivial, trivial, ⟨rfl, rfl, (by decide), (by decide), (by decide), (by decide), (by decide)⟩, trivial⟩ ?_
  refine jRun.nm (fun M5 eM5 => ?_)
  have h := h M5 eM5
  refine jRun.cut (k := jk_X3_becomeAs) rfl 8 (c' := (90, [.ref 12, .ref 3], [], (jSC M5 18 (va_cpy (M5 9) (M5 18) 0 0 10)))) (ob := True ∧ jKd T0 3 = 3 ∧ True ∧ True ∧ jKd T0 12 = 3 ∧ True ∧ True ∧ (jKd T0 9 = 9 ∧ jKd T0 18 = 9 ∧ ¬ (0 : Int32) < 0 ∧ ¬ (0 : Int32) < 0 ∧ ¬ (10 : Int32) < 0 ∧ (0 : Int32).toNatClampNeg + (10 : Int32).toNatClampNeg ≤ jLn T0 9 ∧ (0 : Int32).toNatClampNeg + (10 : Int32).toNatClampNeg ≤ jLn T0 18) ∧ True) rfl ⟨trivial, rfl, trivial, trivial, rfl, trivial, trivial, ⟨rfl, rfl, (by decide), (by decide), (by decide), (by decide), (by decide)⟩, trivial⟩ ?_
  refine jRun.nm (fun M6 eM6 => ?_)
  have h := h M6 eM6
  refine jRun.cut (k := jk_X3_becomeAs) rfl 8 (c' := (105, [.ref 12, .ref 3], [], (jSC M6 19 (va_cpy (M6 10) (M6 19) 0 0 6)))) (ob := True ∧ jKd T0 3 = 3 ∧ True ∧ True ∧ jKd T0 12 = 3 ∧ True ∧ True ∧ (jKd T0 10 = 9 ∧ jKd T0 19 = 9 ∧ ¬ (0 : Int32) < 0 ∧ ¬ (0 : Int32) < 0 ∧ ¬ (6 : Int32) < 0 ∧ (0 : Int32).toNatClampNeg + (6 : Int32).toNatClampNeg ≤ jLn T0 10 ∧ (0 : Int32).toNatClampNeg + (6 : Int32).toNatClampNeg ≤ jLn T0 19) ∧ True) rfl ⟨trivial, rfl, trivial, trivial, rfl, trivial, trivial, ⟨rfl, rfl, (by decide), (by decide), (by decide), (by decide), (by decide)⟩, trivial⟩ ?_
  refine jRun.nm (fun M7 eM7 => ?_)
  have h := h M7 eM7
  refine jRun.cut (k := jk_X3_becomeAs) rfl 8 (c' := (119, [.ref 12, .ref 3], [], (jSC M7 20 (va_cpy (M7 11) (M7 20) 0 0 3)))) (ob := True ∧ jKd T0 3 = 3 ∧ True ∧ True ∧ jKd T0 12 = 3 ∧ True ∧ True ∧ (jKd T0 11 = 9 ∧ jKd T0 20 = 9 ∧ ¬ (0 : Int32) < 0 ∧ ¬ (0 : Int32) < 0 ∧ ¬ (3 : Int32) < 0 ∧ (0 : Int32).toNatClampNeg + (3 : Int32).toNatClampNeg ≤ jLn T0 11 ∧ (0 : Int32).toNatClampNeg + (3 : Int32).toNatClampNeg ≤ jLn T0 20) ∧ True) rfl ⟨trivial, rfl, trivial, trivial, rfl, trivial, trivial, ⟨rfl, rfl, (by decide), (by decide), (by decide), (by decide), (by decide)⟩, trivial⟩ ?_
  refine jRun.nm (fun M8 eM8 => ?_)
  have h := h M8 eM8
  refine jRun.cut (k := jk_X3_becomeAs) rfl 4 (c' := (127, [.ref 12, .ref 3], [], (jP M8 12 8 (M8 3 8)))) (ob := True ∧ True ∧ jKd T0 3 = 3 ∧ jKd T0 12 = 3 ∧ True) rfl ⟨trivial, trivial, rfl, rfl, trivial⟩ ?_
  refine jRun.nm (fun M9 eM9 => ?_)
  have h := h M9 eM9
  refine jRun.cut (k := jk_X3_becomeAs) rfl 4 (c' := (135, [.ref 12, .ref 3], [], (jP M9 12 9 (M9 3 9)))) (ob := True ∧ True ∧ jKd T0 3 = 3 ∧ jKd T0 12 = 3 ∧ True) rfl ⟨trivial, trivial, rfl, rfl, trivial⟩ ?_
  refine jRun.nm (fun M10 eM10 => ?_)
  have h := h M10 eM10
  refine jRun.cut (k := jk_X3_becomeAs) rfl 4 (c' := (143, [.ref 12, .ref 3], [], (jP M10 12 10 (M10 3 10)))) (ob := True ∧ True ∧ jKd T0 3 = 3 ∧ jKd T0 12 = 3 ∧ True) rfl ⟨trivial, trivial, rfl, rfl, trivial⟩ ?_
  refine jRun.nm (fun M11 eM11 => ?_)
  have h := h M11 eM11
  refine jRun.cut (k := jk_X3_becomeAs) rfl 4 (c' := (151, [.ref 12, .ref 3], [], (jP M11 12 11 (M11 3 11)))) (ob := True ∧ True ∧ jKd T0 3 = 3 ∧ jKd T0 12 = 3 ∧ True) rfl ⟨trivial, trivial, rfl, rfl, trivial⟩ ?_
  refine jRun.nm (fun M12 eM12 => ?_)
  have h := h M12 eM12
  refine jRun.cut (k := jk_X3_becomeAs) rfl 4 (c' := (159, [.ref 12, .ref 3], [], (jP M12 12 12 (M12 3 12)))) (ob := True ∧ True ∧ jKd T0 3 = 3 ∧ jKd T0 12 = 3 ∧ True) rfl ⟨trivial, trivial, rfl, rfl, trivial⟩ ?_
  refine jRun.nm (fun M13 eM13 => ?_)
  have h := h M13 eM13
  refine jRun.cut (k := jk_X3_becomeAs) rfl 4 (c' := (167, [.ref 12, .ref 3], [], (jP M13 12 13 (M13 3 13)))) (ob := True ∧ True ∧ jKd T0 3 = 3 ∧ jKd T0 12 = 3 ∧ True) rfl ⟨trivial, trivial, rfl, rfl, trivial⟩ ?_
  refine jRun.nm (fun M14 eM14 => ?_)
  have h := h M14 eM14
  exact jRun.ret (k := jk_X3_becomeAs) rfl 1 (v := none) (M1 := M14) (ob := True) rfl trivial h
