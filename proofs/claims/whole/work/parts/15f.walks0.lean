theorem v_X8_in {X : jX} {d : Nat} (hI : jInj X T0) (a0 : Int64) (a2 : Int64) (a4 : Int64) (M : jMem) (Q : Option Value → jMem → Prop) (h : (((lg_cmp a0 a2) < 0 → Q (some (.int 0)) M) ∧ (¬ (lg_cmp a0 a2) < 0 → ((0 < (lg_cmp a0 a4) → Q (some (.int 0)) M) ∧ (¬ 0 < (lg_cmp a0 a4) → Q (some (.int 1)) M))))) : jOk X T0 d q_X8_in [.long a0, .long a2, .long a4] M Q := by
  refine jOk.intro (ml := 6) (ls := [.long a0, .null, .long a2, .null, .long a4, .null]) (jTl (by decide)) rfl (Nat.le_of_ble_eq_true rfl) rfl hI ?_
  refine jRun.cut (k := jk_X8_in) rfl 4 (c' := (if (lg_cmp a0 a2) < 0 then 17 else 6, [.long a0, .null, .long a2, .null, .long a4, .null], [], M)) (ob := True ∧ True ∧ True ∧ True ∧ True) rfl ⟨trivial, trivial, trivial, trivial, trivial⟩ ?_
  refine jRun.br (fun g => ?_) (fun g => ?_)
  · have h := h.1 g
    exact jRun.ret (k := jk_X8_in) rfl 2 (v := some (.int 0)) (M1 := M) (ob := True ∧ (0 = 0 ∨ 0 = 1)) rfl ⟨trivial, (Or.inl rfl)⟩ h
  · have h := h.2 g
    refine jRun.cut (k := jk_X8_in) rfl 4 (c' := (if 0 < (lg_cmp a0 a4) then 17 else 13, [.long a0, .null, .long a2, .null, .long a4, .null], [], M)) (ob := True ∧ True ∧ True ∧ True ∧ True) rfl ⟨trivial, trivial, trivial, trivial, trivial⟩ ?_
    refine jRun.br (fun g => ?_) (fun g => ?_)
    · have h := h.1 g
      exact jRun.ret (k := jk_X8_in) rfl 2 (v := some (.int 0)) (M1 := M) (ob := True ∧ (0 = 0 ∨ 0 = 1)) rfl ⟨trivial, (Or.inl rfl)⟩ h
    · have h := h.2 g
      exact jRun.ret (k := jk_X8_in) rfl 3 (v := some (.int 1)) (M1 := M) (ob := True ∧ True ∧ (1 = 0 ∨ 1 = 1)) rfl ⟨trivial, trivial, (Or.inr rfl)⟩ h
theorem v_X8_type {X : jX} {d : Nat} (hI : jInj X T0) (a1 : Int32) (M : jMem) (Q : Option Value → jMem → Prop) (h : (∀ M1, M1 = jP M 54 0 0 → jOk X T0 d q_X8_in [.long a1.toInt64, .long 0, .long 255] M1 (fun v M2 => ∃ r1, v = some (.int r1) ∧ ((¬ r1 = 0 → ((¬ (M2 54 2) = 150 → vp_in (M2 54 2) 150 ∧ (∀ M3, M3 = jP M2 55 ((M2 54 2).toNatClampNeg) a1 → (∀ M4, M4 = jP M3 54 2 ((M3 54 2) + 1) → Q (some (.int (M4 54 2))) M4))) ∧ ((M2 54 2) = 150 → Q (some (.int (-3))) M2))) ∧ (r1 = 0 → Q (some (.int (-1))) M2))))) : jOk X T0 (d + 1) q_X8_type [.ref 54, .int a1] M Q := by
  refine jOk.intro (ml := 2) (ls := [.ref 54, .int a1]) (jTl (by decide)) rfl (Nat.le_of_ble_eq_true rfl) rfl hI ?_
  refine jRun.cut (k := jk_X8_type) rfl 3 (c' := (5, [.ref 54, .int a1], [], (jP M 54 0 0))) (ob := True ∧ True ∧ jKd T0 54 = 8 ∧ True) rfl ⟨trivial, trivial, rfl, trivial⟩ ?_
  refine jRun.nm (fun M1 eM1 => ?_)
  have h := h M1 eM1
  refine jRun.call (k := jk_X8_type) rfl 5 (f := q_X8_in) (As := [.long a1.toInt64, .long 0, .long 255]) (c1 := (14, [.ref 54, .int a1], [], M1)) (ob := True ∧ True ∧ True ∧ True ∧ True) rfl ⟨trivial, trivial, trivial, trivial, trivial⟩ h (fun v M2 h => ?_)
  obtain ⟨r1, rfl, h⟩ := h
  show jRun X T0 (d + 1) q_X8_type (14, [.ref 54, .int a1], [.int r1], M2) Q
  refine jRun.cut (k := jk_X8_type) rfl 1 (c' := (if ¬ r1 = 0 then 19 else 17, [.ref 54, .int a1], [], M2)) (ob := True ∧ True) rfl ⟨trivial, trivial⟩ ?_
  refine jRun.brn (fun g => ?_) (fun g => ?_)
  · have h := h.1 g
    refine jRun.cut (k := jk_X8_type) rfl 4 (c' := (if ¬ (M2 54 2) = 150 then 32 else 29, [.ref 54, .int a1], [], M2)) (ob := True ∧ jKd T0 54 = 8 ∧ True ∧ True ∧ True) rfl ⟨trivial, rfl, trivial, trivial, trivial⟩ ?_
    refine jRun.brn (fun g => ?_) (fun g => ?_)
    · have h := h.1 g
      obtain ⟨o1, h⟩ := h
      refine jRun.cut (k := jk_X8_type) rfl 6 (c' := (42, [.ref 54, .int a1], [], (jP M2 55 ((M2 54 2).toNatClampNeg) a1))) (ob := True ∧ jKd T0 54 = 8 ∧ True ∧ jKd T0 54 = 8 ∧ True ∧ (jKd T0 55 = 9 ∧ vp_in (M2 54 2) 150) ∧ True) rfl ⟨trivial, rfl, trivial, rfl, trivial, ⟨rfl, o1⟩, trivial⟩ ?_
      refine jRun.nm (fun M3 eM3 => ?_)
      have h := h M3 eM3
      refine jRun.cut (k := jk_X8_type) rfl 6 (c' := (52, [.ref 54, .int a1], [], (jP M3 54 2 ((M3 54 2) + 1)))) (ob := True ∧ True ∧ jKd T0 54 = 8 ∧ True ∧ True ∧ jKd T0 54 = 8 ∧ True) rfl ⟨trivial, trivial, rfl, trivial, trivial, rfl, trivial⟩ ?_
      refine jRun.nm (fun M4 eM4 => ?_)
      have h := h M4 eM4
      exact jRun.ret (k := jk_X8_type) rfl 3 (v := some (.int (M4 54 2))) (M1 := M4) (ob := True ∧ jKd T0 54 = 8 ∧ True) rfl ⟨trivial, rfl, trivial⟩ h
    · have h := h.2 g
      exact jRun.ret (k := jk_X8_type) rfl 2 (v := some (.int (-3))) (M1 := M2) (ob := True ∧ True) rfl ⟨trivial, trivial⟩ h
  · have h := h.2 g
    exact jRun.ret (k := jk_X8_type) rfl 2 (v := some (.int (-1))) (M1 := M2) (ob := True ∧ True) rfl ⟨trivial, trivial⟩ h
theorem v_X8_clear {X : jX} {d : Nat} (hI : jInj X T0)  (M : jMem) (Q : Option Value → jMem → Prop) (h : (∀ M1, M1 = jP M 54 0 0 → (∀ M2, M2 = jP M1 54 2 0 → Q (some (.int (M1 54 2))) M2))) : jOk X T0 d q_X8_clear [.ref 54] M Q := by
  refine jOk.intro (ml := 2) (ls := [.ref 54, .null]) (jTl (by decide)) rfl (Nat.le_of_ble_eq_true rfl) rfl hI ?_
  refine jRun.cut (k := jk_X8_clear) rfl 3 (c' := (5, [.ref 54, .null], [], (jP M 54 0 0))) (ob := True ∧ True ∧ jKd T0 54 = 8 ∧ True) rfl ⟨trivial, trivial, rfl, trivial⟩ ?_
  refine jRun.nm (fun M1 eM1 => ?_)
  have h := h M1 eM1
  refine jRun.cut (k := jk_X8_clear) rfl 6 (c' := (15, [.ref 54, .int (M1 54 2)], [], (jP M1 54 2 0))) (ob := True ∧ jKd T0 54 = 8 ∧ True ∧ True ∧ True ∧ jKd T0 54 = 8 ∧ True) rfl ⟨trivial, rfl, trivial, trivial, trivial, rfl, trivial⟩ ?_
  refine jRun.nm (fun M2 eM2 => ?_)
  have h := h M2 eM2
  exact jRun.ret (k := jk_X8_clear) rfl 2 (v := some (.int (M1 54 2))) (M1 := M2) (ob := True ∧ True) rfl ⟨trivial, trivial⟩ h
theorem v_X8_byteAt {X : jX} {d : Nat} (hI : jInj X T0) (a1 : Int32) (M : jMem) (Q : Option Value → jMem → Prop) (h : (((M 54 2) ≤ a1 → Q (some (.int (-1))) M) ∧ (¬ (M 54 2) ≤ a1 → vp_in a1 150 ∧ Q (some (.int (M 55 a1.toNatClampNeg))) M))) : jOk X T0 d q_X8_byteAt [.ref 54, .int a1] M Q := by
  refine jOk.intro (ml := 2) (ls := [.ref 54, .int a1]) (jTl (by decide)) rfl (Nat.le_of_ble_eq_true rfl) rfl hI ?_
  refine jRun.cut (k := jk_X8_byteAt) rfl 4 (c' := (if (M 54 2) ≤ a1 then 17 else 8, [.ref 54, .int a1], [], M)) (ob := True ∧ True ∧ jKd T0 54 = 8 ∧ True ∧ True) rfl ⟨trivial, trivial, rfl, trivial, trivial⟩ ?_
  refine jRun.br (fun g => ?_) (fun g => ?_)
  · have h := h.1 g
    exact jRun.ret (k := jk_X8_byteAt) rfl 2 (v := some (.int (-1))) (M1 := M) (ob := True ∧ True) rfl ⟨trivial, trivial⟩ h
  · have h := h.2 g
    obtain ⟨o1, h⟩ := h
    exact jRun.ret (k := jk_X8_byteAt) rfl 6 (v := some (.int (M 55 a1.toNatClampNeg))) (M1 := M) (ob := True ∧ jKd T0 54 = 8 ∧ True ∧ (jKd T0 55 = 9 ∧ vp_in a1 150) ∧ True ∧ True) rfl ⟨trivial, rfl, trivial, ⟨rfl, o1⟩, trivial, trivial⟩ h
theorem v_X8_next {X : jX} {d : Nat} (hI : jInj X T0)  (M : jMem) (Q : Option Value → jMem → Prop) (h : jRun X T0 (d + 1) q_X8_next (0, [.ref 54, .null], [], M) Q) : jOk X T0 (d + 1) q_X8_next [.ref 54] M Q :=
  jOk.intro (ml := 2) (ls := [.ref 54, .null]) (jTl (by decide)) rfl (Nat.le_of_ble_eq_true rfl) rfl hI h
theorem v_X8_next_0 {X : jX} {d : Nat}  (M : jMem) (Q : Option Value → jMem → Prop) (h : jOk X T0 d q_X8_byteAt [.ref 54, .int (M 54 3)] M (fun v M1 => ∃ r1, v = some (.int r1) ∧ ((¬ r1 = 32 → (∀ M2, M2 = jP M1 54 4 (M1 54 3) → jOk X T0 d q_X8_byteAt [.ref 54, .int (M2 54 3)] M2 (fun v M3 => ∃ r2, v = some (.int r2) ∧ ((0 ≤ r2 → jOk X T0 d q_X8_in [.long r2.toInt64, .long 97, .long 122] M3 (fun v M4 => ∃ r3, v = some (.int r3) ∧ ((r3 = 0 → jOk X T0 d q_X8_in [.long r2.toInt64, .long 48, .long 57] M4 (fun v M5 => ∃ r4, v = some (.int r4) ∧ ((r4 = 0 → ((¬ r2 = 59 → (∀ M6, M6 = jP M5 54 5 4 → (∀ M7, M7 = jP M6 54 3 ((M6 54 3) + 1) → Q none M7))) ∧ (r2 = 59 → (∀ M8, M8 = jP M5 54 5 3 → (∀ M9, M9 = jP M8 54 3 ((M8 54 3) + 1) → Q none M9))))) ∧ (¬ r4 = 0 → (∀ M10, M10 = jP M5 54 5 2 → (∀ M11, M11 = jP M10 54 6 0 → jRun X T0 (d + 1) q_X8_next (152, [.ref 54, .int r2], [], M11) Q)))))) ∧ (¬ r3 = 0 → (∀ M12, M12 = jP M4 54 5 1 → (∀ M13, M13 = jP M12 54 6 r2 → (∀ M14, M14 = jP M13 54 3 ((M13 54 3) + 1) → jRun X T0 (d + 1) q_X8_next (89, [.ref 54, .int r2], [], M14) Q))))))) ∧ (¬ 0 ≤ r2 → (∀ M15, M15 = jP M3 54 5 0 → Q none M15)))))) ∧ (r1 = 32 → (∀ M16, M16 = jP M1 54 3 ((M1 54 3) + 1) → jRun X T0 (d + 1) q_X8_next (0, [.ref 54, .null], [], M16) Q))))) : jRun X T0 (d + 1) q_X8_next (0, [.ref 54, .null], [], M) Q := by
  refine jRun.call (k := jk_X8_next) rfl 4 (f := q_X8_byteAt) (As := [.ref 54, .int (M 54 3)]) (c1 := (8, [.ref 54, .null], [], M)) (ob := True ∧ True ∧ jKd T0 54 = 8 ∧ jKd T0 54 = 8) rfl ⟨trivial, trivial, rfl, rfl⟩ h (fun v M1 h => ?_)
  obtain ⟨r1, rfl, h⟩ := h
  show jRun X T0 (d + 1) q_X8_next (8, [.ref 54, .null], [.int r1], M1) Q
  refine jRun.cut (k := jk_X8_next) rfl 2 (c' := (if ¬ r1 = 32 then 26 else 13, [.ref 54, .null], [], M1)) (ob := True ∧ True ∧ True) rfl ⟨trivial, trivial, trivial⟩ ?_
  refine jRun.brn (fun g => ?_) (fun g => ?_)
  · have h := h.1 g
    refine jRun.cut (k := jk_X8_next) rfl 4 (c' := (34, [.ref 54, .null], [], (jP M1 54 4 (M1 54 3)))) (ob := True ∧ True ∧ jKd T0 54 = 8 ∧ jKd T0 54 = 8 ∧ True) rfl ⟨trivial, trivial, rfl, rfl, trivial⟩ ?_
    refine jRun.nm (fun M2 eM2 => ?_)
    have h := h M2 eM2
    refine jRun.call (k := jk_X8_next) rfl 4 (f := q_X8_byteAt) (As := [.ref 54, .int (M2 54 3)]) (c1 := (42, [.ref 54, .null], [], M2)) (ob := True ∧ True ∧ jKd T0 54 = 8 ∧ jKd T0 54 = 8) rfl ⟨trivial, trivial, rfl, rfl⟩ h (fun v M3 h => ?_)
    obtain ⟨r2, rfl, h⟩ := h
    show jRun X T0 (d + 1) q_X8_next (42, [.ref 54, .null], [.int r2], M3) Q
    refine jRun.cut (k := jk_X8_next) rfl 3 (c' := (if 0 ≤ r2 then 55 else 47, [.ref 54, .int r2], [], M3)) (ob := True ∧ True ∧ True ∧ True) rfl ⟨trivial, trivial, trivial, trivial⟩ ?_
    refine jRun.br (fun g => ?_) (fun g => ?_)
    · have h := h.1 g
      refine jRun.call (k := jk_X8_next) rfl 5 (f := q_X8_in) (As := [.long r2.toInt64, .long 97, .long 122]) (c1 := (66, [.ref 54, .int r2], [], M3)) (ob := True ∧ True ∧ True ∧ True ∧ True) rfl ⟨trivial, trivial, trivial, trivial, trivial⟩ h (fun v M4 h => ?_)
      obtain ⟨r3, rfl, h⟩ := h
      show jRun X T0 (d + 1) q_X8_next (66, [.ref 54, .int r2], [.int r3], M4) Q
      refine jRun.cut (k := jk_X8_next) rfl 1 (c' := (if r3 = 0 then 128 else 69, [.ref 54, .int r2], [], M4)) (ob := True ∧ True) rfl ⟨trivial, trivial⟩ ?_
      refine jRun.br (fun g => ?_) (fun g => ?_)
      · have h := h.1 g
        refine jRun.call (k := jk_X8_next) rfl 5 (f := q_X8_in) (As := [.long r2.toInt64, .long 48, .long 57]) (c1 := (139, [.ref 54, .int r2], [], M4)) (ob := True ∧ True ∧ True ∧ True ∧ True) rfl ⟨trivial, trivial, trivial, trivial, trivial⟩ h (fun v M5 h => ?_)
        obtain ⟨r4, rfl, h⟩ := h
        show jRun X T0 (d + 1) q_X8_next (139, [.ref 54, .int r2], [.int r4], M5) Q
        refine jRun.cut (k := jk_X8_next) rfl 1 (c' := (if r4 = 0 then 263 else 142, [.ref 54, .int r2], [], M5)) (ob := True ∧ True) rfl ⟨trivial, trivial⟩ ?_
        refine jRun.br (fun g => ?_) (fun g => ?_)
        · have h := h.1 g
          refine jRun.cut (k := jk_X8_next) rfl 3 (c' := (if ¬ r2 = 59 then 287 else 269, [.ref 54, .int r2], [], M5)) (ob := True ∧ True ∧ True ∧ True) rfl ⟨trivial, trivial, trivial, trivial⟩ ?_
          refine jRun.brn (fun g => ?_) (fun g => ?_)
          · have h := h.1 g
            refine jRun.cut (k := jk_X8_next) rfl 3 (c' := (292, [.ref 54, .int r2], [], (jP M5 54 5 4))) (ob := True ∧ True ∧ jKd T0 54 = 8 ∧ True) rfl ⟨trivial, trivial, rfl, trivial⟩ ?_
            refine jRun.nm (fun M6 eM6 => ?_)
            have h := h M6 eM6
            refine jRun.cut (k := jk_X8_next) rfl 6 (c' := (302, [.ref 54, .int r2], [], (jP M6 54 3 ((M6 54 3) + 1)))) (ob := True ∧ True ∧ jKd T0 54 = 8 ∧ True ∧ True ∧ jKd T0 54 = 8 ∧ True) rfl ⟨trivial, trivial, rfl, trivial, trivial, rfl, trivial⟩ ?_
            refine jRun.nm (fun M7 eM7 => ?_)
            have h := h M7 eM7
            exact jRun.ret (k := jk_X8_next) rfl 1 (v := none) (M1 := M7) (ob := True) rfl trivial h
          · have h := h.2 g
            refine jRun.cut (k := jk_X8_next) rfl 3 (c' := (274, [.ref 54, .int r2], [], (jP M5 54 5 3))) (ob := True ∧ True ∧ jKd T0 54 = 8 ∧ True) rfl ⟨trivial, trivial, rfl, trivial⟩ ?_
            refine jRun.nm (fun M8 eM8 => ?_)
            have h := h M8 eM8
            refine jRun.cut (k := jk_X8_next) rfl 6 (c' := (284, [.ref 54, .int r2], [], (jP M8 54 3 ((M8 54 3) + 1)))) (ob := True ∧ True ∧ jKd T0 54 = 8 ∧ True ∧ True ∧ jKd T0 54 = 8 ∧ True) rfl ⟨trivial, trivial, rfl, trivial, trivial, rfl, trivial⟩ ?_
            refine jRun.nm (fun M9 eM9 => ?_)
            have h := h M9 eM9
            exact jRun.ret (k := jk_X8_next) rfl 2 (v := none) (M1 := M9) (ob := True ∧ True) rfl ⟨trivial, trivial⟩ h
        · have h := h.2 g
          refine jRun.cut (k := jk_X8_next) rfl 3 (c' := (147, [.ref 54, .int r2], [], (jP M5 54 5 2))) (ob := True ∧ True ∧ jKd T0 54 = 8 ∧ True) rfl ⟨trivial, trivial, rfl, trivial⟩ ?_
          refine jRun.nm (fun M10 eM10 => ?_)
          have h := h M10 eM10
          refine jRun.cut (k := jk_X8_next) rfl 3 (c' := (152, [.ref 54, .int r2], [], (jP M10 54 6 0))) (ob := True ∧ True ∧ jKd T0 54 = 8 ∧ True) rfl ⟨trivial, trivial, rfl, trivial⟩ ?_
          refine jRun.nm (fun M11 eM11 => ?_)
          have h := h M11 eM11
          exact h
      · have h := h.2 g
        refine jRun.cut (k := jk_X8_next) rfl 3 (c' := (74, [.ref 54, .int r2], [], (jP M4 54 5 1))) (ob := True ∧ True ∧ jKd T0 54 = 8 ∧ True) rfl ⟨trivial, trivial, rfl, trivial⟩ ?_
        refine jRun.nm (fun M12 eM12 => ?_)
        have h := h M12 eM12
        refine jRun.cut (k := jk_X8_next) rfl 3 (c' := (79, [.ref 54, .int r2], [], (jP M12 54 6 r2))) (ob := True ∧ True ∧ jKd T0 54 = 8 ∧ True) rfl ⟨trivial, trivial, rfl, trivial⟩ ?_
        refine jRun.nm (fun M13 eM13 => ?_)
        have h := h M13 eM13
        refine jRun.cut (k := jk_X8_next) rfl 6 (c' := (89, [.ref 54, .int r2], [], (jP M13 54 3 ((M13 54 3) + 1)))) (ob := True ∧ True ∧ jKd T0 54 = 8 ∧ True ∧ True ∧ jKd T0 54 = 8 ∧ True) rfl ⟨trivial, trivial, rfl, trivial, trivial, rfl, trivial⟩ ?_
        refine jRun.nm (fun M14 eM14 => ?_)
        have h := h M14 eM14
        exact h
    · have h := h.2 g
      refine jRun.cut (k := jk_X8_next) rfl 3 (c' := (52, [.ref 54, .int r2], [], (jP M3 54 5 0))) (ob := True ∧ True ∧ jKd T0 54 = 8 ∧ True) rfl ⟨trivial, trivial, rfl, trivial⟩ ?_
      refine jRun.nm (fun M15 eM15 => ?_)
      have h := h M15 eM15
      exact jRun.ret (k := jk_X8_next) rfl 2 (v := none) (M1 := M15) (ob := True ∧ True) rfl ⟨trivial, trivial⟩ h
  · have h := h.2 g
    refine jRun.cut (k := jk_X8_next) rfl 6 (c' := (23, [.ref 54, .null], [], (jP M1 54 3 ((M1 54 3) + 1)))) (ob := True ∧ True ∧ jKd T0 54 = 8 ∧ True ∧ True ∧ jKd T0 54 = 8 ∧ True) rfl ⟨trivial, trivial, rfl, trivial, trivial, rfl, trivial⟩ ?_
    refine jRun.nm (fun M16 eM16 => ?_)
    have h := h M16 eM16
    refine jRun.cut (k := jk_X8_next) rfl 1 (c' := (0, [.ref 54, .null], [], M16)) (ob := True ∧ True) rfl ⟨trivial, trivial⟩ ?_
    exact h
theorem v_X8_next_89 {X : jX} {d : Nat} (a1 : Int32) (M : jMem) (Q : Option Value → jMem → Prop) (h : jOk X T0 d q_X8_byteAt [.ref 54, .int (M 54 3)] M (fun v M1 => ∃ r1, v = some (.int r1) ∧ jOk X T0 d q_X8_in [.long r1.toInt64, .long 97, .long 122] M1 (fun v M2 => ∃ r2, v = some (.int r2) ∧ ((r2 = 0 → Q none M2) ∧ (¬ r2 = 0 → (∀ M3, M3 = jP M2 54 6 0 → (∀ M4, M4 = jP M3 54 3 ((M3 54 3) + 1) → jRun X T0 (d + 1) q_X8_next (89, [.ref 54, .int a1], [], M4) Q))))))) : jRun X T0 (d + 1) q_X8_next (89, [.ref 54, .int a1], [], M) Q := by
  refine jRun.call (k := jk_X8_next) rfl 4 (f := q_X8_byteAt) (As := [.ref 54, .int (M 54 3)]) (c1 := (97, [.ref 54, .int a1], [], M)) (ob := True ∧ True ∧ jKd T0 54 = 8 ∧ jKd T0 54 = 8) rfl ⟨trivial, trivial, rfl, rfl⟩ h (fun v M1 h => ?_)
  obtain ⟨r1, rfl, h⟩ := h
  show jRun X T0 (d + 1) q_X8_next (97, [.ref 54, .int a1], [.int r1], M1) Q
  refine jRun.call (k := jk_X8_next) rfl 4 (f := q_X8_in) (As := [.long r1.toInt64, .long 97, .long 122]) (c1 := (107, [.ref 54, .int a1], [], M1)) (ob := True ∧ True ∧ True ∧ True) rfl ⟨trivial, trivial, trivial, trivial⟩ h (fun v M2 h => ?_)
  obtain ⟨r2, rfl, h⟩ := h
  show jRun X T0 (d + 1) q_X8_next (107, [.ref 54, .int a1], [.int r2], M2) Q
  refine jRun.cut (k := jk_X8_next) rfl 1 (c' := (if r2 = 0 then 302 else 110, [.ref 54, .int a1], [], M2)) (ob := True ∧ True) rfl ⟨trivial, trivial⟩ ?_
  refine jRun.br (fun g => ?_) (fun g => ?_)
  · have h := h.1 g
    exact jRun.ret (k := jk_X8_next) rfl 1 (v := none) (M1 := M2) (ob := True) rfl trivial h
  · have h := h.2 g
    refine jRun.cut (k := jk_X8_next) rfl 3 (c' := (115, [.ref 54, .int a1], [], (jP M2 54 6 0))) (ob := True ∧ True ∧ jKd T0 54 = 8 ∧ True) rfl ⟨trivial, trivial, rfl, trivial⟩ ?_
    refine jRun.nm (fun M3 eM3 => ?_)
    have h := h M3 eM3
    refine jRun.cut (k := jk_X8_next) rfl 6 (c' := (125, [.ref 54, .int a1], [], (jP M3 54 3 ((M3 54 3) + 1)))) (ob := True ∧ True ∧ jKd T0 54 = 8 ∧ True ∧ True ∧ jKd T0 54 = 8 ∧ True) rfl ⟨trivial, trivial, rfl, trivial, trivial, rfl, trivial⟩ ?_
    refine jRun.nm (fun M4 eM4 => ?_)
    have h := h M4 eM4
    refine jRun.cut (k := jk_X8_next) rfl 1 (c' := (89, [.ref 54, .int a1], [], M4)) (ob := True ∧ True) rfl ⟨trivial, trivial⟩ ?_
    exact h
theorem v_X8_next_152 {X : jX} {d : Nat} (a1 : Int32) (M : jMem) (Q : Option Value → jMem → Prop) (h : jOk X T0 d q_X8_byteAt [.ref 54, .int (M 54 3)] M (fun v M1 => ∃ r1, v = some (.int r1) ∧ jOk X T0 d q_X8_in [.long r1.toInt64, .long 48, .long 57] M1 (fun v M2 => ∃ r2, v = some (.int r2) ∧ ((r2 = 0 → ((999 < (M2 54 6) → jRun X T0 (d + 1) q_X8_next (255, [.ref 54, .int a1], [], M2) Q) ∧ (¬ 999 < (M2 54 6) → ((¬ a1 = 48 → Q none M2) ∧ (a1 = 48 → (((M2 54 3) ≤ ((M2 54 4) + 1) → Q none M2) ∧ (¬ (M2 54 3) ≤ ((M2 54 4) + 1) → jRun X T0 (d + 1) q_X8_next (255, [.ref 54, .int a1], [], M2) Q))))))) ∧ (¬ r2 = 0 → (((M2 54 6) ≤ 999 → jOk X T0 d q_X8_byteAt [.ref 54, .int (M2 54 3)] M2 (fun v M3 => ∃ r3, v = some (.int r3) ∧ jRun X T0 (d + 1) q_X8_next (210, [.ref 54, .int a1], [.int (((10 * (M2 54 6)) + r3) - 48), .ref 54], M3) Q)) ∧ (¬ (M2 54 6) ≤ 999 → jRun X T0 (d + 1) q_X8_next (210, [.ref 54, .int a1], [.int (M2 54 6), .ref 54], M2) Q))))))) : jRun X T0 (d + 1) q_X8_next (152, [.ref 54, .int a1], [], M) Q := by
  refine jRun.call (k := jk_X8_next) rfl 4 (f := q_X8_byteAt) (As := [.ref 54, .int (M 54 3)]) (c1 := (160, [.ref 54, .int a1], [], M)) (ob := True ∧ True ∧ jKd T0 54 = 8 ∧ jKd T0 54 = 8) rfl ⟨trivial, trivial, rfl, rfl⟩ h (fun v M1 h => ?_)
  obtain ⟨r1, rfl, h⟩ := h
  show jRun X T0 (d + 1) q_X8_next (160, [.ref 54, .int a1], [.int r1], M1) Q
  refine jRun.call (k := jk_X8_next) rfl 4 (f := q_X8_in) (As := [.long r1.toInt64, .long 48, .long 57]) (c1 := (170, [.ref 54, .int a1], [], M1)) (ob := True ∧ True ∧ True ∧ True) rfl ⟨trivial, trivial, trivial, trivial⟩ h (fun v M2 h => ?_)
  obtain ⟨r2, rfl, h⟩ := h
  show jRun X T0 (d + 1) q_X8_next (170, [.ref 54, .int a1], [.int r2], M2) Q
  refine jRun.cut (k := jk_X8_next) rfl 1 (c' := (if r2 = 0 then 226 else 173, [.ref 54, .int a1], [], M2)) (ob := True ∧ True) rfl ⟨trivial, trivial⟩ ?_
  refine jRun.br (fun g => ?_) (fun g => ?_)
  · have h := h.1 g
    refine jRun.cut (k := jk_X8_next) rfl 4 (c' := (if 999 < (M2 54 6) then 255 else 236, [.ref 54, .int a1], [], M2)) (ob := True ∧ jKd T0 54 = 8 ∧ True ∧ True ∧ True) rfl ⟨trivial, rfl, trivial, trivial, trivial⟩ ?_
    refine jRun.br (fun g => ?_) (fun g => ?_)
    · have h := h.1 g
      exact h
    · have h := h.2 g
      refine jRun.cut (k := jk_X8_next) rfl 3 (c' := (if ¬ a1 = 48 then 302 else 242, [.ref 54, .int a1], [], M2)) (ob := True ∧ True ∧ True ∧ True) rfl ⟨trivial, trivial, trivial, trivial⟩ ?_
      refine jRun.brn (fun g => ?_) (fun g => ?_)
      · have h := h.1 g
        exact jRun.ret (k := jk_X8_next) rfl 1 (v := none) (M1 := M2) (ob := True) rfl trivial h
      · have h := h.2 g
        refine jRun.cut (k := jk_X8_next) rfl 7 (c' := (if (M2 54 3) ≤ ((M2 54 4) + 1) then 302 else 255, [.ref 54, .int a1], [], M2)) (ob := True ∧ jKd T0 54 = 8 ∧ True ∧ jKd T0 54 = 8 ∧ True ∧ True ∧ True ∧ True) rfl ⟨trivial, rfl, trivial, rfl, trivial, trivial, trivial, trivial⟩ ?_
        refine jRun.br (fun g => ?_) (fun g => ?_)
        · have h := h.1 g
          exact jRun.ret (k := jk_X8_next) rfl 1 (v := none) (M1 := M2) (ob := True) rfl trivial h
        · have h := h.2 g
          exact h
  · have h := h.2 g
    refine jRun.cut (k := jk_X8_next) rfl 5 (c' := (if (M2 54 6) ≤ 999 then 191 else 184, [.ref 54, .int a1], [.ref 54], M2)) (ob := True ∧ True ∧ jKd T0 54 = 8 ∧ True ∧ True ∧ True) rfl ⟨trivial, trivial, rfl, trivial, trivial, trivial⟩ ?_
    refine jRun.br (fun g => ?_) (fun g => ?_)
    · have h := h.1 g
      refine jRun.call (k := jk_X8_next) rfl 8 (f := q_X8_byteAt) (As := [.ref 54, .int (M2 54 3)]) (c1 := (206, [.ref 54, .int a1], [.int (10 * (M2 54 6)), .ref 54], M2)) (ob := True ∧ True ∧ jKd T0 54 = 8 ∧ True ∧ True ∧ True ∧ jKd T0 54 = 8 ∧ jKd T0 54 = 8) rfl ⟨trivial, trivial, rfl, trivial, trivial, trivial, rfl, rfl⟩ h (fun v M3 h => ?_)
      obtain ⟨r3, rfl, h⟩ := h
      show jRun X T0 (d + 1) q_X8_next (206, [.ref 54, .int a1], [.int r3, .int (10 * (M2 54 6)), .ref 54], M3) Q
      refine jRun.cut (k := jk_X8_next) rfl 3 (c' := (210, [.ref 54, .int a1], [.int (((10 * (M2 54 6)) + r3) - 48), .ref 54], M3)) (ob := True ∧ True ∧ True ∧ True) rfl ⟨trivial, trivial, trivial, trivial⟩ ?_
      exact h
    · have h := h.2 g
      refine jRun.cut (k := jk_X8_next) rfl 3 (c' := (210, [.ref 54, .int a1], [.int (M2 54 6), .ref 54], M2)) (ob := True ∧ jKd T0 54 = 8 ∧ True ∧ True) rfl ⟨trivial, rfl, trivial, trivial⟩ ?_
      exact h
theorem v_X8_next_210 {X : jX} {d : Nat} (a1 : Int32) (s0 : Int32) (s1 : Nat) (M : jMem) (Q : Option Value → jMem → Prop) (h : jKd T0 s1 = 8 ∧ (∀ M1, M1 = jP M s1 6 s0 → (∀ M2, M2 = jP M1 54 3 ((M1 54 3) + 1) → jRun X T0 (d + 1) q_X8_next (152, [.ref 54, .int a1], [], M2) Q))) : jRun X T0 (d + 1) q_X8_next (210, [.ref 54, .int a1], [.int s0, .ref s1], M) Q := by
  obtain ⟨o1, h⟩ := h
  refine jRun.cut (k := jk_X8_next) rfl 1 (c' := (213, [.ref 54, .int a1], [], (jP M s1 6 s0))) (ob := jKd T0 s1 = 8 ∧ True) rfl ⟨o1, trivial⟩ ?_
  refine jRun.nm (fun M1 eM1 => ?_)
  have h := h M1 eM1
  refine jRun.cut (k := jk_X8_next) rfl 6 (c' := (223, [.ref 54, .int a1], [], (jP M1 54 3 ((M1 54 3) + 1)))) (ob := True ∧ True ∧ jKd T0 54 = 8 ∧ True ∧ True ∧ jKd T0 54 = 8 ∧ True) rfl ⟨trivial, trivial, rfl, trivial, trivial, rfl, trivial⟩ ?_
  refine jRun.nm (fun M2 eM2 => ?_)
  have h := h M2 eM2
  refine jRun.cut (k := jk_X8_next) rfl 1 (c' := (152, [.ref 54, .int a1], [], M2)) (ob := True ∧ True) rfl ⟨trivial, trivial⟩ ?_
  exact h
theorem v_X8_next_255 {X : jX} {d : Nat} (a1 : Int32) (M : jMem) (Q : Option Value → jMem → Prop) (h : (∀ M1, M1 = jP M 54 5 4 → Q none M1)) : jRun X T0 (d + 1) q_X8_next (255, [.ref 54, .int a1], [], M) Q := by
  refine jRun.cut (k := jk_X8_next) rfl 3 (c' := (260, [.ref 54, .int a1], [], (jP M 54 5 4))) (ob := True ∧ True ∧ jKd T0 54 = 8 ∧ True) rfl ⟨trivial, trivial, rfl, trivial⟩ ?_
  refine jRun.nm (fun M1 eM1 => ?_)
  have h := h M1 eM1
  exact jRun.ret (k := jk_X8_next) rfl 2 (v := none) (M1 := M1) (ob := True ∧ True) rfl ⟨trivial, trivial⟩ h
theorem v_X8_sortBy {X : jX} {d : Nat} (hI : jInj X T0) (a0 : Int32) (M : jMem) (Q : Option Value → jMem → Prop) (h : ((¬ a0 = 111 → ((¬ a0 = 108 → ((¬ a0 = 106 → ((¬ a0 = 97 → ((¬ a0 = 99 → ((¬ a0 = 105 → ((¬ a0 = 114 → Q (some (.int (-9))) M) ∧ (a0 = 114 → Q (some (.int 6)) M))) ∧ (a0 = 105 → Q (some (.int 5)) M))) ∧ (a0 = 99 → Q (some (.int 4)) M))) ∧ (a0 = 97 → Q (some (.int 3)) M))) ∧ (a0 = 106 → Q (some (.int 2)) M))) ∧ (a0 = 108 → Q (some (.int 1)) M))) ∧ (a0 = 111 → Q (some (.int 0)) M))) : jOk X T0 d q_X8_sortBy [.int a0] M Q := by
  refine jOk.intro (ml := 1) (ls := [.int a0]) (jTl (by decide)) rfl (Nat.le_of_ble_eq_true rfl) rfl hI ?_
  refine jRun.cut (k := jk_X8_sortBy) rfl 3 (c' := (if ¬ a0 = 111 then 10 else 6, [.int a0], [], M)) (ob := True ∧ True ∧ True ∧ True) rfl ⟨trivial, trivial, trivial, trivial⟩ ?_
  refine jRun.brn (fun g => ?_) (fun g => ?_)
  · have h := h.1 g
    refine jRun.cut (k := jk_X8_sortBy) rfl 3 (c' := (if ¬ a0 = 108 then 20 else 16, [.int a0], [], M)) (ob := True ∧ True ∧ True ∧ True) rfl ⟨trivial, trivial, trivial, trivial⟩ ?_
    refine jRun.brn (fun g => ?_) (fun g => ?_)
    · have h := h.1 g
      refine jRun.cut (k := jk_X8_sortBy) rfl 3 (c' := (if ¬ a0 = 106 then 30 else 26, [.int a0], [], M)) (ob := True ∧ True ∧ True ∧ True) rfl ⟨trivial, trivial, trivial, trivial⟩ ?_
      refine jRun.brn (fun g => ?_) (fun g => ?_)
      · have h := h.1 g
        refine jRun.cut (k := jk_X8_sortBy) rfl 3 (c' := (if ¬ a0 = 97 then 40 else 36, [.int a0], [], M)) (ob := True ∧ True ∧ True ∧ True) rfl ⟨trivial, trivial, trivial, trivial⟩ ?_
        refine jRun.brn (fun g => ?_) (fun g => ?_)
        · have h := h.1 g
          refine jRun.cut (k := jk_X8_sortBy) rfl 3 (c' := (if ¬ a0 = 99 then 50 else 46, [.int a0], [], M)) (ob := True ∧ True ∧ True ∧ True) rfl ⟨trivial, trivial, trivial, trivial⟩ ?_
          refine jRun.brn (fun g => ?_) (fun g => ?_)
          · have h := h.1 g
            refine jRun.cut (k := jk_X8_sortBy) rfl 3 (c' := (if ¬ a0 = 105 then 60 else 56, [.int a0], [], M)) (ob := True ∧ True ∧ True ∧ True) rfl ⟨trivial, trivial, trivial, trivial⟩ ?_
            refine jRun.brn (fun g => ?_) (fun g => ?_)
            · have h := h.1 g
              refine jRun.cut (k := jk_X8_sortBy) rfl 3 (c' := (if ¬ a0 = 114 then 71 else 66, [.int a0], [], M)) (ob := True ∧ True ∧ True ∧ True) rfl ⟨trivial, trivial, trivial, trivial⟩ ?_
              refine jRun.brn (fun g => ?_) (fun g => ?_)
              · have h := h.1 g
                exact jRun.ret (k := jk_X8_sortBy) rfl 2 (v := some (.int (-9))) (M1 := M) (ob := True ∧ True) rfl ⟨trivial, trivial⟩ h
              · have h := h.2 g
                exact jRun.ret (k := jk_X8_sortBy) rfl 3 (v := some (.int 6)) (M1 := M) (ob := True ∧ True ∧ True) rfl ⟨trivial, trivial, trivial⟩ h
            · have h := h.2 g
              exact jRun.ret (k := jk_X8_sortBy) rfl 3 (v := some (.int 5)) (M1 := M) (ob := True ∧ True ∧ True) rfl ⟨trivial, trivial, trivial⟩ h
          · have h := h.2 g
            exact jRun.ret (k := jk_X8_sortBy) rfl 3 (v := some (.int 4)) (M1 := M) (ob := True ∧ True ∧ True) rfl ⟨trivial, trivial, trivial⟩ h
        · have h := h.2 g
          exact jRun.ret (k := jk_X8_sortBy) rfl 3 (v := some (.int 3)) (M1 := M) (ob := True ∧ True ∧ True) rfl ⟨trivial, trivial, trivial⟩ h
      · have h := h.2 g
        exact jRun.ret (k := jk_X8_sortBy) rfl 3 (v := some (.int 2)) (M1 := M) (ob := True ∧ True ∧ True) rfl ⟨trivial, trivial, trivial⟩ h
    · have h := h.2 g
      exact jRun.ret (k := jk_X8_sortBy) rfl 3 (v := some (.int 1)) (M1 := M) (ob := True ∧ True ∧ True) rfl ⟨trivial, trivial, trivial⟩ h
  · have h := h.2 g
    exact jRun.ret (k := jk_X8_sortBy) rfl 3 (v := some (.int 0)) (M1 := M) (ob := True ∧ True ∧ True) rfl ⟨trivial, trivial, trivial⟩ h
theorem v_X8_tellOf {X : jX} {d : Nat} (hI : jInj X T0) (a1 : Int32) (M : jMem) (Q : Option Value → jMem → Prop) (h : jRun X T0 d q_X8_tellOf (4, [.ref 54, .int a1, .int 0, .int 0], [], M) Q) : jOk X T0 d q_X8_tellOf [.ref 54, .int a1] M Q := by
  refine jOk.intro (ml := 4) (ls := [.ref 54, .int a1, .null, .null]) (jTl (by decide)) rfl (Nat.le_of_ble_eq_true rfl) rfl hI ?_
  refine jRun.cut (k := jk_X8_tellOf) rfl 4 (c' := (4, [.ref 54, .int a1, .int 0, .int 0], [], M)) (ob := True ∧ True ∧ True ∧ True ∧ True) rfl ⟨trivial, trivial, trivial, trivial, trivial⟩ ?_
  exact h
theorem v_X8_tellOf_4 {X : jX} {d : Nat} (a1 : Int32) (a2 : Int32) (a3 : Int32) (M : jMem) (Q : Option Value → jMem → Prop) (h : (((M 54 27) ≤ a3 → Q (some (.int a2)) M) ∧ (¬ (M 54 27) ≤ a3 → vp_in a3 32 ∧ ((¬ (M 67 a3.toNatClampNeg) = a1 → jRun X T0 d q_X8_tellOf (4, [.ref 54, .int a1, .int (a2 + 0), .int (a3 + 1)], [], M) Q) ∧ ((M 67 a3.toNatClampNeg) = a1 → jRun X T0 d q_X8_tellOf (4, [.ref 54, .int a1, .int (a2 + 1), .int (a3 + 1)], [], M) Q))))) : jRun X T0 d q_X8_tellOf (4, [.ref 54, .int a1, .int a2, .int a3], [], M) Q := by
  refine jRun.cut (k := jk_X8_tellOf) rfl 4 (c' := (if (M 54 27) ≤ a3 then 36 else 12, [.ref 54, .int a1, .int a2, .int a3], [], M)) (ob := True ∧ True ∧ jKd T0 54 = 8 ∧ True ∧ True) rfl ⟨trivial, trivial, rfl, trivial, trivial⟩ ?_
  refine jRun.br (fun g => ?_) (fun g => ?_)
  · have h := h.1 g
    exact jRun.ret (k := jk_X8_tellOf) rfl 2 (v := some (.int a2)) (M1 := M) (ob := True ∧ True) rfl ⟨trivial, trivial⟩ h
  · have h := h.2 g
    obtain ⟨o1, h⟩ := h
    refine jRun.cut (k := jk_X8_tellOf) rfl 7 (c' := (if ¬ (M 67 a3.toNatClampNeg) = a1 then 27 else 23, [.ref 54, .int a1, .int a2, .int a3], [.int a2], M)) (ob := True ∧ True ∧ jKd T0 54 = 8 ∧ True ∧ (jKd T0 67 = 9 ∧ vp_in a3 32) ∧ True ∧ True ∧ True) rfl ⟨trivial, trivial, rfl, trivial, ⟨rfl, o1⟩, trivial, trivial, trivial⟩ ?_
    refine jRun.brn (fun g => ?_) (fun g => ?_)
    · have h := h.1 g
      refine jRun.cut (k := jk_X8_tellOf) rfl 5 (c' := (4, [.ref 54, .int a1, .int (a2 + 0), .int (a3 + 1)], [], M)) (ob := True ∧ True ∧ True ∧ True ∧ True ∧ True) rfl ⟨trivial, trivial, trivial, trivial, trivial, trivial⟩ ?_
      exact h
    · have h := h.2 g
      refine jRun.cut (k := jk_X8_tellOf) rfl 6 (c' := (4, [.ref 54, .int a1, .int (a2 + 1), .int (a3 + 1)], [], M)) (ob := True ∧ True ∧ True ∧ True ∧ True ∧ True ∧ True) rfl ⟨trivial, trivial, trivial, trivial, trivial, trivial, trivial⟩ ?_
      exact h
theorem v_X8_isLabelTold {X : jX} {d : Nat} (hI : jInj X T0) (a1 : Int32) (M : jMem) (Q : Option Value → jMem → Prop) (h : jRun X T0 d q_X8_isLabelTold (2, [.ref 54, .int a1, .int 0], [], M) Q) : jOk X T0 d q_X8_isLabelTold [.ref 54, .int a1] M Q := by
  refine jOk.intro (ml := 3) (ls := [.ref 54, .int a1, .null]) (jTl (by decide)) rfl (Nat.le_of_ble_eq_true rfl) rfl hI ?_
  refine jRun.cut (k := jk_X8_isLabelTold) rfl 2 (c' := (2, [.ref 54, .int a1, .int 0], [], M)) (ob := True ∧ True ∧ True) rfl ⟨trivial, trivial, trivial⟩ ?_
  exact h
theorem v_X8_isLabelTold_2 {X : jX} {d : Nat} (a1 : Int32) (a2 : Int32) (M : jMem) (Q : Option Value → jMem → Prop) (h : (((M 54 27) ≤ a2 → Q (some (.int 0)) M) ∧ (¬ (M 54 27) ≤ a2 → vp_in a2 32 ∧ ((¬ (M 67 a2.toNatClampNeg) = 1 → jRun X T0 d q_X8_isLabelTold (2, [.ref 54, .int a1, .int (a2 + 1)], [], M) Q) ∧ ((M 67 a2.toNatClampNeg) = 1 → ((¬ (M 68 a2.toNatClampNeg) = a1 → jRun X T0 d q_X8_isLabelTold (2, [.ref 54, .int a1, .int (a2 + 1)], [], M) Q) ∧ ((M 68 a2.toNatClampNeg) = a1 → Q (some (.int 1)) M))))))) : jRun X T0 d q_X8_isLabelTold (2, [.ref 54, .int a1, .int a2], [], M) Q := by
  refine jRun.cut (k := jk_X8_isLabelTold) rfl 4 (c' := (if (M 54 27) ≤ a2 then 38 else 10, [.ref 54, .int a1, .int a2], [], M)) (ob := True ∧ True ∧ jKd T0 54 = 8 ∧ True ∧ True) rfl ⟨trivial, trivial, rfl, trivial, trivial⟩ ?_
  refine jRun.br (fun g => ?_) (fun g => ?_)
  · have h := h.1 g
    exact jRun.ret (k := jk_X8_isLabelTold) rfl 2 (v := some (.int 0)) (M1 := M) (ob := True ∧ (0 = 0 ∨ 0 = 1)) rfl ⟨trivial, (Or.inl rfl)⟩ h
  · have h := h.2 g
    obtain ⟨o1, h⟩ := h
    refine jRun.cut (k := jk_X8_isLabelTold) rfl 6 (c' := (if ¬ (M 67 a2.toNatClampNeg) = 1 then 32 else 20, [.ref 54, .int a1, .int a2], [], M)) (ob := True ∧ jKd T0 54 = 8 ∧ True ∧ (jKd T0 67 = 9 ∧ vp_in a2 32) ∧ True ∧ True ∧ True) rfl ⟨trivial, rfl, trivial, ⟨rfl, o1⟩, trivial, trivial, trivial⟩ ?_
    refine jRun.brn (fun g => ?_) (fun g => ?_)
    · have h := h.1 g
      refine jRun.cut (k := jk_X8_isLabelTold) rfl 2 (c' := (2, [.ref 54, .int a1, .int (a2 + 1)], [], M)) (ob := True ∧ True ∧ True) rfl ⟨trivial, trivial, trivial⟩ ?_
      exact h
    · have h := h.2 g
      refine jRun.cut (k := jk_X8_isLabelTold) rfl 6 (c' := (if ¬ (M 68 a2.toNatClampNeg) = a1 then 32 else 30, [.ref 54, .int a1, .int a2], [], M)) (ob := True ∧ jKd T0 54 = 8 ∧ True ∧ (jKd T0 68 = 9 ∧ vp_in a2 32) ∧ True ∧ True ∧ True) rfl ⟨trivial, rfl, trivial, ⟨rfl, o1⟩, trivial, trivial, trivial⟩ ?_
      refine jRun.brn (fun g => ?_) (fun g => ?_)
      · have h := h.1 g
        refine jRun.cut (k := jk_X8_isLabelTold) rfl 2 (c' := (2, [.ref 54, .int a1, .int (a2 + 1)], [], M)) (ob := True ∧ True ∧ True) rfl ⟨trivial, trivial, trivial⟩ ?_
        exact h
      · have h := h.2 g
        exact jRun.ret (k := jk_X8_isLabelTold) rfl 2 (v := some (.int 1)) (M1 := M) (ob := True ∧ (1 = 0 ∨ 1 = 1)) rfl ⟨trivial, (Or.inr rfl)⟩ h
theorem v_X8_isRight {X : jX} {d : Nat} (hI : jInj X T0) (a1 : Int32) (M : jMem) (Q : Option Value → jMem → Prop) (h : ((a1 = 0 → ((¬ (M 54 5) = 2 → Q (some (.int 0)) M) ∧ ((M 54 5) = 2 → jOk X T0 d q_X8_in [.long ((M 54 6).toInt64), .long 1, .long 60] M (fun v M1 => ∃ r1, v = some (.int r1) ∧ ((r1 = 0 → Q (some (.int 0)) M1) ∧ (¬ r1 = 0 → Q (some (.int 1)) M1)))))) ∧ (¬ a1 = 0 → ((a1 = 1 → ((¬ (M 54 5) = 1 → Q (some (.int 0)) M) ∧ ((M 54 5) = 1 → jOk X T0 d q_X8_in [.long ((M 54 6).toInt64), .long 97, .long 104] M (fun v M2 => ∃ r2, v = some (.int r2) ∧ ((r2 = 0 → Q (some (.int 0)) M2) ∧ (¬ r2 = 0 → jOk X T0 d q_X8_isLabelTold [.ref 54, .int ((M2 54 6) - 97)] M2 (fun v M3 => ∃ r3, v = some (.int r3) ∧ ((¬ r3 = 0 → Q (some (.int 0)) M3) ∧ (r3 = 0 → Q (some (.int 1)) M3))))))))) ∧ (¬ a1 = 1 → ((a1 = 2 → jRun X T0 (d + 1) q_X8_isRight (197, [.ref 54, .int a1], [], M) Q) ∧ (¬ a1 = 2 → ((a1 = 3 → ((¬ (M 54 5) = 2 → Q (some (.int 0)) M) ∧ ((M 54 5) = 2 → (((M 54 6) = 2 → Q (some (.int 1)) M) ∧ (¬ (M 54 6) = 2 → (((M 54 6) = 4 → Q (some (.int 1)) M) ∧ (¬ (M 54 6) = 4 → (((M 54 6) = 8 → Q (some (.int 1)) M) ∧ (¬ (M 54 6) = 8 → ((¬ (M 54 6) = 16 → Q (some (.int 0)) M) ∧ ((M 54 6) = 16 → Q (some (.int 1)) M))))))))))) ∧ (¬ a1 = 3 → ((a1 = 4 → jRun X T0 (d + 1) q_X8_isRight (197, [.ref 54, .int a1], [], M) Q) ∧ (¬ a1 = 4 → ((a1 = 5 → jRun X T0 (d + 1) q_X8_isRight (197, [.ref 54, .int a1], [], M) Q) ∧ (¬ a1 = 5 → ((a1 = 6 → ((¬ (M 54 5) = 2 → Q (some (.int 0)) M) ∧ ((M 54 5) = 2 → jOk X T0 d q_X8_in [.long ((M 54 6).toInt64), .long 4, .long 127] M (fun v M4 => ∃ r4, v = some (.int r4) ∧ ((r4 = 0 → Q (some (.int 0)) M4) ∧ (¬ r4 = 0 → Q (some (.int 1)) M4)))))) ∧ (¬ a1 = 6 → jRun X T0 (d + 1) q_X8_isRight (197, [.ref 54, .int a1], [], M) Q))))))))))))))) : jOk X T0 (d + 1) q_X8_isRight [.ref 54, .int a1] M Q := by
  refine jOk.intro (ml := 2) (ls := [.ref 54, .int a1]) (jTl (by decide)) rfl (Nat.le_of_ble_eq_true rfl) rfl hI ?_
  refine jRun.cut (k := jk_X8_isRight) rfl 2 (c' := (if a1 = 0 then 44 else if a1 = 1 then 152 else if a1 = 2 then 197 else if a1 = 3 then 73 else if a1 = 4 then 197 else if a1 = 5 then 197 else if a1 = 6 then 121 else 197, [.ref 54, .int a1], [], M)) (ob := True ∧ True ∧ True) rfl ⟨trivial, trivial, trivial⟩ ?_
  refine jRun.br (fun g => ?_) (fun g => ?_)
  · have h := h.1 g
    refine jRun.cut (k := jk_X8_isRight) rfl 4 (c' := (if ¬ (M 54 5) = 2 then 71 else 52, [.ref 54, .int a1], [], M)) (ob := True ∧ jKd T0 54 = 8 ∧ True ∧ True ∧ True) rfl ⟨trivial, rfl, trivial, trivial, trivial⟩ ?_
    refine jRun.brn (fun g => ?_) (fun g => ?_)
    · have h := h.1 g
      exact jRun.ret (k := jk_X8_isRight) rfl 2 (v := some (.int 0)) (M1 := M) (ob := True ∧ (0 = 0 ∨ 0 = 1)) rfl ⟨trivial, (Or.inl rfl)⟩ h
    · have h := h.2 g
      refine jRun.call (k := jk_X8_isRight) rfl 6 (f := q_X8_in) (As := [.long ((M 54 6).toInt64), .long 1, .long 60]) (c1 := (64, [.ref 54, .int a1], [], M)) (ob := True ∧ jKd T0 54 = 8 ∧ True ∧ True ∧ True ∧ True) rfl ⟨trivial, rfl, trivial, trivial, trivial, trivial⟩ h (fun v M1 h => ?_)
      obtain ⟨r1, rfl, h⟩ := h
      show jRun X T0 (d + 1) q_X8_isRight (64, [.ref 54, .int a1], [.int r1], M1) Q
      refine jRun.cut (k := jk_X8_isRight) rfl 1 (c' := (if r1 = 0 then 71 else 67, [.ref 54, .int a1], [], M1)) (ob := True ∧ True) rfl ⟨trivial, trivial⟩ ?_
      refine jRun.br (fun g => ?_) (fun g => ?_)
      · have h := h.1 g
        exact jRun.ret (k := jk_X8_isRight) rfl 2 (v := some (.int 0)) (M1 := M1) (ob := True ∧ (0 = 0 ∨ 0 = 1)) rfl ⟨trivial, (Or.inl rfl)⟩ h
      · have h := h.2 g
        exact jRun.ret (k := jk_X8_isRight) rfl 3 (v := some (.int 1)) (M1 := M1) (ob := True ∧ True ∧ (1 = 0 ∨ 1 = 1)) rfl ⟨trivial, trivial, (Or.inr rfl)⟩ h
  · have h := h.2 g
    refine jRun.br (fun g => ?_) (fun g => ?_)
    · have h := h.1 g
      refine jRun.cut (k := jk_X8_isRight) rfl 4 (c' := (if ¬ (M 54 5) = 1 then 195 else 160, [.ref 54, .int a1], [], M)) (ob := True ∧ jKd T0 54 = 8 ∧ True ∧ True ∧ True) rfl ⟨trivial, rfl, trivial, trivial, trivial⟩ ?_
      refine jRun.brn (fun g => ?_) (fun g => ?_)
      · have h := h.1 g
        exact jRun.ret (k := jk_X8_isRight) rfl 2 (v := some (.int 0)) (M1 := M) (ob := True ∧ (0 = 0 ∨ 0 = 1)) rfl ⟨trivial, (Or.inl rfl)⟩ h
      · have h := h.2 g
        refine jRun.call (k := jk_X8_isRight) rfl 6 (f := q_X8_in) (As := [.long ((M 54 6).toInt64), .long 97, .long 104]) (c1 := (174, [.ref 54, .int a1], [], M)) (ob := True ∧ jKd T0 54 = 8 ∧ True ∧ True ∧ True ∧ True) rfl ⟨trivial, rfl, trivial, trivial, trivial, trivial⟩ h (fun v M2 h => ?_)
        obtain ⟨r2, rfl, h⟩ := h
        show jRun X T0 (d + 1) q_X8_isRight (174, [.ref 54, .int a1], [.int r2], M2) Q
        refine jRun.cut (k := jk_X8_isRight) rfl 1 (c' := (if r2 = 0 then 195 else 177, [.ref 54, .int a1], [], M2)) (ob := True ∧ True) rfl ⟨trivial, trivial⟩ ?_
        refine jRun.br (fun g => ?_) (fun g => ?_)
        · have h := h.1 g
          exact jRun.ret (k := jk_X8_isRight) rfl 2 (v := some (.int 0)) (M1 := M2) (ob := True ∧ (0 = 0 ∨ 0 = 1)) rfl ⟨trivial, (Or.inl rfl)⟩ h
        · have h := h.2 g
          refine jRun.call (k := jk_X8_isRight) rfl 6 (f := q_X8_isLabelTold) (As := [.ref 54, .int ((M2 54 6) - 97)]) (c1 := (188, [.ref 54, .int a1], [], M2)) (ob := True ∧ True ∧ jKd T0 54 = 8 ∧ True ∧ True ∧ jKd T0 54 = 8) rfl ⟨trivial, trivial, rfl, trivial, trivial, rfl⟩ h (fun v M3 h => ?_)
          obtain ⟨r3, rfl, h⟩ := h
          show jRun X T0 (d + 1) q_X8_isRight (188, [.ref 54, .int a1], [.int r3], M3) Q
          refine jRun.cut (k := jk_X8_isRight) rfl 1 (c' := (if ¬ r3 = 0 then 195 else 191, [.ref 54, .int a1], [], M3)) (ob := True ∧ True) rfl ⟨trivial, trivial⟩ ?_
          refine jRun.brn (fun g => ?_) (fun g => ?_)
          · have h := h.1 g
            exact jRun.ret (k := jk_X8_isRight) rfl 2 (v := some (.int 0)) (M1 := M3) (ob := True ∧ (0 = 0 ∨ 0 = 1)) rfl ⟨trivial, (Or.inl rfl)⟩ h
          · have h := h.2 g
            exact jRun.ret (k := jk_X8_isRight) rfl 3 (v := some (.int 1)) (M1 := M3) (ob := True ∧ True ∧ (1 = 0 ∨ 1 = 1)) rfl ⟨trivial, trivial, (Or.inr rfl)⟩ h
    · have h := h.2 g
      refine jRun.br (fun g => ?_) (fun g => ?_)
      · have h := h.1 g
        exact h
      · have h := h.2 g
        refine jRun.br (fun g => ?_) (fun g => ?_)
        · have h := h.1 g
          refine jRun.cut (k := jk_X8_isRight) rfl 4 (c' := (if ¬ (M 54 5) = 2 then 119 else 81, [.ref 54, .int a1], [], M)) (ob := True ∧ jKd T0 54 = 8 ∧ True ∧ True ∧ True) rfl ⟨trivial, rfl, trivial, trivial, trivial⟩ ?_
          refine jRun.brn (fun g => ?_) (fun g => ?_)
          · have h := h.1 g
            exact jRun.ret (k := jk_X8_isRight) rfl 2 (v := some (.int 0)) (M1 := M) (ob := True ∧ (0 = 0 ∨ 0 = 1)) rfl ⟨trivial, (Or.inl rfl)⟩ h
          · have h := h.2 g
            refine jRun.cut (k := jk_X8_isRight) rfl 4 (c' := (if (M 54 6) = 2 then 115 else 89, [.ref 54, .int a1], [], M)) (ob := True ∧ jKd T0 54 = 8 ∧ True ∧ True ∧ True) rfl ⟨trivial, rfl, trivial, trivial, trivial⟩ ?_
            refine jRun.br (fun g => ?_) (fun g => ?_)
            · have h := h.1 g
              exact jRun.ret (k := jk_X8_isRight) rfl 3 (v := some (.int 1)) (M1 := M) (ob := True ∧ True ∧ (1 = 0 ∨ 1 = 1)) rfl ⟨trivial, trivial, (Or.inr rfl)⟩ h
            · have h := h.2 g
              refine jRun.cut (k := jk_X8_isRight) rfl 4 (c' := (if (M 54 6) = 4 then 115 else 97, [.ref 54, .int a1], [], M)) (ob := True ∧ jKd T0 54 = 8 ∧ True ∧ True ∧ True) rfl ⟨trivial, rfl, trivial, trivial, trivial⟩ ?_
              refine jRun.br (fun g => ?_) (fun g => ?_)
              · have h := h.1 g
                exact jRun.ret (k := jk_X8_isRight) rfl 3 (v := some (.int 1)) (M1 := M) (ob := True ∧ True ∧ (1 = 0 ∨ 1 = 1)) rfl ⟨trivial, trivial, (Or.inr rfl)⟩ h
              · have h := h.2 g
                refine jRun.cut (k := jk_X8_isRight) rfl 4 (c' := (if (M 54 6) = 8 then 115 else 106, [.ref 54, .int a1], [], M)) (ob := True ∧ jKd T0 54 = 8 ∧ True ∧ True ∧ True) rfl ⟨trivial, rfl, trivial, trivial, trivial⟩ ?_
                refine jRun.br (fun g => ?_) (fun g => ?_)
                · have h := h.1 g
                  exact jRun.ret (k := jk_X8_isRight) rfl 3 (v := some (.int 1)) (M1 := M) (ob := True ∧ True ∧ (1 = 0 ∨ 1 = 1)) rfl ⟨trivial, trivial, (Or.inr rfl)⟩ h
                · have h := h.2 g
                  refine jRun.cut (k := jk_X8_isRight) rfl 4 (c' := (if ¬ (M 54 6) = 16 then 119 else 115, [.ref 54, .int a1], [], M)) (ob := True ∧ jKd T0 54 = 8 ∧ True ∧ True ∧ True) rfl ⟨trivial, rfl, trivial, trivial, trivial⟩ ?_
                  refine jRun.brn (fun g => ?_) (fun g => ?_)
                  · have h := h.1 g
                    exact jRun.ret (k := jk_X8_isRight) rfl 2 (v := some (.int 0)) (M1 := M) (ob := True ∧ (0 = 0 ∨ 0 = 1)) rfl ⟨trivial, (Or.inl rfl)⟩ h
                  · have h := h.2 g
                    exact jRun.ret (k := jk_X8_isRight) rfl 3 (v := some (.int 1)) (M1 := M) (ob := True ∧ True ∧ (1 = 0 ∨ 1 = 1)) rfl ⟨trivial, trivial, (Or.inr rfl)⟩ h
        · have h := h.2 g
          refine jRun.br (fun g => ?_) (fun g => ?_)
          · have h := h.1 g
            exact h
          · have h := h.2 g
            refine jRun.br (fun g => ?_) (fun g => ?_)
            · have h := h.1 g
              exact h
            · have h := h.2 g
              refine jRun.br (fun g => ?_) (fun g => ?_)
              · have h := h.1 g
                refine jRun.cut (k := jk_X8_isRight) rfl 4 (c' := (if ¬ (M 54 5) = 2 then 150 else 129, [.ref 54, .int a1], [], M)) (ob := True ∧ jKd T0 54 = 8 ∧ True ∧ True ∧ True) rfl ⟨trivial, rfl, trivial, trivial, trivial⟩ ?_
                refine jRun.brn (fun g => ?_) (fun g => ?_)
                · have h := h.1 g
                  exact jRun.ret (k := jk_X8_isRight) rfl 2 (v := some (.int 0)) (M1 := M) (ob := True ∧ (0 = 0 ∨ 0 = 1)) rfl ⟨trivial, (Or.inl rfl)⟩ h
                · have h := h.2 g
                  refine jRun.call (k := jk_X8_isRight) rfl 6 (f := q_X8_in) (As := [.long ((M 54 6).toInt64), .long 4, .long 127]) (c1 := (143, [.ref 54, .int a1], [], M)) (ob := True ∧ jKd T0 54 = 8 ∧ True ∧ True ∧ True ∧ True) rfl ⟨trivial, rfl, trivial, trivial, trivial, trivial⟩ h (fun v M4 h => ?_)
                  obtain ⟨r4, rfl, h⟩ := h
                  show jRun X T0 (d + 1) q_X8_isRight (143, [.ref 54, .int a1], [.int r4], M4) Q
                  refine jRun.cut (k := jk_X8_isRight) rfl 1 (c' := (if r4 = 0 then 150 else 146, [.ref 54, .int a1], [], M4)) (ob := True ∧ True) rfl ⟨trivial, trivial⟩ ?_
                  refine jRun.br (fun g => ?_) (fun g => ?_)
                  · have h := h.1 g
                    exact jRun.ret (k := jk_X8_isRight) rfl 2 (v := some (.int 0)) (M1 := M4) (ob := True ∧ (0 = 0 ∨ 0 = 1)) rfl ⟨trivial, (Or.inl rfl)⟩ h
                  · have h := h.2 g
                    exact jRun.ret (k := jk_X8_isRight) rfl 3 (v := some (.int 1)) (M1 := M4) (ob := True ∧ True ∧ (1 = 0 ∨ 1 = 1)) rfl ⟨trivial, trivial, (Or.inr rfl)⟩ h
              · have h := h.2 g
                exact h
theorem v_X8_isRight_197 {X : jX} {d : Nat} (a1 : Int32) (M : jMem) (Q : Option Value → jMem → Prop) (h : ((¬ (M 54 5) = 1 → Q (some (.int 0)) M) ∧ ((M 54 5) = 1 → jOk X T0 d q_X8_in [.long ((M 54 6).toInt64), .long 97, .long 104] M (fun v M1 => ∃ r1, v = some (.int r1) ∧ ((r1 = 0 → Q (some (.int 0)) M1) ∧ (¬ r1 = 0 → Q (some (.int 1)) M1)))))) : jRun X T0 (d + 1) q_X8_isRight (197, [.ref 54, .int a1], [], M) Q := by
  refine jRun.cut (k := jk_X8_isRight) rfl 4 (c' := (if ¬ (M 54 5) = 1 then 226 else 205, [.ref 54, .int a1], [], M)) (ob := True ∧ jKd T0 54 = 8 ∧ True ∧ True ∧ True) rfl ⟨trivial, rfl, trivial, trivial, trivial⟩ ?_
  refine jRun.brn (fun g => ?_) (fun g => ?_)
  · have h := h.1 g
    exact jRun.ret (k := jk_X8_isRight) rfl 2 (v := some (.int 0)) (M1 := M) (ob := True ∧ (0 = 0 ∨ 0 = 1)) rfl ⟨trivial, (Or.inl rfl)⟩ h
  · have h := h.2 g
    refine jRun.call (k := jk_X8_isRight) rfl 6 (f := q_X8_in) (As := [.long ((M 54 6).toInt64), .long 97, .long 104]) (c1 := (219, [.ref 54, .int a1], [], M)) (ob := True ∧ jKd T0 54 = 8 ∧ True ∧ True ∧ True ∧ True) rfl ⟨trivial, rfl, trivial, trivial, trivial, trivial⟩ h (fun v M1 h => ?_)
    obtain ⟨r1, rfl, h⟩ := h
    show jRun X T0 (d + 1) q_X8_isRight (219, [.ref 54, .int a1], [.int r1], M1) Q
    refine jRun.cut (k := jk_X8_isRight) rfl 1 (c' := (if r1 = 0 then 226 else 222, [.ref 54, .int a1], [], M1)) (ob := True ∧ True) rfl ⟨trivial, trivial⟩ ?_
    refine jRun.br (fun g => ?_) (fun g => ?_)
    · have h := h.1 g
      exact jRun.ret (k := jk_X8_isRight) rfl 2 (v := some (.int 0)) (M1 := M1) (ob := True ∧ (0 = 0 ∨ 0 = 1)) rfl ⟨trivial, (Or.inl rfl)⟩ h
    · have h := h.2 g
      exact jRun.ret (k := jk_X8_isRight) rfl 3 (v := some (.int 1)) (M1 := M1) (ob := True ∧ True ∧ (1 = 0 ∨ 1 = 1)) rfl ⟨trivial, trivial, (Or.inr rfl)⟩ h
theorem v_X8_readOne {X : jX} {d : Nat} (hI : jInj X T0) (a1 : Int32) (M : jMem) (Q : Option Value → jMem → Prop) (h : ((¬ (M 54 5) = 1 → jRun X T0 (d + 1) q_X8_readOne (20, [.ref 54, .int a1, .null, .null, .null], [.int (-9)], M) Q) ∧ ((M 54 5) = 1 → jOk X T0 d q_X8_sortBy [.int (M 54 6)] M (fun v M1 => ∃ r1, v = some (.int r1) ∧ jRun X T0 (d + 1) q_X8_readOne (20, [.ref 54, .int a1, .null, .null, .null], [.int r1], M1) Q)))) : jOk X T0 (d + 1) q_X8_readOne [.ref 54, .int a1] M Q := by
  refine jOk.intro (ml := 5) (ls := [.ref 54, .int a1, .null, .null, .null]) (jTl (by decide)) rfl (Nat.le_of_ble_eq_true rfl) rfl hI ?_
  refine jRun.cut (k := jk_X8_readOne) rfl 4 (c' := (if ¬ (M 54 5) = 1 then 18 else 8, [.ref 54, .int a1, .null, .null, .null], [], M)) (ob := True ∧ jKd T0 54 = 8 ∧ True ∧ True ∧ True) rfl ⟨trivial, rfl, trivial, trivial, trivial⟩ ?_
  refine jRun.brn (fun g => ?_) (fun g => ?_)
  · have h := h.1 g
    refine jRun.cut (k := jk_X8_readOne) rfl 1 (c' := (20, [.ref 54, .int a1, .null, .null, .null], [.int (-9)], M)) (ob := True ∧ True) rfl ⟨trivial, trivial⟩ ?_
    exact h
  · have h := h.2 g
    refine jRun.call (k := jk_X8_readOne) rfl 3 (f := q_X8_sortBy) (As := [.int (M 54 6)]) (c1 := (15, [.ref 54, .int a1, .null, .null, .null], [], M)) (ob := True ∧ jKd T0 54 = 8 ∧ True) rfl ⟨trivial, rfl, trivial⟩ h (fun v M1 h => ?_)
    obtain ⟨r1, rfl, h⟩ := h
    show jRun X T0 (d + 1) q_X8_readOne (15, [.ref 54, .int a1, .null, .null, .null], [.int r1], M1) Q
    refine jRun.cut (k := jk_X8_readOne) rfl 1 (c' := (20, [.ref 54, .int a1, .null, .null, .null], [.int r1], M1)) (ob := True ∧ True) rfl ⟨trivial, trivial⟩ ?_
    exact h
theorem v_X8_readOne_20 {X : jX} {d : Nat} (a1 : Int32) (s0 : Int32) (M : jMem) (Q : Option Value → jMem → Prop) (h : ((¬ s0 = 2 → jRun X T0 (d + 1) q_X8_readOne (36, [.ref 54, .int a1, .int s0, .null, .null], [], M) Q) ∧ (s0 = 2 → jOk X T0 d q_X8_tellOf [.ref 54, .int 2] M (fun v M1 => ∃ r1, v = some (.int r1) ∧ ((r1 = 10 → jRun X T0 (d + 1) q_X8_readOne (65, [.ref 54, .int a1, .int s0, .null, .null], [], M1) Q) ∧ (¬ r1 = 10 → jRun X T0 (d + 1) q_X8_readOne (36, [.ref 54, .int a1, .int s0, .null, .null], [], M1) Q)))))) : jRun X T0 (d + 1) q_X8_readOne (20, [.ref 54, .int a1, .null, .null, .null], [.int s0], M) Q := by
  refine jRun.cut (k := jk_X8_readOne) rfl 4 (c' := (if ¬ s0 = 2 then 36 else 26, [.ref 54, .int a1, .int s0, .null, .null], [], M)) (ob := True ∧ True ∧ True ∧ True ∧ True) rfl ⟨trivial, trivial, trivial, trivial, trivial⟩ ?_
  refine jRun.brn (fun g => ?_) (fun g => ?_)
  · have h := h.1 g
    exact h
  · have h := h.2 g
    refine jRun.call (k := jk_X8_readOne) rfl 3 (f := q_X8_tellOf) (As := [.ref 54, .int 2]) (c1 := (31, [.ref 54, .int a1, .int s0, .null, .null], [], M)) (ob := True ∧ True ∧ jKd T0 54 = 8) rfl ⟨trivial, trivial, rfl⟩ h (fun v M1 h => ?_)
    obtain ⟨r1, rfl, h⟩ := h
    show jRun X T0 (d + 1) q_X8_readOne (31, [.ref 54, .int a1, .int s0, .null, .null], [.int r1], M1) Q
    refine jRun.cut (k := jk_X8_readOne) rfl 2 (c' := (if r1 = 10 then 65 else 36, [.ref 54, .int a1, .int s0, .null, .null], [], M1)) (ob := True ∧ True ∧ True) rfl ⟨trivial, trivial, trivial⟩ ?_
    refine jRun.br (fun g => ?_) (fun g => ?_)
    · have h := h.1 g
      exact h
    · have h := h.2 g
      exact h
theorem v_X8_readOne_36 {X : jX} {d : Nat} (a1 : Int32) (a2 : Int32) (M : jMem) (Q : Option Value → jMem → Prop) (h : ((¬ a2 = 4 → jRun X T0 (d + 1) q_X8_readOne (51, [.ref 54, .int a1, .int a2, .null, .null], [], M) Q) ∧ (a2 = 4 → jOk X T0 d q_X8_tellOf [.ref 54, .int 4] M (fun v M1 => ∃ r1, v = some (.int r1) ∧ ((r1 = 6 → jRun X T0 (d + 1) q_X8_readOne (65, [.ref 54, .int a1, .int a2, .null, .null], [], M1) Q) ∧ (¬ r1 = 6 → jRun X T0 (d + 1) q_X8_readOne (51, [.ref 54, .int a1, .int a2, .null, .null], [], M1) Q)))))) : jRun X T0 (d + 1) q_X8_readOne (36, [.ref 54, .int a1, .int a2, .null, .null], [], M) Q := by
  refine jRun.cut (k := jk_X8_readOne) rfl 3 (c' := (if ¬ a2 = 4 then 51 else 41, [.ref 54, .int a1, .int a2, .null, .null], [], M)) (ob := True ∧ True ∧ True ∧ True) rfl ⟨trivial, trivial, trivial, trivial⟩ ?_
  refine jRun.brn (fun g => ?_) (fun g => ?_)
  · have h := h.1 g
    exact h
  · have h := h.2 g
    refine jRun.call (k := jk_X8_readOne) rfl 3 (f := q_X8_tellOf) (As := [.ref 54, .int 4]) (c1 := (46, [.ref 54, .int a1, .int a2, .null, .null], [], M)) (ob := True ∧ True ∧ jKd T0 54 = 8) rfl ⟨trivial, trivial, rfl⟩ h (fun v M1 h => ?_)
    obtain ⟨r1, rfl, h⟩ := h
    show jRun X T0 (d + 1) q_X8_readOne (46, [.ref 54, .int a1, .int a2, .null, .null], [.int r1], M1) Q
    refine jRun.cut (k := jk_X8_readOne) rfl 2 (c' := (if r1 = 6 then 65 else 51, [.ref 54, .int a1, .int a2, .null, .null], [], M1)) (ob := True ∧ True ∧ True) rfl ⟨trivial, trivial, trivial⟩ ?_
    refine jRun.br (fun g => ?_) (fun g => ?_)
    · have h := h.1 g
      exact h
    · have h := h.2 g
      exact h
theorem v_X8_readOne_51 {X : jX} {d : Nat} (a1 : Int32) (a2 : Int32) (M : jMem) (Q : Option Value → jMem → Prop) (h : ((¬ a2 = 5 → jRun X T0 (d + 1) q_X8_readOne (69, [.ref 54, .int a1, .int a2, .null, .null], [], M) Q) ∧ (a2 = 5 → jOk X T0 d q_X8_tellOf [.ref 54, .int 5] M (fun v M1 => ∃ r1, v = some (.int r1) ∧ ((¬ r1 = 3 → jRun X T0 (d + 1) q_X8_readOne (69, [.ref 54, .int a1, .int a2, .null, .null], [], M1) Q) ∧ (r1 = 3 → jRun X T0 (d + 1) q_X8_readOne (65, [.ref 54, .int a1, .int a2, .null, .null], [], M1) Q)))))) : jRun X T0 (d + 1) q_X8_readOne (51, [.ref 54, .int a1, .int a2, .null, .null], [], M) Q := by
  refine jRun.cut (k := jk_X8_readOne) rfl 3 (c' := (if ¬ a2 = 5 then 69 else 56, [.ref 54, .int a1, .int a2, .null, .null], [], M)) (ob := True ∧ True ∧ True ∧ True) rfl ⟨trivial, trivial, trivial, trivial⟩ ?_
  refine jRun.brn (fun g => ?_) (fun g => ?_)
  · have h := h.1 g
    exact h
  · have h := h.2 g
    refine jRun.call (k := jk_X8_readOne) rfl 3 (f := q_X8_tellOf) (As := [.ref 54, .int 5]) (c1 := (61, [.ref 54, .int a1, .int a2, .null, .null], [], M)) (ob := True ∧ True ∧ jKd T0 54 = 8) rfl ⟨trivial, trivial, rfl⟩ h (fun v M1 h => ?_)
    obtain ⟨r1, rfl, h⟩ := h
    show jRun X T0 (d + 1) q_X8_readOne (61, [.ref 54, .int a1, .int a2, .null, .null], [.int r1], M1) Q
    refine jRun.cut (k := jk_X8_readOne) rfl 2 (c' := (if ¬ r1 = 3 then 69 else 65, [.ref 54, .int a1, .int a2, .null, .null], [], M1)) (ob := True ∧ True ∧ True) rfl ⟨trivial, trivial, trivial⟩ ?_
    refine jRun.brn (fun g => ?_) (fun g => ?_)
    · have h := h.1 g
      exact h
    · have h := h.2 g
      exact h
theorem v_X8_readOne_65 {X : jX} {d : Nat} (a1 : Int32) (a2 : Int32) (M : jMem) (Q : Option Value → jMem → Prop) (h : jRun X T0 (d + 1) q_X8_readOne (70, [.ref 54, .int a1, .int a2, .null, .null], [.int 1], M) Q) : jRun X T0 (d + 1) q_X8_readOne (65, [.ref 54, .int a1, .int a2, .null, .null], [], M) Q := by
  refine jRun.cut (k := jk_X8_readOne) rfl 2 (c' := (70, [.ref 54, .int a1, .int a2, .null, .null], [.int 1], M)) (ob := True ∧ True ∧ True) rfl ⟨trivial, trivial, trivial⟩ ?_
  exact h
theorem v_X8_readOne_69 {X : jX} {d : Nat} (a1 : Int32) (a2 : Int32) (M : jMem) (Q : Option Value → jMem → Prop) (h : jRun X T0 (d + 1) q_X8_readOne (70, [.ref 54, .int a1, .int a2, .null, .null], [.int 0], M) Q) : jRun X T0 (d + 1) q_X8_readOne (69, [.ref 54, .int a1, .int a2, .null, .null], [], M) Q := by
  refine jRun.cut (k := jk_X8_readOne) rfl 1 (c' := (70, [.ref 54, .int a1, .int a2, .null, .null], [.int 0], M)) (ob := True ∧ True) rfl ⟨trivial, trivial⟩ ?_
  exact h
theorem v_X8_readOne_70 {X : jX} {d : Nat} (a1 : Int32) (a2 : Int32) (s0 : Int32) (M : jMem) (Q : Option Value → jMem → Prop) (h : ((a2 = (-9) → Q (some (.int 0)) M) ∧ (¬ a2 = (-9) → ((¬ s0 = 0 → Q (some (.int 0)) M) ∧ (s0 = 0 → ((¬ a2 = 6 → jRun X T0 (d + 1) q_X8_readOne (91, [.ref 54, .int a1, .int a2, .int s0, .null], [], M) Q) ∧ (a2 = 6 → ((a1 = 0 → Q (some (.int 0)) M) ∧ (¬ a1 = 0 → jRun X T0 (d + 1) q_X8_readOne (91, [.ref 54, .int a1, .int a2, .int s0, .null], [], M) Q))))))))) : jRun X T0 (d + 1) q_X8_readOne (70, [.ref 54, .int a1, .int a2, .null, .null], [.int s0], M) Q := by
  refine jRun.cut (k := jk_X8_readOne) rfl 4 (c' := (if a2 = (-9) then 106 else 77, [.ref 54, .int a1, .int a2, .int s0, .null], [], M)) (ob := True ∧ True ∧ True ∧ True ∧ True) rfl ⟨trivial, trivial, trivial, trivial, trivial⟩ ?_
  refine jRun.br (fun g => ?_) (fun g => ?_)
  · have h := h.1 g
    exact jRun.ret (k := jk_X8_readOne) rfl 2 (v := some (.int 0)) (M1 := M) (ob := True ∧ (0 = 0 ∨ 0 = 1)) rfl ⟨trivial, (Or.inl rfl)⟩ h
  · have h := h.2 g
    refine jRun.cut (k := jk_X8_readOne) rfl 2 (c' := (if ¬ s0 = 0 then 106 else 81, [.ref 54, .int a1, .int a2, .int s0, .null], [], M)) (ob := True ∧ True ∧ True) rfl ⟨trivial, trivial, trivial⟩ ?_
    refine jRun.brn (fun g => ?_) (fun g => ?_)
    · have h := h.1 g
      exact jRun.ret (k := jk_X8_readOne) rfl 2 (v := some (.int 0)) (M1 := M) (ob := True ∧ (0 = 0 ∨ 0 = 1)) rfl ⟨trivial, (Or.inl rfl)⟩ h
    · have h := h.2 g
      refine jRun.cut (k := jk_X8_readOne) rfl 3 (c' := (if ¬ a2 = 6 then 91 else 87, [.ref 54, .int a1, .int a2, .int s0, .null], [], M)) (ob := True ∧ True ∧ True ∧ True) rfl ⟨trivial, trivial, trivial, trivial⟩ ?_
      refine jRun.brn (fun g => ?_) (fun g => ?_)
      · have h := h.1 g
        exact h
      · have h := h.2 g
        refine jRun.cut (k := jk_X8_readOne) rfl 2 (c' := (if a1 = 0 then 106 else 91, [.ref 54, .int a1, .int a2, .int s0, .null], [], M)) (ob := True ∧ True ∧ True) rfl ⟨trivial, trivial, trivial⟩ ?_
        refine jRun.br (fun g => ?_) (fun g => ?_)
        · have h := h.1 g
          exact jRun.ret (k := jk_X8_readOne) rfl 2 (v := some (.int 0)) (M1 := M) (ob := True ∧ (0 = 0 ∨ 0 = 1)) rfl ⟨trivial, (Or.inl rfl)⟩ h
        · have h := h.2 g
          exact h
theorem v_X8_readOne_91 {X : jX} {d : Nat} (a1 : Int32) (a2 : Int32) (a3 : Int32) (M : jMem) (Q : Option Value → jMem → Prop) (h : ((a2 = 6 → jRun X T0 (d + 1) q_X8_readOne (108, [.ref 54, .int a1, .int a2, .int a3, .null], [], M) Q) ∧ (¬ a2 = 6 → ((¬ (M 54 27) = 32 → jRun X T0 (d + 1) q_X8_readOne (108, [.ref 54, .int a1, .int a2, .int a3, .null], [], M) Q) ∧ ((M 54 27) = 32 → Q (some (.int 0)) M))))) : jRun X T0 (d + 1) q_X8_readOne (91, [.ref 54, .int a1, .int a2, .int a3, .null], [], M) Q := by
  refine jRun.cut (k := jk_X8_readOne) rfl 3 (c' := (if a2 = 6 then 108 else 97, [.ref 54, .int a1, .int a2, .int a3, .null], [], M)) (ob := True ∧ True ∧ True ∧ True) rfl ⟨trivial, trivial, trivial, trivial⟩ ?_
  refine jRun.br (fun g => ?_) (fun g => ?_)
  · have h := h.1 g
    exact h
  · have h := h.2 g
    refine jRun.cut (k := jk_X8_readOne) rfl 4 (c' := (if ¬ (M 54 27) = 32 then 108 else 106, [.ref 54, .int a1, .int a2, .int a3, .null], [], M)) (ob := True ∧ jKd T0 54 = 8 ∧ True ∧ True ∧ True) rfl ⟨trivial, rfl, trivial, trivial, trivial⟩ ?_
    refine jRun.brn (fun g => ?_) (fun g => ?_)
    · have h := h.1 g
      exact h
    · have h := h.2 g
      exact jRun.ret (k := jk_X8_readOne) rfl 2 (v := some (.int 0)) (M1 := M) (ob := True ∧ (0 = 0 ∨ 0 = 1)) rfl ⟨trivial, (Or.inl rfl)⟩ h
theorem v_X8_readOne_108 {X : jX} {d : Nat} (a1 : Int32) (a2 : Int32) (a3 : Int32) (M : jMem) (Q : Option Value → jMem → Prop) (h : jOk X T0 d q_X8_next [.ref 54] M (fun v M1 => v = none ∧ ((a2 = 5 → jRun X T0 (d + 1) q_X8_readOne (158, [.ref 54, .int a1, .int a2, .int a3, .int 0], [], M1) Q) ∧ (¬ a2 = 5 → jOk X T0 d q_X8_isRight [.ref 54, .int a2] M1 (fun v M2 => ∃ r2, v = some (.int r2) ∧ ((¬ r2 = 0 → ((¬ (M2 54 5) = 1 → jRun X T0 (d + 1) q_X8_readOne (152, [.ref 54, .int a1, .int a2, .int a3, .int 0], [.int (M2 54 6)], M2) Q) ∧ ((M2 54 5) = 1 → jRun X T0 (d + 1) q_X8_readOne (152, [.ref 54, .int a1, .int a2, .int a3, .int 0], [.int ((M2 54 6) - 97)], M2) Q))) ∧ (r2 = 0 → Q (some (.int 0)) M2))))))) : jRun X T0 (d + 1) q_X8_readOne (108, [.ref 54, .int a1, .int a2, .int a3, .null], [], M) Q := by
  refine jRun.call (k := jk_X8_readOne) rfl 4 (f := q_X8_next) (As := [.ref 54]) (c1 := (115, [.ref 54, .int a1, .int a2, .int a3, .int 0], [], M)) (ob := True ∧ True ∧ True ∧ jKd T0 54 = 8) rfl ⟨trivial, trivial, trivial, rfl⟩ h (fun v M1 h => ?_)
  obtain ⟨rfl, h⟩ := h
  show jRun X T0 (d + 1) q_X8_readOne (115, [.ref 54, .int a1, .int a2, .int a3, .int 0], [], M1) Q
  refine jRun.cut (k := jk_X8_readOne) rfl 3 (c' := (if a2 = 5 then 158 else 120, [.ref 54, .int a1, .int a2, .int a3, .int 0], [], M1)) (ob := True ∧ True ∧ True ∧ True) rfl ⟨trivial, trivial, trivial, trivial⟩ ?_
  refine jRun.br (fun g => ?_) (fun g => ?_)
  · have h := h.1 g
    exact h
  · have h := h.2 g
    refine jRun.call (k := jk_X8_readOne) rfl 3 (f := q_X8_isRight) (As := [.ref 54, .int a2]) (c1 := (125, [.ref 54, .int a1, .int a2, .int a3, .int 0], [], M1)) (ob := True ∧ True ∧ jKd T0 54 = 8) rfl ⟨trivial, trivial, rfl⟩ h (fun v M2 h => ?_)
    obtain ⟨r2, rfl, h⟩ := h
    show jRun X T0 (d + 1) q_X8_readOne (125, [.ref 54, .int a1, .int a2, .int a3, .int 0], [.int r2], M2) Q
    refine jRun.cut (k := jk_X8_readOne) rfl 1 (c' := (if ¬ r2 = 0 then 130 else 128, [.ref 54, .int a1, .int a2, .int a3, .int 0], [], M2)) (ob := True ∧ True) rfl ⟨trivial, trivial⟩ ?_
    refine jRun.brn (fun g => ?_) (fun g => ?_)
    · have h := h.1 g
      refine jRun.cut (k := jk_X8_readOne) rfl 4 (c' := (if ¬ (M2 54 5) = 1 then 148 else 138, [.ref 54, .int a1, .int a2, .int a3, .int 0], [], M2)) (ob := True ∧ jKd T0 54 = 8 ∧ True ∧ True ∧ True) rfl ⟨trivial, rfl, trivial, trivial, trivial⟩ ?_
      refine jRun.brn (fun g => ?_) (fun g => ?_)
      · have h := h.1 g
        refine jRun.cut (k := jk_X8_readOne) rfl 2 (c' := (152, [.ref 54, .int a1, .int a2, .int a3, .int 0], [.int (M2 54 6)], M2)) (ob := True ∧ jKd T0 54 = 8 ∧ True) rfl ⟨trivial, rfl, trivial⟩ ?_
        exact h
      · have h := h.2 g
        refine jRun.cut (k := jk_X8_readOne) rfl 5 (c' := (152, [.ref 54, .int a1, .int a2, .int a3, .int 0], [.int ((M2 54 6) - 97)], M2)) (ob := True ∧ jKd T0 54 = 8 ∧ True ∧ True ∧ True ∧ True) rfl ⟨trivial, rfl, trivial, trivial, trivial, trivial⟩ ?_
        exact h
    · have h := h.2 g
      exact jRun.ret (k := jk_X8_readOne) rfl 2 (v := some (.int 0)) (M1 := M2) (ob := True ∧ (0 = 0 ∨ 0 = 1)) rfl ⟨trivial, (Or.inl rfl)⟩ h
theorem v_X8_readOne_152 {X : jX} {d : Nat} (a1 : Int32) (a2 : Int32) (a3 : Int32) (a4 : Int32) (s0 : Int32) (M : jMem) (Q : Option Value → jMem → Prop) (h : jOk X T0 d q_X8_next [.ref 54] M (fun v M1 => v = none ∧ jRun X T0 (d + 1) q_X8_readOne (158, [.ref 54, .int a1, .int a2, .int a3, .int s0], [], M1) Q)) : jRun X T0 (d + 1) q_X8_readOne (152, [.ref 54, .int a1, .int a2, .int a3, .int a4], [.int s0], M) Q := by
  refine jRun.call (k := jk_X8_readOne) rfl 3 (f := q_X8_next) (As := [.ref 54]) (c1 := (158, [.ref 54, .int a1, .int a2, .int a3, .int s0], [], M)) (ob := True ∧ True ∧ jKd T0 54 = 8) rfl ⟨trivial, trivial, rfl⟩ h (fun v M1 h => ?_)
  obtain ⟨rfl, h⟩ := h
  show jRun X T0 (d + 1) q_X8_readOne (158, [.ref 54, .int a1, .int a2, .int a3, .int s0], [], M1) Q
  exact h
theorem v_X8_readOne_158 {X : jX} {d : Nat} (a1 : Int32) (a2 : Int32) (a3 : Int32) (a4 : Int32) (M : jMem) (Q : Option Value → jMem → Prop) (h : (((M 54 5) = 3 → ((¬ a2 = 6 → vp_in (M 54 27) 32 ∧ (∀ M1, M1 = jP M 67 ((M 54 27).toNatClampNeg) a2 → vp_in (M1 54 27) 32 ∧ (∀ M2, M2 = jP M1 68 ((M1 54 27).toNatClampNeg) a4 → (∀ M3, M3 = jP M2 54 27 ((M2 54 27) + 1) → jRun X T0 (d + 1) q_X8_readOne (214, [.ref 54, .int a1, .int a2, .int a3, .int a4], [], M3) Q)))) ∧ (a2 = 6 → (∀ M4, M4 = jP M 54 28 a4 → jRun X T0 (d + 1) q_X8_readOne (214, [.ref 54, .int a1, .int a2, .int a3, .int a4], [], M4) Q)))) ∧ (¬ (M 54 5) = 3 → Q (some (.int 0)) M))) : jRun X T0 (d + 1) q_X8_readOne (158, [.ref 54, .int a1, .int a2, .int a3, .int a4], [], M) Q := by
  refine jRun.cut (k := jk_X8_readOne) rfl 4 (c' := (if (M 54 5) = 3 then 168 else 166, [.ref 54, .int a1, .int a2, .int a3, .int a4], [], M)) (ob := True ∧ jKd T0 54 = 8 ∧ True ∧ True ∧ True) rfl ⟨trivial, rfl, trivial, trivial, trivial⟩ ?_
  refine jRun.br (fun g => ?_) (fun g => ?_)
  · have h := h.1 g
    refine jRun.cut (k := jk_X8_readOne) rfl 3 (c' := (if ¬ a2 = 6 then 183 else 174, [.ref 54, .int a1, .int a2, .int a3, .int a4], [], M)) (ob := True ∧ True ∧ True ∧ True) rfl ⟨trivial, trivial, trivial, trivial⟩ ?_
    refine jRun.brn (fun g => ?_) (fun g => ?_)
    · have h := h.1 g
      obtain ⟨o1, h⟩ := h
      refine jRun.cut (k := jk_X8_readOne) rfl 6 (c' := (193, [.ref 54, .int a1, .int a2, .int a3, .int a4], [], (jP M 67 ((M 54 27).toNatClampNeg) a2))) (ob := True ∧ jKd T0 54 = 8 ∧ True ∧ jKd T0 54 = 8 ∧ True ∧ (jKd T0 67 = 9 ∧ vp_in (M 54 27) 32) ∧ True) rfl ⟨trivial, rfl, trivial, rfl, trivial, ⟨rfl, o1⟩, trivial⟩ ?_
      refine jRun.nm (fun M1 eM1 => ?_)
      have h := h M1 eM1
      obtain ⟨o2, h⟩ := h
      refine jRun.cut (k := jk_X8_readOne) rfl 6 (c' := (204, [.ref 54, .int a1, .int a2, .int a3, .int a4], [], (jP M1 68 ((M1 54 27).toNatClampNeg) a4))) (ob := True ∧ jKd T0 54 = 8 ∧ True ∧ jKd T0 54 = 8 ∧ True ∧ (jKd T0 68 = 9 ∧ vp_in (M1 54 27) 32) ∧ True) rfl ⟨trivial, rfl, trivial, rfl, trivial, ⟨rfl, o2⟩, trivial⟩ ?_
      refine jRun.nm (fun M2 eM2 => ?_)
      have h := h M2 eM2
      refine jRun.cut (k := jk_X8_readOne) rfl 6 (c' := (214, [.ref 54, .int a1, .int a2, .int a3, .int a4], [], (jP M2 54 27 ((M2 54 27) + 1)))) (ob := True ∧ True ∧ jKd T0 54 = 8 ∧ True ∧ True ∧ jKd T0 54 = 8 ∧ True) rfl ⟨trivial, trivial, rfl, trivial, trivial, rfl, trivial⟩ ?_
      refine jRun.nm (fun M3 eM3 => ?_)
      have h := h M3 eM3
      exact h
    · have h := h.2 g
      refine jRun.cut (k := jk_X8_readOne) rfl 3 (c' := (180, [.ref 54, .int a1, .int a2, .int a3, .int a4], [], (jP M 54 28 a4))) (ob := True ∧ True ∧ jKd T0 54 = 8 ∧ True) rfl ⟨trivial, trivial, rfl, trivial⟩ ?_
      refine jRun.nm (fun M4 eM4 => ?_)
      have h := h M4 eM4
      refine jRun.cut (k := jk_X8_readOne) rfl 1 (c' := (214, [.ref 54, .int a1, .int a2, .int a3, .int a4], [], M4)) (ob := True ∧ True) rfl ⟨trivial, trivial⟩ ?_
      exact h
  · have h := h.2 g
    exact jRun.ret (k := jk_X8_readOne) rfl 2 (v := some (.int 0)) (M1 := M) (ob := True ∧ (0 = 0 ∨ 0 = 1)) rfl ⟨trivial, (Or.inl rfl)⟩ h
theorem v_X8_readOne_214 {X : jX} {d : Nat} (a1 : Int32) (a2 : Int32) (a3 : Int32) (a4 : Int32) (M : jMem) (Q : Option Value → jMem → Prop) (h : jOk X T0 d q_X8_next [.ref 54] M (fun v M1 => v = none ∧ Q (some (.int 1)) M1)) : jRun X T0 (d + 1) q_X8_readOne (214, [.ref 54, .int a1, .int a2, .int a3, .int a4], [], M) Q := by
  refine jRun.call (k := jk_X8_readOne) rfl 2 (f := q_X8_next) (As := [.ref 54]) (c1 := (218, [.ref 54, .int a1, .int a2, .int a3, .int a4], [], M)) (ob := True ∧ jKd T0 54 = 8) rfl ⟨trivial, rfl⟩ h (fun v M1 h => ?_)
  obtain ⟨rfl, h⟩ := h
  show jRun X T0 (d + 1) q_X8_readOne (218, [.ref 54, .int a1, .int a2, .int a3, .int a4], [], M1) Q
  exact jRun.ret (k := jk_X8_readOne) rfl 2 (v := some (.int 1)) (M1 := M1) (ob := True ∧ (1 = 0 ∨ 1 = 1)) rfl ⟨trivial, (Or.inr rfl)⟩ h
theorem v_X8_areLabelsThere {X : jX} {d : Nat} (hI : jInj X T0)  (M : jMem) (Q : Option Value → jMem → Prop) (h : jRun X T0 (d + 1) q_X8_areLabelsThere (2, [.ref 54, .int 0], [], M) Q) : jOk X T0 (d + 1) q_X8_areLabelsThere [.ref 54] M Q := by
  refine jOk.intro (ml := 2) (ls := [.ref 54, .null]) (jTl (by decide)) rfl (Nat.le_of_ble_eq_true rfl) rfl hI ?_
  refine jRun.cut (k := jk_X8_areLabelsThere) rfl 2 (c' := (2, [.ref 54, .int 0], [], M)) (ob := True ∧ True ∧ True) rfl ⟨trivial, trivial, trivial⟩ ?_
  exact h
theorem v_X8_areLabelsThere_2 {X : jX} {d : Nat} (a1 : Int32) (M : jMem) (Q : Option Value → jMem → Prop) (h : (((M 54 27) ≤ a1 → Q (some (.int 1)) M) ∧ (¬ (M 54 27) ≤ a1 → vp_in a1 32 ∧ (((M 67 a1.toNatClampNeg) = 2 → jOk X T0 d q_X8_isLabelTold [.ref 54, .int (M 68 a1.toNatClampNeg)] M (fun v M1 => ∃ r1, v = some (.int r1) ∧ ((¬ r1 = 0 → jRun X T0 (d + 1) q_X8_areLabelsThere (2, [.ref 54, .int (a1 + 1)], [], M1) Q) ∧ (r1 = 0 → Q (some (.int 0)) M1)))) ∧ (¬ (M 67 a1.toNatClampNeg) = 2 → ((¬ (M 67 a1.toNatClampNeg) = 4 → jRun X T0 (d + 1) q_X8_areLabelsThere (2, [.ref 54, .int (a1 + 1)], [], M) Q) ∧ ((M 67 a1.toNatClampNeg) = 4 → jOk X T0 d q_X8_isLabelTold [.ref 54, .int (M 68 a1.toNatClampNeg)] M (fun v M2 => ∃ r2, v = some (.int r2) ∧ ((¬ r2 = 0 → jRun X T0 (d + 1) q_X8_areLabelsThere (2, [.ref 54, .int (a1 + 1)], [], M2) Q) ∧ (r2 = 0 → Q (some (.int 0)) M2)))))))))) : jRun X T0 (d + 1) q_X8_areLabelsThere (2, [.ref 54, .int a1], [], M) Q := by
  refine jRun.cut (k := jk_X8_areLabelsThere) rfl 4 (c' := (if (M 54 27) ≤ a1 then 51 else 10, [.ref 54, .int a1], [], M)) (ob := True ∧ True ∧ jKd T0 54 = 8 ∧ True ∧ True) rfl ⟨trivial, trivial, rfl, trivial, trivial⟩ ?_
  refine jRun.br (fun g => ?_) (fun g => ?_)
  · have h := h.1 g
    exact jRun.ret (k := jk_X8_areLabelsThere) rfl 2 (v := some (.int 1)) (M1 := M) (ob := True ∧ (1 = 0 ∨ 1 = 1)) rfl ⟨trivial, (Or.inr rfl)⟩ h
  · have h := h.2 g
    obtain ⟨o1, h⟩ := h
    refine jRun.cut (k := jk_X8_areLabelsThere) rfl 6 (c' := (if (M 67 a1.toNatClampNeg) = 2 then 30 else 20, [.ref 54, .int a1], [], M)) (ob := True ∧ jKd T0 54 = 8 ∧ True ∧ (jKd T0 67 = 9 ∧ vp_in a1 32) ∧ True ∧ True ∧ True) rfl ⟨trivial, rfl, trivial, ⟨rfl, o1⟩, trivial, trivial, trivial⟩ ?_
    refine jRun.br (fun g => ?_) (fun g => ?_)
    · have h := h.1 g
      refine jRun.call (k := jk_X8_areLabelsThere) rfl 6 (f := q_X8_isLabelTold) (As := [.ref 54, .int (M 68 a1.toNatClampNeg)]) (c1 := (40, [.ref 54, .int a1], [], M)) (ob := True ∧ True ∧ jKd T0 54 = 8 ∧ True ∧ (jKd T0 68 = 9 ∧ vp_in a1 32) ∧ jKd T0 54 = 8) rfl ⟨trivial, trivial, rfl, trivial, ⟨rfl, o1⟩, rfl⟩ h (fun v M1 h => ?_)
      obtain ⟨r1, rfl, h⟩ := h
      show jRun X T0 (d + 1) q_X8_areLabelsThere (40, [.ref 54, .int a1], [.int r1], M1) Q
      refine jRun.cut (k := jk_X8_areLabelsThere) rfl 1 (c' := (if ¬ r1 = 0 then 45 else 43, [.ref 54, .int a1], [], M1)) (ob := True ∧ True) rfl ⟨trivial, trivial⟩ ?_
      refine jRun.brn (fun g => ?_) (fun g => ?_)
      · have h := h.1 g
        refine jRun.cut (k := jk_X8_areLabelsThere) rfl 2 (c' := (2, [.ref 54, .int (a1 + 1)], [], M1)) (ob := True ∧ True ∧ True) rfl ⟨trivial, trivial, trivial⟩ ?_
        exact h
      · have h := h.2 g
        exact jRun.ret (k := jk_X8_areLabelsThere) rfl 2 (v := some (.int 0)) (M1 := M1) (ob := True ∧ (0 = 0 ∨ 0 = 1)) rfl ⟨trivial, (Or.inl rfl)⟩ h
    · have h := h.2 g
      refine jRun.cut (k := jk_X8_areLabelsThere) rfl 6 (c' := (if ¬ (M 67 a1.toNatClampNeg) = 4 then 45 else 30, [.ref 54, .int a1], [], M)) (ob := True ∧ jKd T0 54 = 8 ∧ True ∧ (jKd T0 67 = 9 ∧ vp_in a1 32) ∧ True ∧ True ∧ True) rfl ⟨trivial, rfl, trivial, ⟨rfl, o1⟩, trivial, trivial, trivial⟩ ?_
      refine jRun.brn (fun g => ?_) (fun g => ?_)
      · have h := h.1 g
        refine jRun.cut (k := jk_X8_areLabelsThere) rfl 2 (c' := (2, [.ref 54, .int (a1 + 1)], [], M)) (ob := True ∧ True ∧ True) rfl ⟨trivial, trivial, trivial⟩ ?_
        exact h
      · have h := h.2 g
        refine jRun.call (k := jk_X8_areLabelsThere) rfl 6 (f := q_X8_isLabelTold) (As := [.ref 54, .int (M 68 a1.toNatClampNeg)]) (c1 := (40, [.ref 54, .int a1], [], M)) (ob := True ∧ True ∧ jKd T0 54 = 8 ∧ True ∧ (jKd T0 68 = 9 ∧ vp_in a1 32) ∧ jKd T0 54 = 8) rfl ⟨trivial, trivial, rfl, trivial, ⟨rfl, o1⟩, rfl⟩ h (fun v M2 h => ?_)
        obtain ⟨r2, rfl, h⟩ := h
        show jRun X T0 (d + 1) q_X8_areLabelsThere (40, [.ref 54, .int a1], [.int r2], M2) Q
        refine jRun.cut (k := jk_X8_areLabelsThere) rfl 1 (c' := (if ¬ r2 = 0 then 45 else 43, [.ref 54, .int a1], [], M2)) (ob := True ∧ True) rfl ⟨trivial, trivial⟩ ?_
        refine jRun.brn (fun g => ?_) (fun g => ?_)
        · have h := h.1 g
          refine jRun.cut (k := jk_X8_areLabelsThere) rfl 2 (c' := (2, [.ref 54, .int (a1 + 1)], [], M2)) (ob := True ∧ True ∧ True) rfl ⟨trivial, trivial, trivial⟩ ?_
          exact h
        · have h := h.2 g
          exact jRun.ret (k := jk_X8_areLabelsThere) rfl 2 (v := some (.int 0)) (M1 := M2) (ob := True ∧ (0 = 0 ∨ 0 = 1)) rfl ⟨trivial, (Or.inl rfl)⟩ h
theorem v_X8_source {X : jX} {d : Nat} (hI : jInj X T0)  (M : jMem) (Q : Option Value → jMem → Prop) (h : (∀ M1, M1 = jP M 54 0 0 → (∀ M2, M2 = jP M1 54 3 0 → (∀ M3, M3 = jP M2 54 27 0 → (∀ M4, M4 = jP M3 54 28 20 → jOk X T0 d q_X8_next [.ref 54] M4 (fun v M5 => v = none ∧ jRun X T0 (d + 1) q_X8_source (27, [.ref 54, .int 1], [], M5) Q)))))) : jOk X T0 (d + 1) q_X8_source [.ref 54] M Q := by
  refine jOk.intro (ml := 2) (ls := [.ref 54, .null]) (jTl (by decide)) rfl (Nat.le_of_ble_eq_true rfl) rfl hI ?_
  refine jRun.cut (k := jk_X8_source) rfl 3 (c' := (5, [.ref 54, .null], [], (jP M 54 0 0))) (ob := True ∧ True ∧ jKd T0 54 = 8 ∧ True) rfl ⟨trivial, trivial, rfl, trivial⟩ ?_
  refine jRun.nm (fun M1 eM1 => ?_)
  have h := h M1 eM1
  refine jRun.cut (k := jk_X8_source) rfl 3 (c' := (10, [.ref 54, .null], [], (jP M1 54 3 0))) (ob := True ∧ True ∧ jKd T0 54 = 8 ∧ True) rfl ⟨trivial, trivial, rfl, trivial⟩ ?_
  refine jRun.nm (fun M2 eM2 => ?_)
  have h := h M2 eM2
  refine jRun.cut (k := jk_X8_source) rfl 3 (c' := (15, [.ref 54, .null], [], (jP M2 54 27 0))) (ob := True ∧ True ∧ jKd T0 54 = 8 ∧ True) rfl ⟨trivial, trivial, rfl, trivial⟩ ?_
  refine jRun.nm (fun M3 eM3 => ?_)
  have h := h M3 eM3
  refine jRun.cut (k := jk_X8_source) rfl 3 (c' := (21, [.ref 54, .null], [], (jP M3 54 28 20))) (ob := True ∧ True ∧ jKd T0 54 = 8 ∧ True) rfl ⟨trivial, trivial, rfl, trivial⟩ ?_
  refine jRun.nm (fun M4 eM4 => ?_)
  have h := h M4 eM4
  refine jRun.call (k := jk_X8_source) rfl 4 (f := q_X8_next) (As := [.ref 54]) (c1 := (27, [.ref 54, .int 1], [], M4)) (ob := True ∧ True ∧ True ∧ jKd T0 54 = 8) rfl ⟨trivial, trivial, trivial, rfl⟩ h (fun v M5 h => ?_)
  obtain ⟨rfl, h⟩ := h
  show jRun X T0 (d + 1) q_X8_source (27, [.ref 54, .int 1], [], M5) Q
  exact h
theorem v_X8_source_27 {X : jX} {d : Nat} (a1 : Int32) (M : jMem) (Q : Option Value → jMem → Prop) (h : (((M 54 5) = 0 → jOk X T0 d q_X8_areLabelsThere [.ref 54] M (fun v M1 => ∃ r1, v = some (.int r1) ∧ ((¬ r1 = 0 → (∀ M2, M2 = jP M1 54 2 0 → jOk X T0 d q_X8_lay [.ref 54] M2 (fun v M3 => v = none ∧ Q (some (.int (M3 54 7))) M3))) ∧ (r1 = 0 → Q (some (.int ((-10) - (M1 54 2)))) M1)))) ∧ (¬ (M 54 5) = 0 → jOk X T0 d q_X8_readOne [.ref 54, .int a1] M (fun v M4 => ∃ r3, v = some (.int r3) ∧ ((¬ r3 = 0 → jRun X T0 (d + 1) q_X8_source (27, [.ref 54, .int 0], [], M4) Q) ∧ (r3 = 0 → Q (some (.int ((-10) - (M4 54 4)))) M4)))))) : jRun X T0 (d + 1) q_X8_source (27, [.ref 54, .int a1], [], M) Q := by
  refine jRun.cut (k := jk_X8_source) rfl 3 (c' := (if (M 54 5) = 0 then 55 else 34, [.ref 54, .int a1], [], M)) (ob := True ∧ jKd T0 54 = 8 ∧ True ∧ True) rfl ⟨trivial, rfl, trivial, trivial⟩ ?_
  refine jRun.br (fun g => ?_) (fun g => ?_)
  · have h := h.1 g
    refine jRun.call (k := jk_X8_source) rfl 2 (f := q_X8_areLabelsThere) (As := [.ref 54]) (c1 := (59, [.ref 54, .int a1], [], M)) (ob := True ∧ jKd T0 54 = 8) rfl ⟨trivial, rfl⟩ h (fun v M1 h => ?_)
    obtain ⟨r1, rfl, h⟩ := h
    show jRun X T0 (d + 1) q_X8_source (59, [.ref 54, .int a1], [.int r1], M1) Q
    refine jRun.cut (k := jk_X8_source) rfl 1 (c' := (if ¬ r1 = 0 then 70 else 62, [.ref 54, .int a1], [], M1)) (ob := True ∧ True) rfl ⟨trivial, trivial⟩ ?_
    refine jRun.brn (fun g => ?_) (fun g => ?_)
    · have h := h.1 g
      refine jRun.cut (k := jk_X8_source) rfl 3 (c' := (75, [.ref 54, .int a1], [], (jP M1 54 2 0))) (ob := True ∧ True ∧ jKd T0 54 = 8 ∧ True) rfl ⟨trivial, trivial, rfl, trivial⟩ ?_
      refine jRun.nm (fun M2 eM2 => ?_)
      have h := h M2 eM2
      refine jRun.call (k := jk_X8_source) rfl 2 (f := q_X8_lay) (As := [.ref 54]) (c1 := (79, [.ref 54, .int a1], [], M2)) (ob := True ∧ jKd T0 54 = 8) rfl ⟨trivial, rfl⟩ h (fun v M3 h => ?_)
      obtain ⟨rfl, h⟩ := h
      show jRun X T0 (d + 1) q_X8_source (79, [.ref 54, .int a1], [], M3) Q
      exact jRun.ret (k := jk_X8_source) rfl 3 (v := some (.int (M3 54 7))) (M1 := M3) (ob := True ∧ jKd T0 54 = 8 ∧ True) rfl ⟨trivial, rfl, trivial⟩ h
    · have h := h.2 g
      exact jRun.ret (k := jk_X8_source) rfl 5 (v := some (.int ((-10) - (M1 54 2)))) (M1 := M1) (ob := True ∧ True ∧ jKd T0 54 = 8 ∧ True ∧ True) rfl ⟨trivial, trivial, rfl, trivial, trivial⟩ h
  · have h := h.2 g
    refine jRun.call (k := jk_X8_source) rfl 3 (f := q_X8_readOne) (As := [.ref 54, .int a1]) (c1 := (39, [.ref 54, .int a1], [], M)) (ob := True ∧ True ∧ jKd T0 54 = 8) rfl ⟨trivial, trivial, rfl⟩ h (fun v M4 h => ?_)
    obtain ⟨r3, rfl, h⟩ := h
    show jRun X T0 (d + 1) q_X8_source (39, [.ref 54, .int a1], [.int r3], M4) Q
    refine jRun.cut (k := jk_X8_source) rfl 1 (c' := (if ¬ r3 = 0 then 50 else 42, [.ref 54, .int a1], [], M4)) (ob := True ∧ True) rfl ⟨trivial, trivial⟩ ?_
    refine jRun.brn (fun g => ?_) (fun g => ?_)
    · have h := h.1 g
      refine jRun.cut (k := jk_X8_source) rfl 3 (c' := (27, [.ref 54, .int 0], [], M4)) (ob := True ∧ True ∧ True ∧ True) rfl ⟨trivial, trivial, trivial, trivial⟩ ?_
      exact h
    · have h := h.2 g
      exact jRun.ret (k := jk_X8_source) rfl 5 (v := some (.int ((-10) - (M4 54 4)))) (M1 := M4) (ob := True ∧ True ∧ jKd T0 54 = 8 ∧ True ∧ True) rfl ⟨trivial, trivial, rfl, trivial, trivial⟩ h
theorem v_X8_lay {X : jX} {d : Nat} (hI : jInj X T0)  (M : jMem) (Q : Option Value → jMem → Prop) (h : (∀ M1, M1 = jP M 54 7 (M 54 27) → (∀ M2, M2 = jP M1 54 8 (M1 54 28) → (∀ M3, M3 = jP M2 54 12 0 → (∀ M4, M4 = jP M3 54 14 0 → (∀ M5, M5 = jP M4 54 16 0 → (∀ M6, M6 = jP M5 54 18 0 → (∀ M7, M7 = jP M6 54 20 0 → (∀ M8, M8 = jP M7 63 0 0 → (∀ M9, M9 = jP M8 63 1 0 → jRun X T0 d q_X8_lay (57, [.ref 54, .int 0], [], M9) Q)))))))))) : jOk X T0 d q_X8_lay [.ref 54] M Q := by
  refine jOk.intro (ml := 2) (ls := [.ref 54, .null]) (jTl (by decide)) rfl (Nat.le_of_ble_eq_true rfl) rfl hI ?_
  refine jRun.cut (k := jk_X8_lay) rfl 4 (c' := (8, [.ref 54, .null], [], (jP M 54 7 (M 54 27)))) (ob := True ∧ True ∧ jKd T0 54 = 8 ∧ jKd T0 54 = 8 ∧ True) rfl ⟨trivial, trivial, rfl, rfl, trivial⟩ ?_
  refine jRun.nm (fun M1 eM1 => ?_)
  have h := h M1 eM1
  refine jRun.cut (k := jk_X8_lay) rfl 4 (c' := (16, [.ref 54, .null], [], (jP M1 54 8 (M1 54 28)))) (ob := True ∧ True ∧ jKd T0 54 = 8 ∧ jKd T0 54 = 8 ∧ True) rfl ⟨trivial, trivial, rfl, rfl, trivial⟩ ?_
  refine jRun.nm (fun M2 eM2 => ?_)
  have h := h M2 eM2
  refine jRun.cut (k := jk_X8_lay) rfl 3 (c' := (21, [.ref 54, .null], [], (jP M2 54 12 0))) (ob := True ∧ True ∧ jKd T0 54 = 8 ∧ True) rfl ⟨trivial, trivial, rfl, trivial⟩ ?_
  refine jRun.nm (fun M3 eM3 => ?_)
  have h := h M3 eM3
  refine jRun.cut (k := jk_X8_lay) rfl 3 (c' := (26, [.ref 54, .null], [], (jP M3 54 14 0))) (ob := True ∧ True ∧ jKd T0 54 = 8 ∧ True) rfl ⟨trivial, trivial, rfl, trivial⟩ ?_
  refine jRun.nm (fun M4 eM4 => ?_)
  have h := h M4 eM4
  refine jRun.cut (k := jk_X8_lay) rfl 3 (c' := (31, [.ref 54, .null], [], (jP M4 54 16 0))) (ob := True ∧ True ∧ jKd T0 54 = 8 ∧ True) rfl ⟨trivial, trivial, rfl, trivial⟩ ?_
  refine jRun.nm (fun M5 eM5 => ?_)
  have h := h M5 eM5
  refine jRun.cut (k := jk_X8_lay) rfl 3 (c' := (36, [.ref 54, .null], [], (jP M5 54 18 0))) (ob := True ∧ True ∧ jKd T0 54 = 8 ∧ True) rfl ⟨trivial, trivial, rfl, trivial⟩ ?_
  refine jRun.nm (fun M6 eM6 => ?_)
  have h := h M6 eM6
  refine jRun.cut (k := jk_X8_lay) rfl 3 (c' := (41, [.ref 54, .null], [], (jP M6 54 20 0))) (ob := True ∧ True ∧ jKd T0 54 = 8 ∧ True) rfl ⟨trivial, trivial, rfl, trivial⟩ ?_
  refine jRun.nm (fun M7 eM7 => ?_)
  have h := h M7 eM7
  refine jRun.cut (k := jk_X8_lay) rfl 5 (c' := (48, [.ref 54, .null], [], (jP M7 63 0 0))) (ob := True ∧ jKd T0 54 = 8 ∧ True ∧ True ∧ (jKd T0 63 = 10 ∧ vp_in 0 2 ∧ (0 = 0 ∨ 0 = 1)) ∧ True) rfl ⟨trivial, rfl, trivial, trivial, ⟨rfl, (vp_in_iff.mpr (by decide)), (Or.inl rfl)⟩, trivial⟩ ?_
  refine jRun.nm (fun M8 eM8 => ?_)
  have h := h M8 eM8
  refine jRun.cut (k := jk_X8_lay) rfl 5 (c' := (55, [.ref 54, .null], [], (jP M8 63 1 0))) (ob := True ∧ jKd T0 54 = 8 ∧ True ∧ True ∧ (jKd T0 63 = 10 ∧ vp_in 1 2 ∧ (0 = 0 ∨ 0 = 1)) ∧ True) rfl ⟨trivial, rfl, trivial, trivial, ⟨rfl, (vp_in_iff.mpr (by decide)), (Or.inl rfl)⟩, trivial⟩ ?_
  refine jRun.nm (fun M9 eM9 => ?_)
  have h := h M9 eM9
  refine jRun.cut (k := jk_X8_lay) rfl 2 (c' := (57, [.ref 54, .int 0], [], M9)) (ob := True ∧ True ∧ True) rfl ⟨trivial, trivial, trivial⟩ ?_
  exact h
theorem v_X8_lay_57 {X : jX} {d : Nat} (a1 : Int32) (M : jMem) (Q : Option Value → jMem → Prop) (h : ((8 ≤ a1 → jRun X T0 d q_X8_lay (78, [.ref 54, .int 0], [], M) Q) ∧ (¬ 8 ≤ a1 → vp_in a1 8 ∧ (∀ M1, M1 = jP M 61 a1.toNatClampNeg (-1) → jRun X T0 d q_X8_lay (57, [.ref 54, .int (a1 + 1)], [], M1) Q)))) : jRun X T0 d q_X8_lay (57, [.ref 54, .int a1], [], M) Q := by
  refine jRun.cut (k := jk_X8_lay) rfl 3 (c' := (if 8 ≤ a1 then 76 else 63, [.ref 54, .int a1], [], M)) (ob := True ∧ True ∧ True ∧ True) rfl ⟨trivial, trivial, trivial, trivial⟩ ?_
  refine jRun.br (fun g => ?_) (fun g => ?_)
  · have h := h.1 g
    refine jRun.cut (k := jk_X8_lay) rfl 2 (c' := (78, [.ref 54, .int 0], [], M)) (ob := True ∧ True ∧ True) rfl ⟨trivial, trivial, trivial⟩ ?_
    exact h
  · have h := h.2 g
    obtain ⟨o1, h⟩ := h
    refine jRun.cut (k := jk_X8_lay) rfl 5 (c' := (70, [.ref 54, .int a1], [], (jP M 61 a1.toNatClampNeg (-1)))) (ob := True ∧ jKd T0 54 = 8 ∧ True ∧ True ∧ (jKd T0 61 = 9 ∧ vp_in a1 8) ∧ True) rfl ⟨trivial, rfl, trivial, trivial, ⟨rfl, o1⟩, trivial⟩ ?_
    refine jRun.nm (fun M1 eM1 => ?_)
    have h := h M1 eM1
    refine jRun.cut (k := jk_X8_lay) rfl 2 (c' := (57, [.ref 54, .int (a1 + 1)], [], M1)) (ob := True ∧ True ∧ True) rfl ⟨trivial, trivial, trivial⟩ ?_
    exact h
theorem v_X8_lay_78 {X : jX} {d : Nat} (a1 : Int32) (M : jMem) (Q : Option Value → jMem → Prop) (h : ((36 ≤ a1 → jRun X T0 d q_X8_lay (99, [.ref 54, .int 0], [], M) Q) ∧ (¬ 36 ≤ a1 → vp_in a1 36 ∧ (∀ M1, M1 = jP M 57 a1.toNatClampNeg 0 → jRun X T0 d q_X8_lay (78, [.ref 54, .int (a1 + 1)], [], M1) Q)))) : jRun X T0 d q_X8_lay (78, [.ref 54, .int a1], [], M) Q := by
  refine jRun.cut (k := jk_X8_lay) rfl 3 (c' := (if 36 ≤ a1 then 97 else 84, [.ref 54, .int a1], [], M)) (ob := True ∧ True ∧ True ∧ True) rfl ⟨trivial, trivial, trivial, trivial⟩ ?_
  refine jRun.br (fun g => ?_) (fun g => ?_)
  · have h := h.1 g
    refine jRun.cut (k := jk_X8_lay) rfl 2 (c' := (99, [.ref 54, .int 0], [], M)) (ob := True ∧ True ∧ True) rfl ⟨trivial, trivial, trivial⟩ ?_
    exact h
  · have h := h.2 g
    obtain ⟨o1, h⟩ := h
    refine jRun.cut (k := jk_X8_lay) rfl 5 (c' := (91, [.ref 54, .int a1], [], (jP M 57 a1.toNatClampNeg 0))) (ob := True ∧ jKd T0 54 = 8 ∧ True ∧ True ∧ (jKd T0 57 = 9 ∧ vp_in a1 36) ∧ True) rfl ⟨trivial, rfl, trivial, trivial, ⟨rfl, o1⟩, trivial⟩ ?_
    refine jRun.nm (fun M1 eM1 => ?_)
    have h := h M1 eM1
    refine jRun.cut (k := jk_X8_lay) rfl 2 (c' := (78, [.ref 54, .int (a1 + 1)], [], M1)) (ob := True ∧ True ∧ True) rfl ⟨trivial, trivial, trivial⟩ ?_
    exact h
theorem v_X8_lay_99 {X : jX} {d : Nat} (a1 : Int32) (M : jMem) (Q : Option Value → jMem → Prop) (h : (((M 54 7) ≤ a1 → Q none M) ∧ (¬ (M 54 7) ≤ a1 → vp_in a1 32 ∧ (∀ M1, M1 = jP M 56 a1.toNatClampNeg (M 67 a1.toNatClampNeg) → vp_in a1 36 ∧ (∀ M2, M2 = jP M1 57 a1.toNatClampNeg (M1 68 a1.toNatClampNeg) → (((M2 56 a1.toNatClampNeg) = 0 → (∀ M3, M3 = jP M2 54 18 ((M2 54 18) + 1) → jRun X T0 d q_X8_lay (273, [.ref 54, .int a1], [], M3) Q)) ∧ (¬ (M2 56 a1.toNatClampNeg) = 0 → (((M2 56 a1.toNatClampNeg) = 1 → vp_in (M2 57 a1.toNatClampNeg) 8 ∧ (∀ M4, M4 = jP M2 61 ((M2 57 a1.toNatClampNeg).toNatClampNeg) a1 → jRun X T0 d q_X8_lay (273, [.ref 54, .int a1], [], M4) Q)) ∧ (¬ (M2 56 a1.toNatClampNeg) = 1 → (((M2 56 a1.toNatClampNeg) = 2 → vp_in (M2 54 12) 10 ∧ (∀ M5, M5 = jP M2 58 ((M2 54 12).toNatClampNeg) a1 → (∀ M6, M6 = jP M5 54 12 ((M5 54 12) + 1) → jRun X T0 d q_X8_lay (273, [.ref 54, .int a1], [], M6) Q))) ∧ (¬ (M2 56 a1.toNatClampNeg) = 2 → (((M2 56 a1.toNatClampNeg) = 3 → jRun X T0 d q_X8_lay (273, [.ref 54, .int a1], [], M2) Q) ∧ (¬ (M2 56 a1.toNatClampNeg) = 3 → (((M2 56 a1.toNatClampNeg) = 4 → vp_in (M2 54 14) 6 ∧ (∀ M7, M7 = jP M2 59 ((M2 54 14).toNatClampNeg) a1 → (∀ M8, M8 = jP M7 54 14 ((M7 54 14) + 1) → jRun X T0 d q_X8_lay (273, [.ref 54, .int a1], [], M8) Q))) ∧ (¬ (M2 56 a1.toNatClampNeg) = 4 → (((M2 56 a1.toNatClampNeg) = 5 → vp_in (M2 54 16) 3 ∧ (∀ M9, M9 = jP M2 60 ((M2 54 16).toNatClampNeg) a1 → (∀ M10, M10 = jP M9 54 16 ((M9 54 16) + 1) → jRun X T0 d q_X8_lay (273, [.ref 54, .int a1], [], M10) Q))) ∧ (¬ (M2 56 a1.toNatClampNeg) = 5 → jRun X T0 d q_X8_lay (273, [.ref 54, .int a1], [], M2) Q))))))))))))))))) : jRun X T0 d q_X8_lay (99, [.ref 54, .int a1], [], M) Q := by
  refine jRun.cut (k := jk_X8_lay) rfl 4 (c' := (if (M 54 7) ≤ a1 then 279 else 107, [.ref 54, .int a1], [], M)) (ob := True ∧ True ∧ jKd T0 54 = 8 ∧ True ∧ True) rfl ⟨trivial, trivial, rfl, trivial, trivial⟩ ?_
  refine jRun.br (fun g => ?_) (fun g => ?_)
  · have h := h.1 g
    exact jRun.ret (k := jk_X8_lay) rfl 1 (v := none) (M1 := M) (ob := True) rfl trivial h
  · have h := h.2 g
    obtain ⟨o1, h⟩ := h
    refine jRun.cut (k := jk_X8_lay) rfl 8 (c' := (119, [.ref 54, .int a1], [], (jP M 56 a1.toNatClampNeg (M 67 a1.toNatClampNeg)))) (ob := True ∧ jKd T0 54 = 8 ∧ True ∧ True ∧ jKd T0 54 = 8 ∧ True ∧ (jKd T0 67 = 9 ∧ vp_in a1 32) ∧ (jKd T0 56 = 9 ∧ vp_in a1 32) ∧ True) rfl ⟨trivial, rfl, trivial, trivial, rfl, trivial, ⟨rfl, o1⟩, ⟨rfl, o1⟩, trivial⟩ ?_
    refine jRun.nm (fun M1 eM1 => ?_)
    have h := h M1 eM1
    obtain ⟨o2, h⟩ := h
    refine jRun.cut (k := jk_X8_lay) rfl 8 (c' := (131, [.ref 54, .int a1], [], (jP M1 57 a1.toNatClampNeg (M1 68 a1.toNatClampNeg)))) (ob := True ∧ jKd T0 54 = 8 ∧ True ∧ True ∧ jKd T0 54 = 8 ∧ True ∧ (jKd T0 68 = 9 ∧ vp_in a1 32) ∧ (jKd T0 57 = 9 ∧ vp_in a1 36) ∧ True) rfl ⟨trivial, rfl, trivial, trivial, rfl, trivial, ⟨rfl, o1⟩, ⟨rfl, o2⟩, trivial⟩ ?_
    refine jRun.nm (fun M2 eM2 => ?_)
    have h := h M2 eM2
    refine jRun.cut (k := jk_X8_lay) rfl 5 (c' := (if (M2 56 a1.toNatClampNeg) = 0 then 176 else if (M2 56 a1.toNatClampNeg) = 1 then 189 else if (M2 56 a1.toNatClampNeg) = 2 then 204 else if (M2 56 a1.toNatClampNeg) = 3 then 273 else if (M2 56 a1.toNatClampNeg) = 4 then 227 else if (M2 56 a1.toNatClampNeg) = 5 then 250 else 273, [.ref 54, .int a1], [], M2)) (ob := True ∧ jKd T0 54 = 8 ∧ True ∧ (jKd T0 56 = 9 ∧ vp_in a1 32) ∧ True ∧ True) rfl ⟨trivial, rfl, trivial, ⟨rfl, o1⟩, trivial, trivial⟩ ?_
    refine jRun.br (fun g => ?_) (fun g => ?_)
    · have h := h.1 g
      refine jRun.cut (k := jk_X8_lay) rfl 6 (c' := (186, [.ref 54, .int a1], [], (jP M2 54 18 ((M2 54 18) + 1)))) (ob := True ∧ True ∧ jKd T0 54 = 8 ∧ True ∧ True ∧ jKd T0 54 = 8 ∧ True) rfl ⟨trivial, trivial, rfl, trivial, trivial, rfl, trivial⟩ ?_
      refine jRun.nm (fun M3 eM3 => ?_)
      have h := h M3 eM3
      refine jRun.cut (k := jk_X8_lay) rfl 1 (c' := (273, [.ref 54, .int a1], [], M3)) (ob := True ∧ True) rfl ⟨trivial, trivial⟩ ?_
      exact h
    · have h := h.2 g
      refine jRun.br (fun g => ?_) (fun g => ?_)
      · have h := h.1 g
        obtain ⟨o3, h⟩ := h
        refine jRun.cut (k := jk_X8_lay) rfl 8 (c' := (201, [.ref 54, .int a1], [], (jP M2 61 ((M2 57 a1.toNatClampNeg).toNatClampNeg) a1))) (ob := True ∧ jKd T0 54 = 8 ∧ True ∧ jKd T0 54 = 8 ∧ True ∧ (jKd T0 57 = 9 ∧ vp_in a1 36) ∧ True ∧ (jKd T0 61 = 9 ∧ vp_in (M2 57 a1.toNatClampNeg) 8) ∧ True) rfl ⟨trivial, rfl, trivial, rfl, trivial, ⟨rfl, o2⟩, trivial, ⟨rfl, o3⟩, trivial⟩ ?_
        refine jRun.nm (fun M4 eM4 => ?_)
        have h := h M4 eM4
        refine jRun.cut (k := jk_X8_lay) rfl 1 (c' := (273, [.ref 54, .int a1], [], M4)) (ob := True ∧ True) rfl ⟨trivial, trivial⟩ ?_
        exact h
      · have h := h.2 g
        refine jRun.br (fun g => ?_) (fun g => ?_)
        · have h := h.1 g
          obtain ⟨o4, h⟩ := h
          refine jRun.cut (k := jk_X8_lay) rfl 6 (c' := (214, [.ref 54, .int a1], [], (jP M2 58 ((M2 54 12).toNatClampNeg) a1))) (ob := True ∧ jKd T0 54 = 8 ∧ True ∧ jKd T0 54 = 8 ∧ True ∧ (jKd T0 58 = 9 ∧ vp_in (M2 54 12) 10) ∧ True) rfl ⟨trivial, rfl, trivial, rfl, trivial, ⟨rfl, o4⟩, trivial⟩ ?_
          refine jRun.nm (fun M5 eM5 => ?_)
          have h := h M5 eM5
          refine jRun.cut (k := jk_X8_lay) rfl 6 (c' := (224, [.ref 54, .int a1], [], (jP M5 54 12 ((M5 54 12) + 1)))) (ob := True ∧ True ∧ jKd T0 54 = 8 ∧ True ∧ True ∧ jKd T0 54 = 8 ∧ True) rfl ⟨trivial, trivial, rfl, trivial, trivial, rfl, trivial⟩ ?_
          refine jRun.nm (fun M6 eM6 => ?_)
          have h := h M6 eM6
          refine jRun.cut (k := jk_X8_lay) rfl 1 (c' := (273, [.ref 54, .int a1], [], M6)) (ob := True ∧ True) rfl ⟨trivial, trivial⟩ ?_
          exact h
        · have h := h.2 g
          refine jRun.br (fun g => ?_) (fun g => ?_)
          · have h := h.1 g
            exact h
          · have h := h.2 g
            refine jRun.br (fun g => ?_) (fun g => ?_)
            · have h := h.1 g
              obtain ⟨o5, h⟩ := h
              refine jRun.cut (k := jk_X8_lay) rfl 6 (c' := (237, [.ref 54, .int a1], [], (jP M2 59 ((M2 54 14).toNatClampNeg) a1))) (ob := True ∧ jKd T0 54 = 8 ∧ True ∧ jKd T0 54 = 8 ∧ True ∧ (jKd T0 59 = 9 ∧ vp_in (M2 54 14) 6) ∧ True) rfl ⟨trivial, rfl, trivial, rfl, trivial, ⟨rfl, o5⟩, trivial⟩ ?_
              refine jRun.nm (fun M7 eM7 => ?_)
              have h := h M7 eM7
              refine jRun.cut (k := jk_X8_lay) rfl 6 (c' := (247, [.ref 54, .int a1], [], (jP M7 54 14 ((M7 54 14) + 1)))) (ob := True ∧ True ∧ jKd T0 54 = 8 ∧ True ∧ True ∧ jKd T0 54 = 8 ∧ True) rfl ⟨trivial, trivial, rfl, trivial, trivial, rfl, trivial⟩ ?_
              refine jRun.nm (fun M8 eM8 => ?_)
              have h := h M8 eM8
              refine jRun.cut (k := jk_X8_lay) rfl 1 (c' := (273, [.ref 54, .int a1], [], M8)) (ob := True ∧ True) rfl ⟨trivial, trivial⟩ ?_
              exact h
            · have h := h.2 g
              refine jRun.br (fun g => ?_) (fun g => ?_)
              · have h := h.1 g
                obtain ⟨o6, h⟩ := h
                refine jRun.cut (k := jk_X8_lay) rfl 6 (c' := (260, [.ref 54, .int a1], [], (jP M2 60 ((M2 54 16).toNatClampNeg) a1))) (ob := True ∧ jKd T0 54 = 8 ∧ True ∧ jKd T0 54 = 8 ∧ True ∧ (jKd T0 60 = 9 ∧ vp_in (M2 54 16) 3) ∧ True) rfl ⟨trivial, rfl, trivial, rfl, trivial, ⟨rfl, o6⟩, trivial⟩ ?_
                refine jRun.nm (fun M9 eM9 => ?_)
                have h := h M9 eM9
                refine jRun.cut (k := jk_X8_lay) rfl 6 (c' := (270, [.ref 54, .int a1], [], (jP M9 54 16 ((M9 54 16) + 1)))) (ob := True ∧ True ∧ jKd T0 54 = 8 ∧ True ∧ True ∧ jKd T0 54 = 8 ∧ True) rfl ⟨trivial, trivial, rfl, trivial, trivial, rfl, trivial⟩ ?_
                refine jRun.nm (fun M10 eM10 => ?_)
                have h := h M10 eM10
                refine jRun.cut (k := jk_X8_lay) rfl 1 (c' := (273, [.ref 54, .int a1], [], M10)) (ob := True ∧ True) rfl ⟨trivial, trivial⟩ ?_
                exact h
              · have h := h.2 g
                exact h
theorem v_X8_lay_273 {X : jX} {d : Nat} (a1 : Int32) (M : jMem) (Q : Option Value → jMem → Prop) (h : jRun X T0 d q_X8_lay (99, [.ref 54, .int (a1 + 1)], [], M) Q) : jRun X T0 d q_X8_lay (273, [.ref 54, .int a1], [], M) Q := by
  refine jRun.cut (k := jk_X8_lay) rfl 2 (c' := (99, [.ref 54, .int (a1 + 1)], [], M)) (ob := True ∧ True ∧ True) rfl ⟨trivial, trivial, trivial⟩ ?_
  exact h
theorem v_X8_isItem {X : jX} {d : Nat} (hI : jInj X T0) (a1 : Int32) (M : jMem) (Q : Option Value → jMem → Prop) (h : jOk X T0 d q_X8_in [.long a1.toInt64, .long 0, .long (((M 54 7) - 1).toInt64)] M (fun v M1 => ∃ r1, v = some (.int r1) ∧ (r1 = 0 ∨ r1 = 1) ∧ Q (some (.int r1)) M1)) : jOk X T0 (d + 1) q_X8_isItem [.ref 54, .int a1] M Q := by
  refine jOk.intro (ml := 2) (ls := [.ref 54, .int a1]) (jTl (by decide)) rfl (Nat.le_of_ble_eq_true rfl) rfl hI ?_
  refine jRun.call (k := jk_X8_isItem) rfl 9 (f := q_X8_in) (As := [.long a1.toInt64, .long 0, .long (((M 54 7) - 1).toInt64)]) (c1 := (13, [.ref 54, .int a1], [], M)) (ob := True ∧ True ∧ True ∧ True ∧ jKd T0 54 = 8 ∧ True ∧ True ∧ True ∧ True) rfl ⟨trivial, trivial, trivial, trivial, rfl, trivial, trivial, trivial, trivial⟩ h (fun v M1 h => ?_)
  obtain ⟨r1, rfl, h⟩ := h
  show jRun X T0 (d + 1) q_X8_isItem (13, [.ref 54, .int a1], [.int r1], M1) Q
  obtain ⟨o1, h⟩ := h
  exact jRun.ret (k := jk_X8_isItem) rfl 1 (v := some (.int r1)) (M1 := M1) (ob := (r1 = 0 ∨ r1 = 1)) rfl o1 h
theorem v_X8_numberOf {X : jX} {d : Nat} (hI : jInj X T0) (a0 : Nat) (a1 : Int32) (a2 : Int32) (M : jMem) (Q : Option Value → jMem → Prop) (h : jRun X T0 d q_X8_numberOf (2, [.ref a0, .int a1, .int a2, .int 0], [], M) Q) : jOk X T0 d q_X8_numberOf [.ref a0, .int a1, .int a2] M Q := by
  refine jOk.intro (ml := 4) (ls := [.ref a0, .int a1, .int a2, .null]) (jTl (by decide)) rfl (Nat.le_of_ble_eq_true rfl) rfl hI ?_
  refine jRun.cut (k := jk_X8_numberOf) rfl 2 (c' := (2, [.ref a0, .int a1, .int a2, .int 0], [], M)) (ob := True ∧ True ∧ True) rfl ⟨trivial, trivial, trivial⟩ ?_
  exact h
theorem v_X8_numberOf_2 {X : jX} {d : Nat} (a0 : Nat) (a1 : Int32) (a2 : Int32) (a3 : Int32) (M : jMem) (Q : Option Value → jMem → Prop) (h : ((a1 ≤ a3 → Q (some (.int (-9))) M) ∧ (¬ a1 ≤ a3 → jKd T0 a0 = 9 ∧ vp_in a3 (jLn T0 a0) ∧ ((¬ (M a0 a3.toNatClampNeg) = a2 → jRun X T0 d q_X8_numberOf (2, [.ref a0, .int a1, .int a2, .int (a3 + 1)], [], M) Q) ∧ ((M a0 a3.toNatClampNeg) = a2 → Q (some (.int a3)) M))))) : jRun X T0 d q_X8_numberOf (2, [.ref a0, .int a1, .int a2, .int a3], [], M) Q := by
  refine jRun.cut (k := jk_X8_numberOf) rfl 3 (c' := (if a1 ≤ a3 then 22 else 7, [.ref a0, .int a1, .int a2, .int a3], [], M)) (ob := True ∧ True ∧ True ∧ True) rfl ⟨trivial, trivial, trivial, trivial⟩ ?_
  refine jRun.br (fun g => ?_) (fun g => ?_)
  · have h := h.1 g
    exact jRun.ret (k := jk_X8_numberOf) rfl 2 (v := some (.int (-9))) (M1 := M) (ob := True ∧ True) rfl ⟨trivial, trivial⟩ h
  · have h := h.2 g
    obtain ⟨o1, o2, h⟩ := h
    refine jRun.cut (k := jk_X8_numberOf) rfl 5 (c' := (if ¬ (M a0 a3.toNatClampNeg) = a2 then 16 else 14, [.ref a0, .int a1, .int a2, .int a3], [], M)) (ob := True ∧ True ∧ (jKd T0 a0 = 9 ∧ vp_in a3 (jLn T0 a0)) ∧ True ∧ True ∧ True) rfl ⟨trivial, trivial, ⟨o1, o2⟩, trivial, trivial, trivial⟩ ?_
    refine jRun.brn (fun g => ?_) (fun g => ?_)
    · have h := h.1 g
      refine jRun.cut (k := jk_X8_numberOf) rfl 2 (c' := (2, [.ref a0, .int a1, .int a2, .int (a3 + 1)], [], M)) (ob := True ∧ True ∧ True) rfl ⟨trivial, trivial, trivial⟩ ?_
      exact h
    · have h := h.2 g
      exact jRun.ret (k := jk_X8_numberOf) rfl 2 (v := some (.int a3)) (M1 := M) (ob := True ∧ True) rfl ⟨trivial, trivial⟩ h
theorem v_X8_bits {X : jX} {d : Nat} (hI : jInj X T0) (a0 : Int32) (M : jMem) (Q : Option Value → jMem → Prop) (h : jRun X T0 d q_X8_bits (4, [.int a0, .int 0, .int 0], [], M) Q) : jOk X T0 d q_X8_bits [.int a0] M Q := by
  refine jOk.intro (ml := 3) (ls := [.int a0, .null, .null]) (jTl (by decide)) rfl (Nat.le_of_ble_eq_true rfl) rfl hI ?_
  refine jRun.cut (k := jk_X8_bits) rfl 4 (c' := (4, [.int a0, .int 0, .int 0], [], M)) (ob := True ∧ True ∧ True ∧ True ∧ True) rfl ⟨trivial, trivial, trivial, trivial, trivial⟩ ?_
  exact h
theorem v_X8_bits_4 {X : jX} {d : Nat} (a0 : Int32) (a1 : Int32) (a2 : Int32) (M : jMem) (Q : Option Value → jMem → Prop) (h : ((24 ≤ a2 → Q (some (.int a1)) M) ∧ (¬ 24 ≤ a2 → jRun X T0 d q_X8_bits (4, [.int a0, .int (a1 + ((a0 >>> (a2 &&& 31)) &&& 1)), .int (a2 + 1)], [], M) Q))) : jRun X T0 d q_X8_bits (4, [.int a0, .int a1, .int a2], [], M) Q := by
  refine jRun.cut (k := jk_X8_bits) rfl 3 (c' := (if 24 ≤ a2 then 24 else 10, [.int a0, .int a1, .int a2], [], M)) (ob := True ∧ True ∧ True ∧ True) rfl ⟨trivial, trivial, trivial, trivial⟩ ?_
  refine jRun.br (fun g => ?_) (fun g => ?_)
  · have h := h.1 g
    exact jRun.ret (k := jk_X8_bits) rfl 2 (v := some (.int a1)) (M1 := M) (ob := True ∧ True) rfl ⟨trivial, trivial⟩ h
  · have h := h.2 g
    refine jRun.cut (k := jk_X8_bits) rfl 10 (c' := (4, [.int a0, .int (a1 + ((a0 >>> (a2 &&& 31)) &&& 1)), .int (a2 + 1)], [], M)) (ob := True ∧ True ∧ True ∧ True ∧ True ∧ True ∧ True ∧ True ∧ True ∧ True ∧ True) rfl ⟨trivial, trivial, trivial, trivial, trivial, trivial, trivial, trivial, trivial, trivial, trivial⟩ ?_
    exact h
theorem v_X8_has {X : jX} {d : Nat} (hI : jInj X T0) (a0 : Int32) (a1 : Int32) (M : jMem) (Q : Option Value → jMem → Prop) (h : ((¬ ((a0 >>> (a1 &&& 31)) &&& 1) = 1 → Q (some (.int 0)) M) ∧ (((a0 >>> (a1 &&& 31)) &&& 1) = 1 → Q (some (.int 1)) M))) : jOk X T0 d q_X8_has [.int a0, .int a1] M Q := by
  refine jOk.intro (ml := 2) (ls := [.int a0, .int a1]) (jTl (by decide)) rfl (Nat.le_of_ble_eq_true rfl) rfl hI ?_
  refine jRun.cut (k := jk_X8_has) rfl 7 (c' := (if ¬ ((a0 >>> (a1 &&& 31)) &&& 1) = 1 then 13 else 9, [.int a0, .int a1], [], M)) (ob := True ∧ True ∧ True ∧ True ∧ True ∧ True ∧ True ∧ True) rfl ⟨trivial, trivial, trivial, trivial, trivial, trivial, trivial, trivial⟩ ?_
  refine jRun.brn (fun g => ?_) (fun g => ?_)
  · have h := h.1 g
    exact jRun.ret (k := jk_X8_has) rfl 2 (v := some (.int 0)) (M1 := M) (ob := True ∧ (0 = 0 ∨ 0 = 1)) rfl ⟨trivial, (Or.inl rfl)⟩ h
  · have h := h.2 g
    exact jRun.ret (k := jk_X8_has) rfl 3 (v := some (.int 1)) (M1 := M) (ob := True ∧ True ∧ (1 = 0 ∨ 1 = 1)) rfl ⟨trivial, trivial, (Or.inr rfl)⟩ h
theorem v_X8_item {X : jX} {d : Nat} (hI : jInj X T0) (a1 : Int32) (a2 : Int32) (M : jMem) (Q : Option Value → jMem → Prop) (h : (∀ M1, M1 = jP M 54 0 0 → jOk X T0 d q_X8_isItem [.ref 54, .int a1] M1 (fun v M2 => ∃ r1, v = some (.int r1) ∧ ((r1 = 0 → Q (some (.int (-1))) M2) ∧ (¬ r1 = 0 → jOk X T0 d q_X8_in [.long a2.toInt64, .long 0, .long 2] M2 (fun v M3 => ∃ r2, v = some (.int r2) ∧ ((¬ r2 = 0 → ((¬ a2 = 0 → ((¬ a2 = 1 → vp_in a1 32 ∧ ((¬ (M3 56 a1.toNatClampNeg) = 2 → Q (some (.int 0)) M3) ∧ ((M3 56 a1.toNatClampNeg) = 2 → jOk X T0 d q_X8_numberOf [.ref 58, .int (M3 54 12), .int a1] M3 (fun v M4 => ∃ r3, v = some (.int r3) ∧ Q (some (.int (((M3 57 32) >>> (r3 &&& 31)) &&& 1))) M4)))) ∧ (a2 = 1 → vp_in a1 32 ∧ ((¬ (M3 56 a1.toNatClampNeg) = 5 → vp_in a1 36 ∧ Q (some (.int (M3 57 a1.toNatClampNeg))) M3) ∧ ((M3 56 a1.toNatClampNeg) = 5 → jOk X T0 d q_X8_numberOf [.ref 60, .int (M3 54 16), .int a1] M3 (fun v M5 => ∃ r4, v = some (.int r4) ∧ vp_in (33 + r4) 36 ∧ jOk X T0 d q_X8_bits [.int (M5 57 (33 + r4).toNatClampNeg)] M5 (fun v M6 => ∃ r5, v = some (.int r5) ∧ Q (some (.int r5)) M6))))))) ∧ (a2 = 0 → vp_in a1 32 ∧ Q (some (.int (M3 56 a1.toNatClampNeg))) M3))) ∧ (r2 = 0 → Q (some (.int (-1))) M3)))))))) : jOk X T0 (d + 1) q_X8_item [.ref 54, .int a1, .int a2] M Q := by
  refine jOk.intro (ml := 3) (ls := [.ref 54, .int a1, .int a2]) (jTl (by decide)) rfl (Nat.le_of_ble_eq_true rfl) rfl hI ?_
  refine jRun.cut (k := jk_X8_item) rfl 3 (c' := (5, [.ref 54, .int a1, .int a2], [], (jP M 54 0 0))) (ob := True ∧ True ∧ jKd T0 54 = 8 ∧ True) rfl ⟨trivial, trivial, rfl, trivial⟩ ?_
  refine jRun.nm (fun M1 eM1 => ?_)
  have h := h M1 eM1
  refine jRun.call (k := jk_X8_item) rfl 3 (f := q_X8_isItem) (As := [.ref 54, .int a1]) (c1 := (10, [.ref 54, .int a1, .int a2], [], M1)) (ob := True ∧ True ∧ jKd T0 54 = 8) rfl ⟨trivial, trivial, rfl⟩ h (fun v M2 h => ?_)
  obtain ⟨r1, rfl, h⟩ := h
  show jRun X T0 (d + 1) q_X8_item (10, [.ref 54, .int a1, .int a2], [.int r1], M2) Q
  refine jRun.cut (k := jk_X8_item) rfl 1 (c' := (if r1 = 0 then 25 else 13, [.ref 54, .int a1, .int a2], [], M2)) (ob := True ∧ True) rfl ⟨trivial, trivial⟩ ?_
  refine jRun.br (fun g => ?_) (fun g => ?_)
  · have h := h.1 g
    exact jRun.ret (k := jk_X8_item) rfl 2 (v := some (.int (-1))) (M1 := M2) (ob := True ∧ True) rfl ⟨trivial, trivial⟩ h
  · have h := h.2 g
    refine jRun.call (k := jk_X8_item) rfl 5 (f := q_X8_in) (As := [.long a2.toInt64, .long 0, .long 2]) (c1 := (22, [.ref 54, .int a1, .int a2], [], M2)) (ob := True ∧ True ∧ True ∧ True ∧ True) rfl ⟨trivial, trivial, trivial, trivial, trivial⟩ h (fun v M3 h => ?_)
    obtain ⟨r2, rfl, h⟩ := h
    show jRun X T0 (d + 1) q_X8_item (22, [.ref 54, .int a1, .int a2], [.int r2], M3) Q
    refine jRun.cut (k := jk_X8_item) rfl 1 (c' := (if ¬ r2 = 0 then 27 else 25, [.ref 54, .int a1, .int a2], [], M3)) (ob := True ∧ True) rfl ⟨trivial, trivial⟩ ?_
    refine jRun.brn (fun g => ?_) (fun g => ?_)
    · have h := h.1 g
      refine jRun.cut (k := jk_X8_item) rfl 2 (c' := (if ¬ a2 = 0 then 38 else 31, [.ref 54, .int a1, .int a2], [], M3)) (ob := True ∧ True ∧ True) rfl ⟨trivial, trivial, trivial⟩ ?_
      refine jRun.brn (fun g => ?_) (fun g => ?_)
      · have h := h.1 g
        refine jRun.cut (k := jk_X8_item) rfl 3 (c' := (if ¬ a2 = 1 then 86 else 43, [.ref 54, .int a1, .int a2], [], M3)) (ob := True ∧ True ∧ True ∧ True) rfl ⟨trivial, trivial, trivial, trivial⟩ ?_
        refine jRun.brn (fun g => ?_) (fun g => ?_)
        · have h := h.1 g
          obtain ⟨o1, h⟩ := h
          refine jRun.cut (k := jk_X8_item) rfl 6 (c' := (if ¬ (M3 56 a1.toNatClampNeg) = 2 then 121 else 96, [.ref 54, .int a1, .int a2], [], M3)) (ob := True ∧ jKd T0 54 = 8 ∧ True ∧ (jKd T0 56 = 9 ∧ vp_in a1 32) ∧ True ∧ True ∧ True) rfl ⟨trivial, rfl, trivial, ⟨rfl, o1⟩, trivial, trivial, trivial⟩ ?_
          refine jRun.brn (fun g => ?_) (fun g => ?_)
          · have h := h.1 g
            exact jRun.ret (k := jk_X8_item) rfl 2 (v := some (.int 0)) (M1 := M3) (ob := True ∧ True) rfl ⟨trivial, trivial⟩ h
          · have h := h.2 g
            refine jRun.call (k := jk_X8_item) rfl 10 (f := q_X8_numberOf) (As := [.ref 58, .int (M3 54 12), .int a1]) (c1 := (115, [.ref 54, .int a1, .int a2], [.int (M3 57 32)], M3)) (ob := True ∧ jKd T0 54 = 8 ∧ True ∧ (jKd T0 57 = 9 ∧ vp_in 32 36) ∧ True ∧ jKd T0 54 = 8 ∧ True ∧ jKd T0 54 = 8 ∧ True ∧ True) rfl ⟨trivial, rfl, trivial, ⟨rfl, (vp_in_iff.mpr (by decide))⟩, trivial, rfl, trivial, rfl, trivial, trivial⟩ h (fun v M4 h => ?_)
            obtain ⟨r3, rfl, h⟩ := h
            show jRun X T0 (d + 1) q_X8_item (115, [.ref 54, .int a1, .int a2], [.int r3, .int (M3 57 32)], M4) Q
            exact jRun.ret (k := jk_X8_item) rfl 5 (v := some (.int (((M3 57 32) >>> (r3 &&& 31)) &&& 1))) (M1 := M4) (ob := True ∧ True ∧ True ∧ True ∧ True) rfl ⟨trivial, trivial, trivial, trivial, trivial⟩ h
        · have h := h.2 g
          obtain ⟨o2, h⟩ := h
          refine jRun.cut (k := jk_X8_item) rfl 6 (c' := (if ¬ (M3 56 a1.toNatClampNeg) = 5 then 79 else 53, [.ref 54, .int a1, .int a2], [], M3)) (ob := True ∧ jKd T0 54 = 8 ∧ True ∧ (jKd T0 56 = 9 ∧ vp_in a1 32) ∧ True ∧ True ∧ True) rfl ⟨trivial, rfl, trivial, ⟨rfl, o2⟩, trivial, trivial, trivial⟩ ?_
          refine jRun.brn (fun g => ?_) (fun g => ?_)
          · have h := h.1 g
            obtain ⟨o3, h⟩ := h
            exact jRun.ret (k := jk_X8_item) rfl 5 (v := some (.int (M3 57 a1.toNatClampNeg))) (M1 := M3) (ob := True ∧ jKd T0 54 = 8 ∧ True ∧ (jKd T0 57 = 9 ∧ vp_in a1 36) ∧ True) rfl ⟨trivial, rfl, trivial, ⟨rfl, o3⟩, trivial⟩ h
          · have h := h.2 g
            refine jRun.call (k := jk_X8_item) rfl 9 (f := q_X8_numberOf) (As := [.ref 60, .int (M3 54 16), .int a1]) (c1 := (71, [.ref 54, .int a1, .int a2], [.int 33, .ref 57], M3)) (ob := True ∧ jKd T0 54 = 8 ∧ True ∧ True ∧ jKd T0 54 = 8 ∧ True ∧ jKd T0 54 = 8 ∧ True ∧ True) rfl ⟨trivial, rfl, trivial, trivial, rfl, trivial, rfl, trivial, trivial⟩ h (fun v M5 h => ?_)
            obtain ⟨r4, rfl, h⟩ := h
            show jRun X T0 (d + 1) q_X8_item (71, [.ref 54, .int a1, .int a2], [.int r4, .int 33, .ref 57], M5) Q
            obtain ⟨o4, h⟩ := h
            refine jRun.call (k := jk_X8_item) rfl 3 (f := q_X8_bits) (As := [.int (M5 57 (33 + r4).toNatClampNeg)]) (c1 := (76, [.ref 54, .int a1, .int a2], [], M5)) (ob := True ∧ (jKd T0 57 = 9 ∧ vp_in (33 + r4) 36) ∧ True) rfl ⟨trivial, ⟨rfl, o4⟩, trivial⟩ h (fun v M6 h => ?_)
            obtain ⟨r5, rfl, h⟩ := h
            show jRun X T0 (d + 1) q_X8_item (76, [.ref 54, .int a1, .int a2], [.int r5], M6) Q
            exact jRun.ret (k := jk_X8_item) rfl 2 (v := some (.int r5)) (M1 := M6) (ob := True ∧ True) rfl ⟨trivial, trivial⟩ h
      · have h := h.2 g
        obtain ⟨o5, h⟩ := h
        exact jRun.ret (k := jk_X8_item) rfl 5 (v := some (.int (M3 56 a1.toNatClampNeg))) (M1 := M3) (ob := True ∧ jKd T0 54 = 8 ∧ True ∧ (jKd T0 56 = 9 ∧ vp_in a1 32) ∧ True) rfl ⟨trivial, rfl, trivial, ⟨rfl, o5⟩, trivial⟩ h
    · have h := h.2 g
      exact jRun.ret (k := jk_X8_item) rfl 2 (v := some (.int (-1))) (M1 := M3) (ob := True ∧ True) rfl ⟨trivial, trivial⟩ h
theorem v_X8_keepAct {X : jX} {d : Nat} (hI : jInj X T0)  (M : jMem) (Q : Option Value → jMem → Prop) (h : ((¬ (M 54 20) = 10 → jRun X T0 d q_X8_keepAct (51, [.ref 54, .int 0], [], M) Q) ∧ ((M 54 20) = 10 → jRun X T0 d q_X8_keepAct (11, [.ref 54, .int 0], [], M) Q))) : jOk X T0 d q_X8_keepAct [.ref 54] M Q := by
  refine jOk.intro (ml := 2) (ls := [.ref 54, .null]) (jTl (by decide)) rfl (Nat.le_of_ble_eq_true rfl) rfl hI ?_
  refine jRun.cut (k := jk_X8_keepAct) rfl 4 (c' := (if ¬ (M 54 20) = 10 then 49 else 9, [.ref 54, .null], [], M)) (ob := True ∧ jKd T0 54 = 8 ∧ True ∧ True ∧ True) rfl ⟨trivial, rfl, trivial, trivial, trivial⟩ ?_
  refine jRun.brn (fun g => ?_) (fun g => ?_)
  · have h := h.1 g
    refine jRun.cut (k := jk_X8_keepAct) rfl 2 (c' := (51, [.ref 54, .int 0], [], M)) (ob := True ∧ True ∧ True) rfl ⟨trivial, trivial, trivial⟩ ?_
    exact h
  · have h := h.2 g
    refine jRun.cut (k := jk_X8_keepAct) rfl 2 (c' := (11, [.ref 54, .int 0], [], M)) (ob := True ∧ True ∧ True) rfl ⟨trivial, trivial, trivial⟩ ?_
    exact h
theorem v_X8_keepAct_11 {X : jX} {d : Nat} (a1 : Int32) (M : jMem) (Q : Option Value → jMem → Prop) (h : ((324 ≤ a1 → (∀ M1, M1 = jP M 54 20 ((M 54 20) - 1) → jRun X T0 d q_X8_keepAct (51, [.ref 54, .int 0], [], M1) Q)) ∧ (¬ 324 ≤ a1 → vp_in (a1 + 36) 360 ∧ vp_in a1 360 ∧ (∀ M2, M2 = jP M 62 a1.toNatClampNeg (M 62 (a1 + 36).toNatClampNeg) → jRun X T0 d q_X8_keepAct (11, [.ref 54, .int (a1 + 1)], [], M2) Q)))) : jRun X T0 d q_X8_keepAct (11, [.ref 54, .int a1], [], M) Q := by
  refine jRun.cut (k := jk_X8_keepAct) rfl 3 (c' := (if 324 ≤ a1 then 39 else 18, [.ref 54, .int a1], [], M)) (ob := True ∧ True ∧ True ∧ True) rfl ⟨trivial, trivial, trivial, trivial⟩ ?_
  refine jRun.br (fun g => ?_) (fun g => ?_)
  · have h := h.1 g
    refine jRun.cut (k := jk_X8_keepAct) rfl 6 (c' := (49, [.ref 54, .int a1], [], (jP M 54 20 ((M 54 20) - 1)))) (ob := True ∧ True ∧ jKd T0 54 = 8 ∧ True ∧ True ∧ jKd T0 54 = 8 ∧ True) rfl ⟨trivial, trivial, rfl, trivial, trivial, rfl, trivial⟩ ?_
    refine jRun.nm (fun M1 eM1 => ?_)
    have h := h M1 eM1
    refine jRun.cut (k := jk_X8_keepAct) rfl 2 (c' := (51, [.ref 54, .int 0], [], M1)) (ob := True ∧ True ∧ True) rfl ⟨trivial, trivial, trivial⟩ ?_
    exact h
  · have h := h.2 g
    obtain ⟨o1, o2, h⟩ := h
    refine jRun.cut (k := jk_X8_keepAct) rfl 10 (c' := (33, [.ref 54, .int a1], [], (jP M 62 a1.toNatClampNeg (M 62 (a1 + 36).toNatClampNeg)))) (ob := True ∧ jKd T0 54 = 8 ∧ True ∧ True ∧ jKd T0 54 = 8 ∧ True ∧ True ∧ True ∧ (jKd T0 62 = 9 ∧ vp_in (a1 + 36) 360) ∧ (jKd T0 62 = 9 ∧ vp_in a1 360) ∧ True) rfl ⟨trivial, rfl, trivial, trivial, rfl, trivial, trivial, trivial, ⟨rfl, o1⟩, ⟨rfl, o2⟩, trivial⟩ ?_
    refine jRun.nm (fun M2 eM2 => ?_)
    have h := h M2 eM2
    refine jRun.cut (k := jk_X8_keepAct) rfl 2 (c' := (11, [.ref 54, .int (a1 + 1)], [], M2)) (ob := True ∧ True ∧ True) rfl ⟨trivial, trivial, trivial⟩ ?_
    exact h
theorem v_X8_keepAct_51 {X : jX} {d : Nat} (a1 : Int32) (M : jMem) (Q : Option Value → jMem → Prop) (h : ((36 ≤ a1 → (∀ M1, M1 = jP M 54 20 ((M 54 20) + 1) → Q none M1)) ∧ (¬ 36 ≤ a1 → vp_in a1 36 ∧ vp_in ((36 * (M 54 20)) + a1) 360 ∧ (∀ M2, M2 = jP M 62 (((36 * (M 54 20)) + a1).toNatClampNeg) (M 57 a1.toNatClampNeg) → jRun X T0 d q_X8_keepAct (51, [.ref 54, .int (a1 + 1)], [], M2) Q)))) : jRun X T0 d q_X8_keepAct (51, [.ref 54, .int a1], [], M) Q := by
  refine jRun.cut (k := jk_X8_keepAct) rfl 3 (c' := (if 36 ≤ a1 then 83 else 57, [.ref 54, .int a1], [], M)) (ob := True ∧ True ∧ True ∧ True) rfl ⟨trivial, trivial, trivial, trivial⟩ ?_
  refine jRun.br (fun g => ?_) (fun g => ?_)
  · have h := h.1 g
    refine jRun.cut (k := jk_X8_keepAct) rfl 6 (c' := (93, [.ref 54, .int a1], [], (jP M 54 20 ((M 54 20) + 1)))) (ob := True ∧ True ∧ jKd T0 54 = 8 ∧ True ∧ True ∧ jKd T0 54 = 8 ∧ True) rfl ⟨trivial, trivial, rfl, trivial, trivial, rfl, trivial⟩ ?_
    refine jRun.nm (fun M1 eM1 => ?_)
    have h := h M1 eM1
    exact jRun.ret (k := jk_X8_keepAct) rfl 1 (v := none) (M1 := M1) (ob := True) rfl trivial h
  · have h := h.2 g
    obtain ⟨o1, o2, h⟩ := h
    refine jRun.cut (k := jk_X8_keepAct) rfl 13 (c' := (77, [.ref 54, .int a1], [], (jP M 62 (((36 * (M 54 20)) + a1).toNatClampNeg) (M 57 a1.toNatClampNeg)))) (ob := True ∧ jKd T0 54 = 8 ∧ True ∧ True ∧ jKd T0 54 = 8 ∧ True ∧ True ∧ True ∧ True ∧ jKd T0 54 = 8 ∧ True ∧ (jKd T0 57 = 9 ∧ vp_in a1 36) ∧ (jKd T0 62 = 9 ∧ vp_in ((36 * (M 54 20)) + a1) 360) ∧ True) rfl ⟨trivial, rfl, trivial, trivial, rfl, trivial, trivial, trivial, trivial, rfl, trivial, ⟨rfl, o1⟩, ⟨rfl, o2⟩, trivial⟩ ?_
    refine jRun.nm (fun M2 eM2 => ?_)
    have h := h M2 eM2
    refine jRun.cut (k := jk_X8_keepAct) rfl 2 (c' := (51, [.ref 54, .int (a1 + 1)], [], M2)) (ob := True ∧ True ∧ True) rfl ⟨trivial, trivial, trivial⟩ ?_
    exact h
theorem v_X8_sizes {X : jX} {d : Nat} (hI : jInj X T0) (a1 : Int32) (a2 : Int32) (M : jMem) (Q : Option Value → jMem → Prop) (h : (∀ M1, M1 = jP M 54 0 0 → jOk X T0 d q_X8_isItem [.ref 54, .int a1] M1 (fun v M2 => ∃ r1, v = some (.int r1) ∧ ((r1 = 0 → Q (some (.int (-1))) M2) ∧ (¬ r1 = 0 → vp_in a1 32 ∧ ((¬ (M2 56 a1.toNatClampNeg) = 0 → Q (some (.int (-1))) M2) ∧ ((M2 56 a1.toNatClampNeg) = 0 → jOk X T0 d q_X8_in [.long a2.toInt64, .long 1, .long 60] M2 (fun v M3 => ∃ r2, v = some (.int r2) ∧ ((¬ r2 = 0 → vp_in a1 36 ∧ ((¬ (M3 57 a1.toNatClampNeg) = a2 → jOk X T0 d q_X8_keepAct [.ref 54] M3 (fun v M4 => v = none ∧ (∀ M5, M5 = jP M4 57 a1.toNatClampNeg a2 → Q (some (.int (M3 57 a1.toNatClampNeg))) M5))) ∧ ((M3 57 a1.toNatClampNeg) = a2 → Q (some (.int (-2))) M3))) ∧ (r2 = 0 → Q (some (.int (-1))) M3)))))))))) : jOk X T0 (d + 1) q_X8_sizes [.ref 54, .int a1, .int a2] M Q := by
  refine jOk.intro (ml := 4) (ls := [.ref 54, .int a1, .int a2, .null]) (jTl (by decide)) rfl (Nat.le_of_ble_eq_true rfl) rfl hI ?_
  refine jRun.cut (k := jk_X8_sizes) rfl 3 (c' := (5, [.ref 54, .int a1, .int a2, .null], [], (jP M 54 0 0))) (ob := True ∧ True ∧ jKd T0 54 = 8 ∧ True) rfl ⟨trivial, trivial, rfl, trivial⟩ ?_
  refine jRun.nm (fun M1 eM1 => ?_)
  have h := h M1 eM1
  refine jRun.call (k := jk_X8_sizes) rfl 3 (f := q_X8_isItem) (As := [.ref 54, .int a1]) (c1 := (10, [.ref 54, .int a1, .int a2, .null], [], M1)) (ob := True ∧ True ∧ jKd T0 54 = 8) rfl ⟨trivial, trivial, rfl⟩ h (fun v M2 h => ?_)
  obtain ⟨r1, rfl, h⟩ := h
  show jRun X T0 (d + 1) q_X8_sizes (10, [.ref 54, .int a1, .int a2, .null], [.int r1], M2) Q
  refine jRun.cut (k := jk_X8_sizes) rfl 1 (c' := (if r1 = 0 then 34 else 13, [.ref 54, .int a1, .int a2, .null], [], M2)) (ob := True ∧ True) rfl ⟨trivial, trivial⟩ ?_
  refine jRun.br (fun g => ?_) (fun g => ?_)
  · have h := h.1 g
    exact jRun.ret (k := jk_X8_sizes) rfl 2 (v := some (.int (-1))) (M1 := M2) (ob := True ∧ True) rfl ⟨trivial, trivial⟩ h
  · have h := h.2 g
    obtain ⟨o1, h⟩ := h
    refine jRun.cut (k := jk_X8_sizes) rfl 5 (c' := (if ¬ (M2 56 a1.toNatClampNeg) = 0 then 34 else 22, [.ref 54, .int a1, .int a2, .null], [], M2)) (ob := True ∧ jKd T0 54 = 8 ∧ True ∧ (jKd T0 56 = 9 ∧ vp_in a1 32) ∧ True ∧ True) rfl ⟨trivial, rfl, trivial, ⟨rfl, o1⟩, trivial, trivial⟩ ?_
    refine jRun.brn (fun g => ?_) (fun g => ?_)
    · have h := h.1 g
      exact jRun.ret (k := jk_X8_sizes) rfl 2 (v := some (.int (-1))) (M1 := M2) (ob := True ∧ True) rfl ⟨trivial, trivial⟩ h
    · have h := h.2 g
      refine jRun.call (k := jk_X8_sizes) rfl 5 (f := q_X8_in) (As := [.long a2.toInt64, .long 1, .long 60]) (c1 := (31, [.ref 54, .int a1, .int a2, .null], [], M2)) (ob := True ∧ True ∧ True ∧ True ∧ True) rfl ⟨trivial, trivial, trivial, trivial, trivial⟩ h (fun v M3 h => ?_)
      obtain ⟨r2, rfl, h⟩ := h
      show jRun X T0 (d + 1) q_X8_sizes (31, [.ref 54, .int a1, .int a2, .null], [.int r2], M3) Q
      refine jRun.cut (k := jk_X8_sizes) rfl 1 (c' := (if ¬ r2 = 0 then 36 else 34, [.ref 54, .int a1, .int a2, .null], [], M3)) (ob := True ∧ True) rfl ⟨trivial, trivial⟩ ?_
      refine jRun.brn (fun g => ?_) (fun g => ?_)
      · have h := h.1 g
        obtain ⟨o2, h⟩ := h
        refine jRun.cut (k := jk_X8_sizes) rfl 8 (c' := (if ¬ (M3 57 a1.toNatClampNeg) = a2 then 51 else 48, [.ref 54, .int a1, .int a2, .int (M3 57 a1.toNatClampNeg)], [], M3)) (ob := True ∧ jKd T0 54 = 8 ∧ True ∧ (jKd T0 57 = 9 ∧ vp_in a1 36) ∧ True ∧ True ∧ True ∧ True ∧ True) rfl ⟨trivial, rfl, trivial, ⟨rfl, o2⟩, trivial, trivial, trivial, trivial, trivial⟩ ?_
        refine jRun.brn (fun g => ?_) (fun g => ?_)
        · have h := h.1 g
          refine jRun.call (k := jk_X8_sizes) rfl 2 (f := q_X8_keepAct) (As := [.ref 54]) (c1 := (55, [.ref 54, .int a1, .int a2, .int (M3 57 a1.toNatClampNeg)], [], M3)) (ob := True ∧ jKd T0 54 = 8) rfl ⟨trivial, rfl⟩ h (fun v M4 h => ?_)
          obtain ⟨rfl, h⟩ := h
          show jRun X T0 (d + 1) q_X8_sizes (55, [.ref 54, .int a1, .int a2, .int (M3 57 a1.toNatClampNeg)], [], M4) Q
          refine jRun.cut (k := jk_X8_sizes) rfl 5 (c' := (62, [.ref 54, .int a1, .int a2, .int (M3 57 a1.toNatClampNeg)], [], (jP M4 57 a1.toNatClampNeg a2))) (ob := True ∧ jKd T0 54 = 8 ∧ True ∧ True ∧ (jKd T0 57 = 9 ∧ vp_in a1 36) ∧ True) rfl ⟨trivial, rfl, trivial, trivial, ⟨rfl, o2⟩, trivial⟩ ?_
          refine jRun.nm (fun M5 eM5 => ?_)
          have h := h M5 eM5
          exact jRun.ret (k := jk_X8_sizes) rfl 2 (v := some (.int (M3 57 a1.toNatClampNeg))) (M1 := M5) (ob := True ∧ True) rfl ⟨trivial, trivial⟩ h
        · have h := h.2 g
          exact jRun.ret (k := jk_X8_sizes) rfl 2 (v := some (.int (-2))) (M1 := M3) (ob := True ∧ True) rfl ⟨trivial, trivial⟩ h
      · have h := h.2 g
        exact jRun.ret (k := jk_X8_sizes) rfl 2 (v := some (.int (-1))) (M1 := M3) (ob := True ∧ True) rfl ⟨trivial, trivial⟩ h
theorem v_X8_pins {X : jX} {d : Nat} (hI : jInj X T0) (a1 : Int32) (M : jMem) (Q : Option Value → jMem → Prop) (h : (∀ M1, M1 = jP M 54 0 0 → jOk X T0 d q_X8_isItem [.ref 54, .int a1] M1 (fun v M2 => ∃ r1, v = some (.int r1) ∧ ((r1 = 0 → Q (some (.int (-1))) M2) ∧ (¬ r1 = 0 → vp_in a1 32 ∧ (((M2 56 a1.toNatClampNeg) = 2 → jOk X T0 d q_X8_keepAct [.ref 54] M2 (fun v M3 => v = none ∧ jOk X T0 d q_X8_numberOf [.ref 58, .int (M3 54 12), .int a1] M3 (fun v M4 => ∃ r3, v = some (.int r3) ∧ (∀ M5, M5 = jP M4 57 32 ((M4 57 32) ^^^ (1 <<< (r3 &&& 31))) → Q (some (.int (((M5 57 32) >>> (r3 &&& 31)) &&& 1))) M5)))) ∧ (¬ (M2 56 a1.toNatClampNeg) = 2 → Q (some (.int (-1))) M2))))))) : jOk X T0 (d + 1) q_X8_pins [.ref 54, .int a1] M Q := by
  refine jOk.intro (ml := 3) (ls := [.ref 54, .int a1, .null]) (jTl (by decide)) rfl (Nat.le_of_ble_eq_true rfl) rfl hI ?_
  refine jRun.cut (k := jk_X8_pins) rfl 3 (c' := (5, [.ref 54, .int a1, .null], [], (jP M 54 0 0))) (ob := True ∧ True ∧ jKd T0 54 = 8 ∧ True) rfl ⟨trivial, trivial, rfl, trivial⟩ ?_
  refine jRun.nm (fun M1 eM1 => ?_)
  have h := h M1 eM1
  refine jRun.call (k := jk_X8_pins) rfl 3 (f := q_X8_isItem) (As := [.ref 54, .int a1]) (c1 := (10, [.ref 54, .int a1, .null], [], M1)) (ob := True ∧ True ∧ jKd T0 54 = 8) rfl ⟨trivial, trivial, rfl⟩ h (fun v M2 h => ?_)
  obtain ⟨r1, rfl, h⟩ := h
  show jRun X T0 (d + 1) q_X8_pins (10, [.ref 54, .int a1, .null], [.int r1], M2) Q
  refine jRun.cut (k := jk_X8_pins) rfl 1 (c' := (if r1 = 0 then 23 else 13, [.ref 54, .int a1, .null], [], M2)) (ob := True ∧ True) rfl ⟨trivial, trivial⟩ ?_
  refine jRun.br (fun g => ?_) (fun g => ?_)
  · have h := h.1 g
    exact jRun.ret (k := jk_X8_pins) rfl 2 (v := some (.int (-1))) (M1 := M2) (ob := True ∧ True) rfl ⟨trivial, trivial⟩ h
  · have h := h.2 g
    obtain ⟨o1, h⟩ := h
    refine jRun.cut (k := jk_X8_pins) rfl 6 (c' := (if (M2 56 a1.toNatClampNeg) = 2 then 25 else 23, [.ref 54, .int a1, .null], [], M2)) (ob := True ∧ jKd T0 54 = 8 ∧ True ∧ (jKd T0 56 = 9 ∧ vp_in a1 32) ∧ True ∧ True ∧ True) rfl ⟨trivial, rfl, trivial, ⟨rfl, o1⟩, trivial, trivial, trivial⟩ ?_
    refine jRun.br (fun g => ?_) (fun g => ?_)
    · have h := h.1 g
      refine jRun.call (k := jk_X8_pins) rfl 2 (f := q_X8_keepAct) (As := [.ref 54]) (c1 := (29, [.ref 54, .int a1, .null], [], M2)) (ob := True ∧ jKd T0 54 = 8) rfl ⟨trivial, rfl⟩ h (fun v M3 h => ?_)
      obtain ⟨rfl, h⟩ := h
      show jRun X T0 (d + 1) q_X8_pins (29, [.ref 54, .int a1, .null], [], M3) Q
      refine jRun.call (k := jk_X8_pins) rfl 6 (f := q_X8_numberOf) (As := [.ref 58, .int (M3 54 12), .int a1]) (c1 := (41, [.ref 54, .int a1, .null], [], M3)) (ob := True ∧ jKd T0 54 = 8 ∧ True ∧ jKd T0 54 = 8 ∧ True ∧ True) rfl ⟨trivial, rfl, trivial, rfl, trivial, trivial⟩ h (fun v M4 h => ?_)
      obtain ⟨r3, rfl, h⟩ := h
      show jRun X T0 (d + 1) q_X8_pins (41, [.ref 54, .int a1, .null], [.int r3], M4) Q
      refine jRun.cut (k := jk_X8_pins) rfl 11 (c' := (55, [.ref 54, .int a1, .int r3], [], (jP M4 57 32 ((M4 57 32) ^^^ (1 <<< (r3 &&& 31)))))) (ob := True ∧ True ∧ jKd T0 54 = 8 ∧ True ∧ True ∧ (jKd T0 57 = 9 ∧ vp_in 32 36) ∧ True ∧ True ∧ True ∧ True ∧ (jKd T0 57 = 9 ∧ vp_in 32 36) ∧ True) rfl ⟨trivial, trivial, rfl, trivial, trivial, ⟨rfl, (vp_in_iff.mpr (by decide))⟩, trivial, trivial, trivial, trivial, ⟨rfl, (vp_in_iff.mpr (by decide))⟩, trivial⟩ ?_
      refine jRun.nm (fun M5 eM5 => ?_)
      have h := h M5 eM5
      exact jRun.ret (k := jk_X8_pins) rfl 9 (v := some (.int (((M5 57 32) >>> (r3 &&& 31)) &&& 1))) (M1 := M5) (ob := True ∧ jKd T0 54 = 8 ∧ True ∧ (jKd T0 57 = 9 ∧ vp_in 32 36) ∧ True ∧ True ∧ True ∧ True ∧ True) rfl ⟨trivial, rfl, trivial, ⟨rfl, (vp_in_iff.mpr (by decide))⟩, trivial, trivial, trivial, trivial, trivial⟩ h
    · have h := h.2 g
      exact jRun.ret (k := jk_X8_pins) rfl 2 (v := some (.int (-1))) (M1 := M2) (ob := True ∧ True) rfl ⟨trivial, trivial⟩ h
theorem v_X8_isles {X : jX} {d : Nat} (hI : jInj X T0)  (M : jMem) (Q : Option Value → jMem → Prop) (h : jOk X T0 d q_X8_bits [.int (M 57 33)] M (fun v M1 => ∃ r1, v = some (.int r1) ∧ jOk X T0 d q_X8_bits [.int (M1 57 34)] M1 (fun v M2 => ∃ r2, v = some (.int r2) ∧ jOk X T0 d q_X8_bits [.int (M2 57 35)] M2 (fun v M3 => ∃ r3, v = some (.int r3) ∧ Q (some (.int ((r1 + r2) + r3))) M3)))) : jOk X T0 (d + 1) q_X8_isles [.ref 54] M Q := by
  refine jOk.intro (ml := 1) (ls := [.ref 54]) (jTl (by decide)) rfl (Nat.le_of_ble_eq_true rfl) rfl hI ?_
  refine jRun.call (k := jk_X8_isles) rfl 5 (f := q_X8_bits) (As := [.int (M 57 33)]) (c1 := (10, [.ref 54], [], M)) (ob := True ∧ jKd T0 54 = 8 ∧ True ∧ (jKd T0 57 = 9 ∧ vp_in 33 36) ∧ True) rfl ⟨trivial, rfl, trivial, ⟨rfl, (vp_in_iff.mpr (by decide))⟩, trivial⟩ h (fun v M1 h => ?_)
  obtain ⟨r1, rfl, h⟩ := h
  show jRun X T0 (d + 1) q_X8_isles (10, [.ref 54], [.int r1], M1) Q
  refine jRun.call (k := jk_X8_isles) rfl 5 (f := q_X8_bits) (As := [.int (M1 57 34)]) (c1 := (20, [.ref 54], [.int r1], M1)) (ob := True ∧ jKd T0 54 = 8 ∧ True ∧ (jKd T0 57 = 9 ∧ vp_in 34 36) ∧ True) rfl ⟨trivial, rfl, trivial, ⟨rfl, (vp_in_iff.mpr (by decide))⟩, trivial⟩ h (fun v M2 h => ?_)
  obtain ⟨r2, rfl, h⟩ := h
  show jRun X T0 (d + 1) q_X8_isles (20, [.ref 54], [.int r2, .int r1], M2) Q
  refine jRun.call (k := jk_X8_isles) rfl 6 (f := q_X8_bits) (As := [.int (M2 57 35)]) (c1 := (31, [.ref 54], [.int (r1 + r2)], M2)) (ob := True ∧ True ∧ jKd T0 54 = 8 ∧ True ∧ (jKd T0 57 = 9 ∧ vp_in 35 36) ∧ True) rfl ⟨trivial, trivial, rfl, trivial, ⟨rfl, (vp_in_iff.mpr (by decide))⟩, trivial⟩ h (fun v M3 h => ?_)
  obtain ⟨r3, rfl, h⟩ := h
  show jRun X T0 (d + 1) q_X8_isles (31, [.ref 54], [.int r3, .int (r1 + r2)], M3) Q
  exact jRun.ret (k := jk_X8_isles) rfl 2 (v := some (.int ((r1 + r2) + r3))) (M1 := M3) (ob := True ∧ True) rfl ⟨trivial, trivial⟩ h
theorem v_X8_isIsle {X : jX} {d : Nat} (hI : jInj X T0) (a1 : Int32) (a2 : Int32) (M : jMem) (Q : Option Value → jMem → Prop) (h : jOk X T0 d q_X8_in [.long a1.toInt64, .long 0, .long (((M 54 16) - 1).toInt64)] M (fun v M1 => ∃ r1, v = some (.int r1) ∧ ((r1 = 0 → Q (some (.int 0)) M1) ∧ (¬ r1 = 0 → jOk X T0 d q_X8_in [.long a2.toInt64, .long 0, .long 7] M1 (fun v M2 => ∃ r2, v = some (.int r2) ∧ ((r2 = 0 → Q (some (.int 0)) M2) ∧ (¬ r2 = 0 → vp_in a2 8 ∧ (((M2 61 a2.toNatClampNeg) < 0 → Q (some (.int 0)) M2) ∧ (¬ (M2 61 a2.toNatClampNeg) < 0 → Q (some (.int 1)) M2))))))))) : jOk X T0 (d + 1) q_X8_isIsle [.ref 54, .int a1, .int a2] M Q := by
  refine jOk.intro (ml := 3) (ls := [.ref 54, .int a1, .int a2]) (jTl (by decide)) rfl (Nat.le_of_ble_eq_true rfl) rfl hI ?_
  refine jRun.call (k := jk_X8_isIsle) rfl 9 (f := q_X8_in) (As := [.long a1.toInt64, .long 0, .long (((M 54 16) - 1).toInt64)]) (c1 := (13, [.ref 54, .int a1, .int a2], [], M)) (ob := True ∧ True ∧ True ∧ True ∧ jKd T0 54 = 8 ∧ True ∧ True ∧ True ∧ True) rfl ⟨trivial, trivial, trivial, trivial, rfl, trivial, trivial, trivial, trivial⟩ h (fun v M1 h => ?_)
  obtain ⟨r1, rfl, h⟩ := h
  show jRun X T0 (d + 1) q_X8_isIsle (13, [.ref 54, .int a1, .int a2], [.int r1], M1) Q
  refine jRun.cut (k := jk_X8_isIsle) rfl 1 (c' := (if r1 = 0 then 41 else 16, [.ref 54, .int a1, .int a2], [], M1)) (ob := True ∧ True) rfl ⟨trivial, trivial⟩ ?_
  refine jRun.br (fun g => ?_) (fun g => ?_)
  · have h := h.1 g
    exact jRun.ret (k := jk_X8_isIsle) rfl 2 (v := some (.int 0)) (M1 := M1) (ob := True ∧ (0 = 0 ∨ 0 = 1)) rfl ⟨trivial, (Or.inl rfl)⟩ h
  · have h := h.2 g
    refine jRun.call (k := jk_X8_isIsle) rfl 5 (f := q_X8_in) (As := [.long a2.toInt64, .long 0, .long 7]) (c1 := (25, [.ref 54, .int a1, .int a2], [], M1)) (ob := True ∧ True ∧ True ∧ True ∧ True) rfl ⟨trivial, trivial, trivial, trivial, trivial⟩ h (fun v M2 h => ?_)
    obtain ⟨r2, rfl, h⟩ := h
    show jRun X T0 (d + 1) q_X8_isIsle (25, [.ref 54, .int a1, .int a2], [.int r2], M2) Q
    refine jRun.cut (k := jk_X8_isIsle) rfl 1 (c' := (if r2 = 0 then 41 else 28, [.ref 54, .int a1, .int a2], [], M2)) (ob := True ∧ True) rfl ⟨trivial, trivial⟩ ?_
    refine jRun.br (fun g => ?_) (fun g => ?_)
    · have h := h.1 g
      exact jRun.ret (k := jk_X8_isIsle) rfl 2 (v := some (.int 0)) (M1 := M2) (ob := True ∧ (0 = 0 ∨ 0 = 1)) rfl ⟨trivial, (Or.inl rfl)⟩ h
    · have h := h.2 g
      obtain ⟨o1, h⟩ := h
      refine jRun.cut (k := jk_X8_isIsle) rfl 5 (c' := (if (M2 61 a2.toNatClampNeg) < 0 then 41 else 37, [.ref 54, .int a1, .int a2], [], M2)) (ob := True ∧ jKd T0 54 = 8 ∧ True ∧ (jKd T0 61 = 9 ∧ vp_in a2 8) ∧ True ∧ True) rfl ⟨trivial, rfl, trivial, ⟨rfl, o1⟩, trivial, trivial⟩ ?_
      refine jRun.br (fun g => ?_) (fun g => ?_)
      · have h := h.1 g
        exact jRun.ret (k := jk_X8_isIsle) rfl 2 (v := some (.int 0)) (M1 := M2) (ob := True ∧ (0 = 0 ∨ 0 = 1)) rfl ⟨trivial, (Or.inl rfl)⟩ h
      · have h := h.2 g
        exact jRun.ret (k := jk_X8_isIsle) rfl 3 (v := some (.int 1)) (M1 := M2) (ob := True ∧ True ∧ (1 = 0 ∨ 1 = 1)) rfl ⟨trivial, trivial, (Or.inr rfl)⟩ h
theorem v_X8_places {X : jX} {d : Nat} (hI : jInj X T0) (a1 : Int32) (a2 : Int32) (M : jMem) (Q : Option Value → jMem → Prop) (h : (∀ M1, M1 = jP M 54 0 0 → jOk X T0 d q_X8_isIsle [.ref 54, .int a1, .int a2] M1 (fun v M2 => ∃ r1, v = some (.int r1) ∧ ((¬ r1 = 0 → vp_in (33 + a1) 36 ∧ jOk X T0 d q_X8_has [.int (M2 57 (33 + a1).toNatClampNeg), .int a2] M2 (fun v M3 => ∃ r2, v = some (.int r2) ∧ ((r2 = 0 → jOk X T0 d q_X8_isles [.ref 54] M3 (fun v M4 => ∃ r3, v = some (.int r3) ∧ ((¬ r3 = 6 → jOk X T0 d q_X8_keepAct [.ref 54] M4 (fun v M5 => v = none ∧ (∀ M6, M6 = jP M5 57 ((33 + a1).toNatClampNeg) ((M5 57 (33 + a1).toNatClampNeg) ||| (1 <<< (a2 &&& 31))) → jOk X T0 d q_X8_isles [.ref 54] M6 (fun v M7 => ∃ r5, v = some (.int r5) ∧ Q (some (.int r5)) M7)))) ∧ (r3 = 6 → Q (some (.int (-3))) M4)))) ∧ (¬ r2 = 0 → Q (some (.int (-2))) M3)))) ∧ (r1 = 0 → Q (some (.int (-1))) M2))))) : jOk X T0 (d + 1) q_X8_places [.ref 54, .int a1, .int a2] M Q := by
  refine jOk.intro (ml := 3) (ls := [.ref 54, .int a1, .int a2]) (jTl (by decide)) rfl (Nat.le_of_ble_eq_true rfl) rfl hI ?_
  refine jRun.cut (k := jk_X8_places) rfl 3 (c' := (5, [.ref 54, .int a1, .int a2], [], (jP M 54 0 0))) (ob := True ∧ True ∧ jKd T0 54 = 8 ∧ True) rfl ⟨trivial, trivial, rfl, trivial⟩ ?_
  refine jRun.nm (fun M1 eM1 => ?_)
  have h := h M1 eM1
  refine jRun.call (k := jk_X8_places) rfl 4 (f := q_X8_isIsle) (As := [.ref 54, .int a1, .int a2]) (c1 := (11, [.ref 54, .int a1, .int a2], [], M1)) (ob := True ∧ True ∧ True ∧ jKd T0 54 = 8) rfl ⟨trivial, trivial, trivial, rfl⟩ h (fun v M2 h => ?_)
  obtain ⟨r1, rfl, h⟩ := h
  show jRun X T0 (d + 1) q_X8_places (11, [.ref 54, .int a1, .int a2], [.int r1], M2) Q
  refine jRun.cut (k := jk_X8_places) rfl 1 (c' := (if ¬ r1 = 0 then 16 else 14, [.ref 54, .int a1, .int a2], [], M2)) (ob := True ∧ True) rfl ⟨trivial, trivial⟩ ?_
  refine jRun.brn (fun g => ?_) (fun g => ?_)
  · have h := h.1 g
    obtain ⟨o1, h⟩ := h
    refine jRun.call (k := jk_X8_places) rfl 8 (f := q_X8_has) (As := [.int (M2 57 (33 + a1).toNatClampNeg), .int a2]) (c1 := (29, [.ref 54, .int a1, .int a2], [], M2)) (ob := True ∧ jKd T0 54 = 8 ∧ True ∧ True ∧ True ∧ (jKd T0 57 = 9 ∧ vp_in (33 + a1) 36) ∧ True ∧ True) rfl ⟨trivial, rfl, trivial, trivial, trivial, ⟨rfl, o1⟩, trivial, trivial⟩ h (fun v M3 h => ?_)
    obtain ⟨r2, rfl, h⟩ := h
    show jRun X T0 (d + 1) q_X8_places (29, [.ref 54, .int a1, .int a2], [.int r2], M3) Q
    refine jRun.cut (k := jk_X8_places) rfl 1 (c' := (if r2 = 0 then 35 else 32, [.ref 54, .int a1, .int a2], [], M3)) (ob := True ∧ True) rfl ⟨trivial, trivial⟩ ?_
    refine jRun.br (fun g => ?_) (fun g => ?_)
    · have h := h.1 g
      refine jRun.call (k := jk_X8_places) rfl 2 (f := q_X8_isles) (As := [.ref 54]) (c1 := (39, [.ref 54, .int a1, .int a2], [], M3)) (ob := True ∧ jKd T0 54 = 8) rfl ⟨trivial, rfl⟩ h (fun v M4 h => ?_)
      obtain ⟨r3, rfl, h⟩ := h
      show jRun X T0 (d + 1) q_X8_places (39, [.ref 54, .int a1, .int a2], [.int r3], M4) Q
      refine jRun.cut (k := jk_X8_places) rfl 2 (c' := (if ¬ r3 = 6 then 47 else 44, [.ref 54, .int a1, .int a2], [], M4)) (ob := True ∧ True ∧ True) rfl ⟨trivial, trivial, trivial⟩ ?_
      refine jRun.brn (fun g => ?_) (fun g => ?_)
      · have h := h.1 g
        refine jRun.call (k := jk_X8_places) rfl 2 (f := q_X8_keepAct) (As := [.ref 54]) (c1 := (51, [.ref 54, .int a1, .int a2], [], M4)) (ob := True ∧ jKd T0 54 = 8) rfl ⟨trivial, rfl⟩ h (fun v M5 h => ?_)
        obtain ⟨rfl, h⟩ := h
        show jRun X T0 (d + 1) q_X8_places (51, [.ref 54, .int a1, .int a2], [], M5) Q
        refine jRun.cut (k := jk_X8_places) rfl 12 (c' := (66, [.ref 54, .int a1, .int a2], [], (jP M5 57 ((33 + a1).toNatClampNeg) ((M5 57 (33 + a1).toNatClampNeg) ||| (1 <<< (a2 &&& 31)))))) (ob := True ∧ jKd T0 54 = 8 ∧ True ∧ True ∧ True ∧ True ∧ (jKd T0 57 = 9 ∧ vp_in (33 + a1) 36) ∧ True ∧ True ∧ True ∧ True ∧ (jKd T0 57 = 9 ∧ vp_in (33 + a1) 36) ∧ True) rfl ⟨trivial, rfl, trivial, trivial, trivial, trivial, ⟨rfl, o1⟩, trivial, trivial, trivial, trivial, ⟨rfl, o1⟩, trivial⟩ ?_
        refine jRun.nm (fun M6 eM6 => ?_)
        have h := h M6 eM6
        refine jRun.call (k := jk_X8_places) rfl 2 (f := q_X8_isles) (As := [.ref 54]) (c1 := (70, [.ref 54, .int a1, .int a2], [], M6)) (ob := True ∧ jKd T0 54 = 8) rfl ⟨trivial, rfl⟩ h (fun v M7 h => ?_)
        obtain ⟨r5, rfl, h⟩ := h
        show jRun X T0 (d + 1) q_X8_places (70, [.ref 54, .int a1, .int a2], [.int r5], M7) Q
        exact jRun.ret (k := jk_X8_places) rfl 1 (v := some (.int r5)) (M1 := M7) (ob := True) rfl trivial h
      · have h := h.2 g
        exact jRun.ret (k := jk_X8_places) rfl 2 (v := some (.int (-3))) (M1 := M4) (ob := True ∧ True) rfl ⟨trivial, trivial⟩ h
    · have h := h.2 g
      exact jRun.ret (k := jk_X8_places) rfl 2 (v := some (.int (-2))) (M1 := M3) (ob := True ∧ True) rfl ⟨trivial, trivial⟩ h
  · have h := h.2 g
    exact jRun.ret (k := jk_X8_places) rfl 2 (v := some (.int (-1))) (M1 := M2) (ob := True ∧ True) rfl ⟨trivial, trivial⟩ h
theorem v_X8_takes {X : jX} {d : Nat} (hI : jInj X T0) (a1 : Int32) (a2 : Int32) (M : jMem) (Q : Option Value → jMem → Prop) (h : (∀ M1, M1 = jP M 54 0 0 → jOk X T0 d q_X8_isIsle [.ref 54, .int a1, .int a2] M1 (fun v M2 => ∃ r1, v = some (.int r1) ∧ ((¬ r1 = 0 → vp_in (33 + a1) 36 ∧ jOk X T0 d q_X8_has [.int (M2 57 (33 + a1).toNatClampNeg), .int a2] M2 (fun v M3 => ∃ r2, v = some (.int r2) ∧ ((¬ r2 = 0 → jOk X T0 d q_X8_keepAct [.ref 54] M3 (fun v M4 => v = none ∧ (∀ M5, M5 = jP M4 57 ((33 + a1).toNatClampNeg) ((M4 57 (33 + a1).toNatClampNeg) ^^^ (1 <<< (a2 &&& 31))) → jOk X T0 d q_X8_isles [.ref 54] M5 (fun v M6 => ∃ r4, v = some (.int r4) ∧ Q (some (.int r4)) M6)))) ∧ (r2 = 0 → Q (some (.int (-2))) M3)))) ∧ (r1 = 0 → Q (some (.int (-1))) M2))))) : jOk X T0 (d + 1) q_X8_takes [.ref 54, .int a1, .int a2] M Q := by
  refine jOk.intro (ml := 3) (ls := [.ref 54, .int a1, .int a2]) (jTl (by decide)) rfl (Nat.le_of_ble_eq_true rfl) rfl hI ?_
  refine jRun.cut (k := jk_X8_takes) rfl 3 (c' := (5, [.ref 54, .int a1, .int a2], [], (jP M 54 0 0))) (ob := True ∧ True ∧ jKd T0 54 = 8 ∧ True) rfl ⟨trivial, trivial, rfl, trivial⟩ ?_
  refine jRun.nm (fun M1 eM1 => ?_)
  have h := h M1 eM1
  refine jRun.call (k := jk_X8_takes) rfl 4 (f := q_X8_isIsle) (As := [.ref 54, .int a1, .int a2]) (c1 := (11, [.ref 54, .int a1, .int a2], [], M1)) (ob := True ∧ True ∧ True ∧ jKd T0 54 = 8) rfl ⟨trivial, trivial, trivial, rfl⟩ h (fun v M2 h => ?_)
  obtain ⟨r1, rfl, h⟩ := h
  show jRun X T0 (d + 1) q_X8_takes (11, [.ref 54, .int a1, .int a2], [.int r1], M2) Q
  refine jRun.cut (k := jk_X8_takes) rfl 1 (c' := (if ¬ r1 = 0 then 16 else 14, [.ref 54, .int a1, .int a2], [], M2)) (ob := True ∧ True) rfl ⟨trivial, trivial⟩ ?_
  refine jRun.brn (fun g => ?_) (fun g => ?_)
  · have h := h.1 g
    obtain ⟨o1, h⟩ := h
    refine jRun.call (k := jk_X8_takes) rfl 8 (f := q_X8_has) (As := [.int (M2 57 (33 + a1).toNatClampNeg), .int a2]) (c1 := (29, [.ref 54, .int a1, .int a2], [], M2)) (ob := True ∧ jKd T0 54 = 8 ∧ True ∧ True ∧ True ∧ (jKd T0 57 = 9 ∧ vp_in (33 + a1) 36) ∧ True ∧ True) rfl ⟨trivial, rfl, trivial, trivial, trivial, ⟨rfl, o1⟩, trivial, trivial⟩ h (fun v M3 h => ?_)
    obtain ⟨r2, rfl, h⟩ := h
    show jRun X T0 (d + 1) q_X8_takes (29, [.ref 54, .int a1, .int a2], [.int r2], M3) Q
    refine jRun.cut (k := jk_X8_takes) rfl 1 (c' := (if ¬ r2 = 0 then 35 else 32, [.ref 54, .int a1, .int a2], [], M3)) (ob := True ∧ True) rfl ⟨trivial, trivial⟩ ?_
    refine jRun.brn (fun g => ?_) (fun g => ?_)
    · have h := h.1 g
      refine jRun.call (k := jk_X8_takes) rfl 2 (f := q_X8_keepAct) (As := [.ref 54]) (c1 := (39, [.ref 54, .int a1, .int a2], [], M3)) (ob := True ∧ jKd T0 54 = 8) rfl ⟨trivial, rfl⟩ h (fun v M4 h => ?_)
      obtain ⟨rfl, h⟩ := h
      show jRun X T0 (d + 1) q_X8_takes (39, [.ref 54, .int a1, .int a2], [], M4) Q
      refine jRun.cut (k := jk_X8_takes) rfl 12 (c' := (54, [.ref 54, .int a1, .int a2], [], (jP M4 57 ((33 + a1).toNatClampNeg) ((M4 57 (33 + a1).toNatClampNeg) ^^^ (1 <<< (a2 &&& 31)))))) (ob := True ∧ jKd T0 54 = 8 ∧ True ∧ True ∧ True ∧ True ∧ (jKd T0 57 = 9 ∧ vp_in (33 + a1) 36) ∧ True ∧ True ∧ True ∧ True ∧ (jKd T0 57 = 9 ∧ vp_in (33 + a1) 36) ∧ True) rfl ⟨trivial, rfl, trivial, trivial, trivial, trivial, ⟨rfl, o1⟩, trivial, trivial, trivial, trivial, ⟨rfl, o1⟩, trivial⟩ ?_
      refine jRun.nm (fun M5 eM5 => ?_)
      have h := h M5 eM5
      refine jRun.call (k := jk_X8_takes) rfl 2 (f := q_X8_isles) (As := [.ref 54]) (c1 := (58, [.ref 54, .int a1, .int a2], [], M5)) (ob := True ∧ jKd T0 54 = 8) rfl ⟨trivial, rfl⟩ h (fun v M6 h => ?_)
      obtain ⟨r4, rfl, h⟩ := h
      show jRun X T0 (d + 1) q_X8_takes (58, [.ref 54, .int a1, .int a2], [.int r4], M6) Q
      exact jRun.ret (k := jk_X8_takes) rfl 1 (v := some (.int r4)) (M1 := M6) (ob := True) rfl trivial h
    · have h := h.2 g
      exact jRun.ret (k := jk_X8_takes) rfl 2 (v := some (.int (-2))) (M1 := M3) (ob := True ∧ True) rfl ⟨trivial, trivial⟩ h
  · have h := h.2 g
    exact jRun.ret (k := jk_X8_takes) rfl 2 (v := some (.int (-1))) (M1 := M2) (ob := True ∧ True) rfl ⟨trivial, trivial⟩ h
theorem v_X8_undo {X : jX} {d : Nat} (hI : jInj X T0)  (M : jMem) (Q : Option Value → jMem → Prop) (h : (∀ M1, M1 = jP M 54 0 0 → ((¬ (M1 54 20) = 0 → (∀ M2, M2 = jP M1 54 20 ((M1 54 20) - 1) → jRun X T0 d q_X8_undo (27, [.ref 54, .int 0], [], M2) Q)) ∧ ((M1 54 20) = 0 → Q (some (.int (-2))) M1)))) : jOk X T0 d q_X8_undo [.ref 54] M Q := by
  refine jOk.intro (ml := 2) (ls := [.ref 54, .null]) (jTl (by decide)) rfl (Nat.le_of_ble_eq_true rfl) rfl hI ?_
  refine jRun.cut (k := jk_X8_undo) rfl 3 (c' := (5, [.ref 54, .null], [], (jP M 54 0 0))) (ob := True ∧ True ∧ jKd T0 54 = 8 ∧ True) rfl ⟨trivial, trivial, rfl, trivial⟩ ?_
  refine jRun.nm (fun M1 eM1 => ?_)
  have h := h M1 eM1
  refine jRun.cut (k := jk_X8_undo) rfl 3 (c' := (if ¬ (M1 54 20) = 0 then 15 else 12, [.ref 54, .null], [], M1)) (ob := True ∧ jKd T0 54 = 8 ∧ True ∧ True) rfl ⟨trivial, rfl, trivial, trivial⟩ ?_
  refine jRun.brn (fun g => ?_) (fun g => ?_)
  · have h := h.1 g
    refine jRun.cut (k := jk_X8_undo) rfl 6 (c' := (25, [.ref 54, .null], [], (jP M1 54 20 ((M1 54 20) - 1)))) (ob := True ∧ True ∧ jKd T0 54 = 8 ∧ True ∧ True ∧ jKd T0 54 = 8 ∧ True) rfl ⟨trivial, trivial, rfl, trivial, trivial, rfl, trivial⟩ ?_
    refine jRun.nm (fun M2 eM2 => ?_)
    have h := h M2 eM2
    refine jRun.cut (k := jk_X8_undo) rfl 2 (c' := (27, [.ref 54, .int 0], [], M2)) (ob := True ∧ True ∧ True) rfl ⟨trivial, trivial, trivial⟩ ?_
    exact h
  · have h := h.2 g
    exact jRun.ret (k := jk_X8_undo) rfl 2 (v := some (.int (-2))) (M1 := M1) (ob := True ∧ True) rfl ⟨trivial, trivial⟩ h
theorem v_X8_undo_27 {X : jX} {d : Nat} (a1 : Int32) (M : jMem) (Q : Option Value → jMem → Prop) (h : ((36 ≤ a1 → Q (some (.int (M 54 20))) M) ∧ (¬ 36 ≤ a1 → vp_in ((36 * (M 54 20)) + a1) 360 ∧ vp_in a1 36 ∧ (∀ M1, M1 = jP M 57 a1.toNatClampNeg (M 62 ((36 * (M 54 20)) + a1).toNatClampNeg) → jRun X T0 d q_X8_undo (27, [.ref 54, .int (a1 + 1)], [], M1) Q)))) : jRun X T0 d q_X8_undo (27, [.ref 54, .int a1], [], M) Q := by
  refine jRun.cut (k := jk_X8_undo) rfl 3 (c' := (if 36 ≤ a1 then 59 else 33, [.ref 54, .int a1], [], M)) (ob := True ∧ True ∧ True ∧ True) rfl ⟨trivial, trivial, trivial, trivial⟩ ?_
  refine jRun.br (fun g => ?_) (fun g => ?_)
  · have h := h.1 g
    exact jRun.ret (k := jk_X8_undo) rfl 3 (v := some (.int (M 54 20))) (M1 := M) (ob := True ∧ jKd T0 54 = 8 ∧ True) rfl ⟨trivial, rfl, trivial⟩ h
  · have h := h.2 g
    obtain ⟨o1, o2, h⟩ := h
    refine jRun.cut (k := jk_X8_undo) rfl 13 (c' := (53, [.ref 54, .int a1], [], (jP M 57 a1.toNatClampNeg (M 62 ((36 * (M 54 20)) + a1).toNatClampNeg)))) (ob := True ∧ jKd T0 54 = 8 ∧ True ∧ True ∧ jKd T0 54 = 8 ∧ True ∧ True ∧ jKd T0 54 = 8 ∧ True ∧ True ∧ True ∧ (jKd T0 62 = 9 ∧ vp_in ((36 * (M 54 20)) + a1) 360) ∧ (jKd T0 57 = 9 ∧ vp_in a1 36) ∧ True) rfl ⟨trivial, rfl, trivial, trivial, rfl, trivial, trivial, rfl, trivial, trivial, trivial, ⟨rfl, o1⟩, ⟨rfl, o2⟩, trivial⟩ ?_
    refine jRun.nm (fun M1 eM1 => ?_)
    have h := h M1 eM1
    refine jRun.cut (k := jk_X8_undo) rfl 2 (c' := (27, [.ref 54, .int (a1 + 1)], [], M1)) (ob := True ∧ True ∧ True) rfl ⟨trivial, trivial, trivial⟩ ?_
    exact h
theorem v_X8_layOut {X : jX} {d : Nat} (hI : jInj X T0) (a1 : Int32) (M : jMem) (Q : Option Value → jMem → Prop) (h : (∀ M1, M1 = jP M 54 30 a1 → jRun X T0 (d + 1) q_X8_layOut (15, [.ref 54, .int a1, .int 0, .int 0, .int 0, .int 0], [], M1) Q)) : jOk X T0 (d + 1) q_X8_layOut [.ref 54, .int a1] M Q := by
  refine jOk.intro (ml := 6) (ls := [.ref 54, .int a1, .null, .null, .null, .null]) (jTl (by decide)) rfl (Nat.le_of_ble_eq_true rfl) rfl hI ?_
  refine jRun.cut (k := jk_X8_layOut) rfl 3 (c' := (5, [.ref 54, .int a1, .null, .null, .null, .null], [], (jP M 54 30 a1))) (ob := True ∧ True ∧ jKd T0 54 = 8 ∧ True) rfl ⟨trivial, trivial, rfl, trivial⟩ ?_
  refine jRun.nm (fun M1 eM1 => ?_)
  have h := h M1 eM1
  refine jRun.cut (k := jk_X8_layOut) rfl 8 (c' := (15, [.ref 54, .int a1, .int 0, .int 0, .int 0, .int 0], [], M1)) (ob := True ∧ True ∧ True ∧ True ∧ True ∧ True ∧ True ∧ True ∧ True) rfl ⟨trivial, trivial, trivial, trivial, trivial, trivial, trivial, trivial, trivial⟩ ?_
  exact h
theorem v_X8_layOut_15 {X : jX} {d : Nat} (a1 : Int32) (a2 : Int32) (a3 : Int32) (a4 : Int32) (a5 : Int32) (M : jMem) (Q : Option Value → jMem → Prop) (h : (((M 54 7) ≤ a5 → vp_in (M 54 7) 33 ∧ (∀ M1, M1 = jP M 69 ((M 54 7).toNatClampNeg) a2 → Q none M1)) ∧ (¬ (M 54 7) ≤ a5 → vp_in a5 33 ∧ (∀ M2, M2 = jP M 69 a5.toNatClampNeg a2 → vp_in a5 32 ∧ (((M2 56 a5.toNatClampNeg) = 0 → vp_in a5 36 ∧ jRun X T0 (d + 1) q_X8_layOut (172, [.ref 54, .int a1, .int (a2 + (M2 57 a5.toNatClampNeg)), .int a3, .int a4, .int a5], [], M2) Q) ∧ (¬ (M2 56 a5.toNatClampNeg) = 0 → (((M2 56 a5.toNatClampNeg) = 1 → jRun X T0 (d + 1) q_X8_layOut (172, [.ref 54, .int a1, .int a2, .int a3, .int a4, .int a5], [], M2) Q) ∧ (¬ (M2 56 a5.toNatClampNeg) = 1 → (((M2 56 a5.toNatClampNeg) = 2 → jOk X T0 d q_X8_has [.int a1, .int a3] M2 (fun v M3 => ∃ r1, v = some (.int r1) ∧ ((r1 = 0 → jRun X T0 (d + 1) q_X8_layOut (103, [.ref 54, .int a1, .int a2, .int a3, .int a4, .int a5], [.int 2, .int a2], M3) Q) ∧ (¬ r1 = 0 → jRun X T0 (d + 1) q_X8_layOut (103, [.ref 54, .int a1, .int a2, .int a3, .int a4, .int a5], [.int 5, .int a2], M3) Q)))) ∧ (¬ (M2 56 a5.toNatClampNeg) = 2 → (((M2 56 a5.toNatClampNeg) = 3 → vp_in a5 36 ∧ ¬ (M2 57 a5.toNatClampNeg) = 0 ∧ jRun X T0 (d + 1) q_X8_layOut (172, [.ref 54, .int a1, .int (a2 + (((M2 57 a5.toNatClampNeg) - (a2 - a2 / (M2 57 a5.toNatClampNeg) * (M2 57 a5.toNatClampNeg))) - ((M2 57 a5.toNatClampNeg) - (a2 - a2 / (M2 57 a5.toNatClampNeg) * (M2 57 a5.toNatClampNeg))) / (M2 57 a5.toNatClampNeg) * (M2 57 a5.toNatClampNeg))), .int a3, .int a4, .int a5], [], M2) Q) ∧ (¬ (M2 56 a5.toNatClampNeg) = 3 → (((M2 56 a5.toNatClampNeg) = 4 → jRun X T0 (d + 1) q_X8_layOut (172, [.ref 54, .int a1, .int (a2 + 2), .int a3, .int a4, .int a5], [], M2) Q) ∧ (¬ (M2 56 a5.toNatClampNeg) = 4 → (((M2 56 a5.toNatClampNeg) = 5 → vp_in (33 + a4) 36 ∧ jOk X T0 d q_X8_bits [.int (M2 57 (33 + a4).toNatClampNeg)] M2 (fun v M4 => ∃ r2, v = some (.int r2) ∧ jRun X T0 (d + 1) q_X8_layOut (172, [.ref 54, .int a1, .int (a2 + (5 * r2)), .int a3, .int (a4 + 1), .int a5], [], M4) Q)) ∧ (¬ (M2 56 a5.toNatClampNeg) = 5 → jRun X T0 (d + 1) q_X8_layOut (172, [.ref 54, .int a1, .int a2, .int a3, .int a4, .int a5], [], M2) Q)))))))))))))))) : jRun X T0 (d + 1) q_X8_layOut (15, [.ref 54, .int a1, .int a2, .int a3, .int a4, .int a5], [], M) Q := by
  refine jRun.cut (k := jk_X8_layOut) rfl 4 (c' := (if (M 54 7) ≤ a5 then 178 else 24, [.ref 54, .int a1, .int a2, .int a3, .int a4, .int a5], [], M)) (ob := True ∧ True ∧ jKd T0 54 = 8 ∧ True ∧ True) rfl ⟨trivial, trivial, rfl, trivial, trivial⟩ ?_
  refine jRun.br (fun g => ?_) (fun g => ?_)
  · have h := h.1 g
    obtain ⟨o1, h⟩ := h
    refine jRun.cut (k := jk_X8_layOut) rfl 6 (c' := (188, [.ref 54, .int a1, .int a2, .int a3, .int a4, .int a5], [], (jP M 69 ((M 54 7).toNatClampNeg) a2))) (ob := True ∧ jKd T0 54 = 8 ∧ True ∧ jKd T0 54 = 8 ∧ True ∧ (jKd T0 69 = 9 ∧ vp_in (M 54 7) 33) ∧ True) rfl ⟨trivial, rfl, trivial, rfl, trivial, ⟨rfl, o1⟩, trivial⟩ ?_
    refine jRun.nm (fun M1 eM1 => ?_)
    have h := h M1 eM1
    exact jRun.ret (k := jk_X8_layOut) rfl 1 (v := none) (M1 := M1) (ob := True) rfl trivial h
  · have h := h.2 g
    obtain ⟨o2, h⟩ := h
    refine jRun.cut (k := jk_X8_layOut) rfl 5 (c' := (32, [.ref 54, .int a1, .int a2, .int a3, .int a4, .int a5], [], (jP M 69 a5.toNatClampNeg a2))) (ob := True ∧ jKd T0 54 = 8 ∧ True ∧ True ∧ (jKd T0 69 = 9 ∧ vp_in a5 33) ∧ True) rfl ⟨trivial, rfl, trivial, trivial, ⟨rfl, o2⟩, trivial⟩ ?_
    refine jRun.nm (fun M2 eM2 => ?_)
    have h := h M2 eM2
    obtain ⟨o3, h⟩ := h
    refine jRun.cut (k := jk_X8_layOut) rfl 5 (c' := (if (M2 56 a5.toNatClampNeg) = 0 then 76 else if (M2 56 a5.toNatClampNeg) = 1 then 172 else if (M2 56 a5.toNatClampNeg) = 2 then 89 else if (M2 56 a5.toNatClampNeg) = 3 then 111 else if (M2 56 a5.toNatClampNeg) = 4 then 142 else if (M2 56 a5.toNatClampNeg) = 5 then 148 else 172, [.ref 54, .int a1, .int a2, .int a3, .int a4, .int a5], [], M2)) (ob := True ∧ jKd T0 54 = 8 ∧ True ∧ (jKd T0 56 = 9 ∧ vp_in a5 32) ∧ True ∧ True) rfl ⟨trivial, rfl, trivial, ⟨rfl, o3⟩, trivial, trivial⟩ ?_
    refine jRun.br (fun g => ?_) (fun g => ?_)
    · have h := h.1 g
      obtain ⟨o4, h⟩ := h
      refine jRun.cut (k := jk_X8_layOut) rfl 8 (c' := (172, [.ref 54, .int a1, .int (a2 + (M2 57 a5.toNatClampNeg)), .int a3, .int a4, .int a5], [], M2)) (ob := True ∧ True ∧ jKd T0 54 = 8 ∧ True ∧ (jKd T0 57 = 9 ∧ vp_in a5 36) ∧ True ∧ True ∧ True ∧ True) rfl ⟨trivial, trivial, rfl, trivial, ⟨rfl, o4⟩, trivial, trivial, trivial, trivial⟩ ?_
      exact h
    · have h := h.2 g
      refine jRun.br (fun g => ?_) (fun g => ?_)
      · have h := h.1 g
        exact h
      · have h := h.2 g
        refine jRun.br (fun g => ?_) (fun g => ?_)
        · have h := h.1 g
          refine jRun.call (k := jk_X8_layOut) rfl 4 (f := q_X8_has) (As := [.int a1, .int a3]) (c1 := (95, [.ref 54, .int a1, .int a2, .int a3, .int a4, .int a5], [.int a2], M2)) (ob := True ∧ True ∧ True ∧ True) rfl ⟨trivial, trivial, trivial, trivial⟩ h (fun v M3 h => ?_)
          obtain ⟨r1, rfl, h⟩ := h
          show jRun X T0 (d + 1) q_X8_layOut (95, [.ref 54, .int a1, .int a2, .int a3, .int a4, .int a5], [.int r1, .int a2], M3) Q
          refine jRun.cut (k := jk_X8_layOut) rfl 1 (c' := (if r1 = 0 then 102 else 98, [.ref 54, .int a1, .int a2, .int a3, .int a4, .int a5], [.int a2], M3)) (ob := True ∧ True) rfl ⟨trivial, trivial⟩ ?_
          refine jRun.br (fun g => ?_) (fun g => ?_)
          · have h := h.1 g
            refine jRun.cut (k := jk_X8_layOut) rfl 1 (c' := (103, [.ref 54, .int a1, .int a2, .int a3, .int a4, .int a5], [.int 2, .int a2], M3)) (ob := True ∧ True) rfl ⟨trivial, trivial⟩ ?_
            exact h
          · have h := h.2 g
            refine jRun.cut (k := jk_X8_layOut) rfl 2 (c' := (103, [.ref 54, .int a1, .int a2, .int a3, .int a4, .int a5], [.int 5, .int a2], M3)) (ob := True ∧ True ∧ True) rfl ⟨trivial, trivial, trivial⟩ ?_
            exact h
        · have h := h.2 g
          refine jRun.br (fun g => ?_) (fun g => ?_)
          · have h := h.1 g
            obtain ⟨o5, o6, h⟩ := h
            refine jRun.cut (k := jk_X8_layOut) rfl 20 (c' := (172, [.ref 54, .int a1, .int (a2 + (((M2 57 a5.toNatClampNeg) - (a2 - a2 / (M2 57 a5.toNatClampNeg) * (M2 57 a5.toNatClampNeg))) - ((M2 57 a5.toNatClampNeg) - (a2 - a2 / (M2 57 a5.toNatClampNeg) * (M2 57 a5.toNatClampNeg))) / (M2 57 a5.toNatClampNeg) * (M2 57 a5.toNatClampNeg))), .int a3, .int a4, .int a5], [], M2)) (ob := True ∧ True ∧ jKd T0 54 = 8 ∧ True ∧ (jKd T0 57 = 9 ∧ vp_in a5 36) ∧ True ∧ True ∧ jKd T0 54 = 8 ∧ True ∧ (jKd T0 57 = 9 ∧ vp_in a5 36) ∧ ¬ (M2 57 a5.toNatClampNeg) = 0 ∧ True ∧ True ∧ jKd T0 54 = 8 ∧ True ∧ (jKd T0 57 = 9 ∧ vp_in a5 36) ∧ ¬ (M2 57 a5.toNatClampNeg) = 0 ∧ True ∧ True ∧ True ∧ True) rfl ⟨trivial, trivial, rfl, trivial, ⟨rfl, o5⟩, trivial, trivial, rfl, trivial, ⟨rfl, o5⟩, o6, trivial, trivial, rfl, trivial, ⟨rfl, o5⟩, o6, trivial, trivial, trivial, trivial⟩ ?_
            exact h
          · have h := h.2 g
            refine jRun.br (fun g => ?_) (fun g => ?_)
            · have h := h.1 g
              refine jRun.cut (k := jk_X8_layOut) rfl 2 (c' := (172, [.ref 54, .int a1, .int (a2 + 2), .int a3, .int a4, .int a5], [], M2)) (ob := True ∧ True ∧ True) rfl ⟨trivial, trivial, trivial⟩ ?_
              exact h
            · have h := h.2 g
              refine jRun.br (fun g => ?_) (fun g => ?_)
              · have h := h.1 g
                obtain ⟨o7, h⟩ := h
                refine jRun.call (k := jk_X8_layOut) rfl 9 (f := q_X8_bits) (As := [.int (M2 57 (33 + a4).toNatClampNeg)]) (c1 := (163, [.ref 54, .int a1, .int a2, .int a3, .int a4, .int a5], [.int 5, .int a2], M2)) (ob := True ∧ True ∧ True ∧ jKd T0 54 = 8 ∧ True ∧ True ∧ True ∧ (jKd T0 57 = 9 ∧ vp_in (33 + a4) 36) ∧ True) rfl ⟨trivial, trivial, trivial, rfl, trivial, trivial, trivial, ⟨rfl, o7⟩, trivial⟩ h (fun v M4 h => ?_)
                obtain ⟨r2, rfl, h⟩ := h
                show jRun X T0 (d + 1) q_X8_layOut (163, [.ref 54, .int a1, .int a2, .int a3, .int a4, .int a5], [.int r2, .int 5, .int a2], M4) Q
                refine jRun.cut (k := jk_X8_layOut) rfl 5 (c' := (172, [.ref 54, .int a1, .int (a2 + (5 * r2)), .int a3, .int (a4 + 1), .int a5], [], M4)) (ob := True ∧ True ∧ True ∧ True ∧ True ∧ True) rfl ⟨trivial, trivial, trivial, trivial, trivial, trivial⟩ ?_
                exact h
              · have h := h.2 g
                exact h
theorem v_X8_layOut_103 {X : jX} {d : Nat} (a1 : Int32) (a2 : Int32) (a3 : Int32) (a4 : Int32) (a5 : Int32) (s0 : Int32) (s1 : Int32) (M : jMem) (Q : Option Value → jMem → Prop) (h : jRun X T0 (d + 1) q_X8_layOut (172, [.ref 54, .int a1, .int (s1 + s0), .int (a3 + 1), .int a4, .int a5], [], M) Q) : jRun X T0 (d + 1) q_X8_layOut (103, [.ref 54, .int a1, .int a2, .int a3, .int a4, .int a5], [.int s0, .int s1], M) Q := by
  refine jRun.cut (k := jk_X8_layOut) rfl 4 (c' := (172, [.ref 54, .int a1, .int (s1 + s0), .int (a3 + 1), .int a4, .int a5], [], M)) (ob := True ∧ True ∧ True ∧ True ∧ True) rfl ⟨trivial, trivial, trivial, trivial, trivial⟩ ?_
  exact h
theorem v_X8_layOut_172 {X : jX} {d : Nat} (a1 : Int32) (a2 : Int32) (a3 : Int32) (a4 : Int32) (a5 : Int32) (M : jMem) (Q : Option Value → jMem → Prop) (h : jRun X T0 (d + 1) q_X8_layOut (15, [.ref 54, .int a1, .int a2, .int a3, .int a4, .int (a5 + 1)], [], M) Q) : jRun X T0 (d + 1) q_X8_layOut (172, [.ref 54, .int a1, .int a2, .int a3, .int a4, .int a5], [], M) Q := by
  refine jRun.cut (k := jk_X8_layOut) rfl 2 (c' := (15, [.ref 54, .int a1, .int a2, .int a3, .int a4, .int (a5 + 1)], [], M)) (ob := True ∧ True ∧ True) rfl ⟨trivial, trivial, trivial⟩ ?_
  exact h
theorem v_X8_farOf {X : jX} {d : Nat} (hI : jInj X T0) (a1 : Int32) (M : jMem) (Q : Option Value → jMem → Prop) (h : vp_in a1 36 ∧ vp_in (M 57 a1.toNatClampNeg) 8 ∧ vp_in (M 61 (M 57 a1.toNatClampNeg).toNatClampNeg) 33 ∧ vp_in (a1 + 1) 33 ∧ Q (some (.int ((M 69 (M 61 (M 57 a1.toNatClampNeg).toNatClampNeg).toNatClampNeg) - (M 69 (a1 + 1).toNatClampNeg)))) M) : jOk X T0 d q_X8_farOf [.ref 54, .int a1] M Q := by
  refine jOk.intro (ml := 2) (ls := [.ref 54, .int a1]) (jTl (by decide)) rfl (Nat.le_of_ble_eq_true rfl) rfl hI ?_
  obtain ⟨o1, o2, o3, o4, h⟩ := h
  exact jRun.ret (k := jk_X8_farOf) rfl 18 (v := some (.int ((M 69 (M 61 (M 57 a1.toNatClampNeg).toNatClampNeg).toNatClampNeg) - (M 69 (a1 + 1).toNatClampNeg)))) (M1 := M) (ob := True ∧ jKd T0 54 = 8 ∧ True ∧ jKd T0 54 = 8 ∧ True ∧ jKd T0 54 = 8 ∧ True ∧ (jKd T0 57 = 9 ∧ vp_in a1 36) ∧ (jKd T0 61 = 9 ∧ vp_in (M 57 a1.toNatClampNeg) 8) ∧ (jKd T0 69 = 9 ∧ vp_in (M 61 (M 57 a1.toNatClampNeg).toNatClampNeg) 33) ∧ True ∧ jKd T0 54 = 8 ∧ True ∧ True ∧ True ∧ (jKd T0 69 = 9 ∧ vp_in (a1 + 1) 33) ∧ True ∧ True) rfl ⟨trivial, rfl, trivial, rfl, trivial, rfl, trivial, ⟨rfl, o1⟩, ⟨rfl, o2⟩, ⟨rfl, o3⟩, trivial, rfl, trivial, trivial, trivial, ⟨rfl, o4⟩, trivial, trivial⟩ h
