theorem v_X7_type {X : jX} {d : Nat} (hI : jInj X T0) (a1 : Int32) (M : jMem) (Q : Option Value → jMem → Prop) (h : ((a1 < 0 → Q (some (.int (-1))) M) ∧ (¬ a1 < 0 → ((a1 ≤ 255 → (((M 1 1) < 150 → jOk X T0 d q_X6_take [.ref 1, .int a1] M (fun v M1 => v = none ∧ Q (some (.int (M1 1 1))) M1)) ∧ (¬ (M 1 1) < 150 → Q (some (.int (-3))) M))) ∧ (¬ a1 ≤ 255 → Q (some (.int (-1))) M))))) : jOk X T0 (d + 1) q_X7_type [.ref 0, .int a1] M Q := by
  refine jOk.intro (ml := 2) (ls := [.ref 0, .int a1]) (jTl (by decide)) rfl (Nat.le_of_ble_eq_true rfl) rfl hI ?_
  refine jRun.cut (k := jk_X7_type) rfl 2 (c' := (if a1 < 0 then 11 else 4, [.ref 0, .int a1], [], M)) (ob := True ∧ True ∧ True) rfl ⟨trivial, trivial, trivial⟩ ?_
  refine jRun.br (fun g => ?_) (fun g => ?_)
  · have h := h.1 g
    exact jRun.ret (k := jk_X7_type) rfl 2 (v := some (.int (-1))) (M1 := M) (ob := True ∧ True) rfl ⟨trivial, trivial⟩ h
  · have h := h.2 g
    refine jRun.cut (k := jk_X7_type) rfl 3 (c' := (if a1 ≤ 255 then 13 else 11, [.ref 0, .int a1], [], M)) (ob := True ∧ True ∧ True ∧ True) rfl ⟨trivial, trivial, trivial, trivial⟩ ?_
    refine jRun.br (fun g => ?_) (fun g => ?_)
    · have h := h.1 g
      refine jRun.cut (k := jk_X7_type) rfl 5 (c' := (if (M 1 1) < 150 then 29 else 26, [.ref 0, .int a1], [], M)) (ob := True ∧ jKd T0 0 = 7 ∧ jKd T0 1 = 6 ∧ True ∧ True ∧ True) rfl ⟨trivial, rfl, rfl, trivial, trivial, trivial⟩ ?_
      refine jRun.br (fun g => ?_) (fun g => ?_)
      · have h := h.1 g
        refine jRun.call (k := jk_X7_type) rfl 4 (f := q_X6_take) (As := [.ref 1, .int a1]) (c1 := (37, [.ref 0, .int a1], [], M)) (ob := True ∧ jKd T0 0 = 7 ∧ True ∧ jKd T0 1 = 6) rfl ⟨trivial, rfl, trivial, rfl⟩ h (fun v M1 h => ?_)
        obtain ⟨rfl, h⟩ := h
        show jRun X T0 (d + 1) q_X7_type (37, [.ref 0, .int a1], [], M1) Q
        exact jRun.ret (k := jk_X7_type) rfl 4 (v := some (.int (M1 1 1))) (M1 := M1) (ob := True ∧ jKd T0 0 = 7 ∧ jKd T0 1 = 6 ∧ True) rfl ⟨trivial, rfl, rfl, trivial⟩ h
      · have h := h.2 g
        exact jRun.ret (k := jk_X7_type) rfl 2 (v := some (.int (-3))) (M1 := M) (ob := True ∧ True) rfl ⟨trivial, trivial⟩ h
    · have h := h.2 g
      exact jRun.ret (k := jk_X7_type) rfl 2 (v := some (.int (-1))) (M1 := M) (ob := True ∧ True) rfl ⟨trivial, trivial⟩ h
theorem v_X7_clear {X : jX} {d : Nat} (hI : jInj X T0)  (M : jMem) (Q : Option Value → jMem → Prop) (h : (∀ M1, M1 = jP M 1 1 0 → Q (some (.int (M 1 1))) M1)) : jOk X T0 d q_X7_clear [.ref 0] M Q := by
  refine jOk.intro (ml := 2) (ls := [.ref 0, .null]) (jTl (by decide)) rfl (Nat.le_of_ble_eq_true rfl) rfl hI ?_
  refine jRun.cut (k := jk_X7_clear) rfl 8 (c' := (16, [.ref 0, .int (M 1 1)], [], (jP M 1 1 0))) (ob := True ∧ jKd T0 0 = 7 ∧ jKd T0 1 = 6 ∧ True ∧ True ∧ jKd T0 0 = 7 ∧ True ∧ jKd T0 1 = 6 ∧ True) rfl ⟨trivial, rfl, rfl, trivial, trivial, rfl, trivial, rfl, trivial⟩ ?_
  refine jRun.nm (fun M1 eM1 => ?_)
  have h := h M1 eM1
  exact jRun.ret (k := jk_X7_clear) rfl 2 (v := some (.int (M 1 1))) (M1 := M1) (ob := True ∧ True) rfl ⟨trivial, trivial⟩ h
theorem v_X7_source {X : jX} {d : Nat} (hI : jInj X T0)  (M : jMem) (Q : Option Value → jMem → Prop) (h : jOk X T0 d q_X3_readFrom [.ref 3, .ref 1] M (fun v M1 => ∃ r1, v = some (.int r1) ∧ ((r1 < 0 → jOk X T0 d q_X3_becomeAs [.ref 12, .ref 3] M1 (fun v M2 => v = none ∧ jOk X T0 d q_X5_startAs [.ref 22, .ref 12] M2 (fun v M3 => v = none ∧ (∀ M4, M4 = jP M3 24 3 0 → (∀ M5, M5 = jP M4 28 2 0 → (∀ M6, M6 = jP M5 35 2 0 → (∀ M7, M7 = jP M6 1 1 0 → (∀ M8, M8 = jP M7 0 11 0 → Q (some (.int (M8 12 8))) M8)))))))) ∧ (¬ r1 < 0 → Q (some (.int ((-10) - r1))) M1)))) : jOk X T0 (d + 1) q_X7_source [.ref 0] M Q := by
  refine jOk.intro (ml := 2) (ls := [.ref 0, .null]) (jTl (by decide)) rfl (Nat.le_of_ble_eq_true rfl) rfl hI ?_
  refine jRun.call (k := jk_X7_source) rfl 5 (f := q_X3_readFrom) (As := [.ref 3, .ref 1]) (c1 := (11, [.ref 0, .null], [], M)) (ob := True ∧ jKd T0 0 = 7 ∧ True ∧ jKd T0 0 = 7 ∧ jKd T0 3 = 3) rfl ⟨trivial, rfl, trivial, rfl, rfl⟩ h (fun v M1 h => ?_)
  obtain ⟨r1, rfl, h⟩ := h
  show jRun X T0 (d + 1) q_X7_source (11, [.ref 0, .null], [.int r1], M1) Q
  refine jRun.cut (k := jk_X7_source) rfl 3 (c' := (if r1 < 0 then 21 else 16, [.ref 0, .int r1], [], M1)) (ob := True ∧ True ∧ True ∧ True) rfl ⟨trivial, trivial, trivial, trivial⟩ ?_
  refine jRun.br (fun g => ?_) (fun g => ?_)
  · have h := h.1 g
    refine jRun.call (k := jk_X7_source) rfl 5 (f := q_X3_becomeAs) (As := [.ref 12, .ref 3]) (c1 := (32, [.ref 0, .int r1], [], M1)) (ob := True ∧ jKd T0 0 = 7 ∧ True ∧ jKd T0 0 = 7 ∧ jKd T0 12 = 3) rfl ⟨trivial, rfl, trivial, rfl, rfl⟩ h (fun v M2 h => ?_)
    obtain ⟨rfl, h⟩ := h
    show jRun X T0 (d + 1) q_X7_source (32, [.ref 0, .int r1], [], M2) Q
    refine jRun.call (k := jk_X7_source) rfl 6 (f := q_X5_startAs) (As := [.ref 22, .ref 12]) (c1 := (46, [.ref 0, .int r1], [], M2)) (ob := True ∧ jKd T0 0 = 7 ∧ jKd T0 21 = 0 ∧ True ∧ jKd T0 0 = 7 ∧ jKd T0 22 = 5) rfl ⟨trivial, rfl, rfl, trivial, rfl, rfl⟩ h (fun v M3 h => ?_)
    obtain ⟨rfl, h⟩ := h
    show jRun X T0 (d + 1) q_X7_source (46, [.ref 0, .int r1], [], M3) Q
    refine jRun.cut (k := jk_X7_source) rfl 5 (c' := (57, [.ref 0, .int r1], [], (jP M3 24 3 0))) (ob := True ∧ jKd T0 0 = 7 ∧ jKd T0 21 = 0 ∧ True ∧ jKd T0 24 = 2 ∧ True) rfl ⟨trivial, rfl, rfl, trivial, rfl, trivial⟩ ?_
    refine jRun.nm (fun M4 eM4 => ?_)
    have h := h M4 eM4
    refine jRun.cut (k := jk_X7_source) rfl 4 (c' := (65, [.ref 0, .int r1], [], (jP M4 28 2 0))) (ob := True ∧ jKd T0 0 = 7 ∧ True ∧ (jKd T0 28 = 0 ∧ (0 = 0 ∨ 0 = 1)) ∧ True) rfl ⟨trivial, rfl, trivial, ⟨rfl, (Or.inl rfl)⟩, trivial⟩ ?_
    refine jRun.nm (fun M5 eM5 => ?_)
    have h := h M5 eM5
    refine jRun.cut (k := jk_X7_source) rfl 4 (c' := (73, [.ref 0, .int r1], [], (jP M5 35 2 0))) (ob := True ∧ jKd T0 0 = 7 ∧ True ∧ (jKd T0 35 = 0 ∧ (0 = 0 ∨ 0 = 1)) ∧ True) rfl ⟨trivial, rfl, trivial, ⟨rfl, (Or.inl rfl)⟩, trivial⟩ ?_
    refine jRun.nm (fun M6 eM6 => ?_)
    have h := h M6 eM6
    refine jRun.cut (k := jk_X7_source) rfl 4 (c' := (81, [.ref 0, .int r1], [], (jP M6 1 1 0))) (ob := True ∧ jKd T0 0 = 7 ∧ True ∧ jKd T0 1 = 6 ∧ True) rfl ⟨trivial, rfl, trivial, rfl, trivial⟩ ?_
    refine jRun.nm (fun M7 eM7 => ?_)
    have h := h M7 eM7
    refine jRun.cut (k := jk_X7_source) rfl 3 (c' := (86, [.ref 0, .int r1], [], (jP M7 0 11 0))) (ob := True ∧ True ∧ jKd T0 0 = 7 ∧ True) rfl ⟨trivial, trivial, rfl, trivial⟩ ?_
    refine jRun.nm (fun M8 eM8 => ?_)
    have h := h M8 eM8
    exact jRun.ret (k := jk_X7_source) rfl 4 (v := some (.int (M8 12 8))) (M1 := M8) (ob := True ∧ jKd T0 0 = 7 ∧ jKd T0 12 = 3 ∧ True) rfl ⟨trivial, rfl, rfl, trivial⟩ h
  · have h := h.2 g
    exact jRun.ret (k := jk_X7_source) rfl 4 (v := some (.int ((-10) - r1))) (M1 := M1) (ob := True ∧ True ∧ True ∧ True) rfl ⟨trivial, trivial, trivial, trivial⟩ h
theorem v_X7_item {X : jX} {d : Nat} (hI : jInj X T0) (a1 : Int32) (a2 : Int32) (M : jMem) (Q : Option Value → jMem → Prop) (h : jOk X T0 d q_X3_hasItem [.ref 12, .int a1] M (fun v M1 => ∃ r1, v = some (.int r1) ∧ ((¬ r1 = 0 → ((a2 = 0 → vp_in a1 32 ∧ Q (some (.int (M1 13 a1.toNatClampNeg))) M1) ∧ (¬ a2 = 0 → ((a2 = 1 → jOk X T0 d q_X7_valueNow [.ref 0, .int a1] M1 (fun v M2 => ∃ r2, v = some (.int r2) ∧ Q (some (.int r2)) M2)) ∧ (¬ a2 = 1 → ((a2 = 2 → vp_in a1 32 ∧ ((¬ (M1 13 a1.toNatClampNeg) = 2 → Q (some (.int 0)) M1) ∧ ((M1 13 a1.toNatClampNeg) = 2 → Q (some (.int (((M1 22 1) >>> ((M1 15 a1.toNatClampNeg) &&& 31)) &&& 1))) M1))) ∧ (¬ a2 = 2 → Q (some (.int (-1))) M1))))))) ∧ (r1 = 0 → Q (some (.int (-1))) M1)))) : jOk X T0 (d + 1) q_X7_item [.ref 0, .int a1, .int a2] M Q := by
  refine jOk.intro (ml := 3) (ls := [.ref 0, .int a1, .int a2]) (jTl (by decide)) rfl (Nat.le_of_ble_eq_true rfl) rfl hI ?_
  refine jRun.call (k := jk_X7_item) rfl 4 (f := q_X3_hasItem) (As := [.ref 12, .int a1]) (c1 := (8, [.ref 0, .int a1, .int a2], [], M)) (ob := True ∧ jKd T0 0 = 7 ∧ True ∧ jKd T0 12 = 3) rfl ⟨trivial, rfl, trivial, rfl⟩ h (fun v M1 h => ?_)
  obtain ⟨r1, rfl, h⟩ := h
  show jRun X T0 (d + 1) q_X7_item (8, [.ref 0, .int a1, .int a2], [.int r1], M1) Q
  refine jRun.cut (k := jk_X7_item) rfl 1 (c' := (if ¬ r1 = 0 then 13 else 11, [.ref 0, .int a1, .int a2], [], M1)) (ob := True ∧ True) rfl ⟨trivial, trivial⟩ ?_
  refine jRun.brn (fun g => ?_) (fun g => ?_)
  · have h := h.1 g
    refine jRun.cut (k := jk_X7_item) rfl 2 (c' := (if a2 = 0 then 40 else if a2 = 1 then 50 else if a2 = 2 then 56 else 96, [.ref 0, .int a1, .int a2], [], M1)) (ob := True ∧ True ∧ True) rfl ⟨trivial, trivial, trivial⟩ ?_
    refine jRun.br (fun g => ?_) (fun g => ?_)
    · have h := h.1 g
      obtain ⟨o1, h⟩ := h
      exact jRun.ret (k := jk_X7_item) rfl 6 (v := some (.int (M1 13 a1.toNatClampNeg))) (M1 := M1) (ob := True ∧ jKd T0 0 = 7 ∧ jKd T0 12 = 3 ∧ True ∧ (jKd T0 13 = 9 ∧ vp_in a1 32) ∧ True) rfl ⟨trivial, rfl, rfl, trivial, ⟨rfl, o1⟩, trivial⟩ h
    · have h := h.2 g
      refine jRun.br (fun g => ?_) (fun g => ?_)
      · have h := h.1 g
        refine jRun.call (k := jk_X7_item) rfl 3 (f := q_X7_valueNow) (As := [.ref 0, .int a1]) (c1 := (55, [.ref 0, .int a1, .int a2], [], M1)) (ob := True ∧ True ∧ jKd T0 0 = 7) rfl ⟨trivial, trivial, rfl⟩ h (fun v M2 h => ?_)
        obtain ⟨r2, rfl, h⟩ := h
        show jRun X T0 (d + 1) q_X7_item (55, [.ref 0, .int a1, .int a2], [.int r2], M2) Q
        exact jRun.ret (k := jk_X7_item) rfl 1 (v := some (.int r2)) (M1 := M2) (ob := True) rfl trivial h
      · have h := h.2 g
        refine jRun.br (fun g => ?_) (fun g => ?_)
        · have h := h.1 g
          obtain ⟨o2, h⟩ := h
          refine jRun.cut (k := jk_X7_item) rfl 7 (c' := (if ¬ (M1 13 a1.toNatClampNeg) = 2 then 94 else 69, [.ref 0, .int a1, .int a2], [], M1)) (ob := True ∧ jKd T0 0 = 7 ∧ jKd T0 12 = 3 ∧ True ∧ (jKd T0 13 = 9 ∧ vp_in a1 32) ∧ True ∧ True ∧ True) rfl ⟨trivial, rfl, rfl, trivial, ⟨rfl, o2⟩, trivial, trivial, trivial⟩ ?_
          refine jRun.brn (fun g => ?_) (fun g => ?_)
          · have h := h.1 g
            exact jRun.ret (k := jk_X7_item) rfl 2 (v := some (.int 0)) (M1 := M1) (ob := True ∧ True) rfl ⟨trivial, trivial⟩ h
          · have h := h.2 g
            exact jRun.ret (k := jk_X7_item) rfl 14 (v := some (.int (((M1 22 1) >>> ((M1 15 a1.toNatClampNeg) &&& 31)) &&& 1))) (M1 := M1) (ob := True ∧ jKd T0 0 = 7 ∧ jKd T0 21 = 0 ∧ jKd T0 22 = 5 ∧ True ∧ jKd T0 0 = 7 ∧ jKd T0 12 = 3 ∧ True ∧ (jKd T0 15 = 9 ∧ vp_in a1 32) ∧ True ∧ True ∧ True ∧ True ∧ True) rfl ⟨trivial, rfl, rfl, rfl, trivial, rfl, rfl, trivial, ⟨rfl, o2⟩, trivial, trivial, trivial, trivial, trivial⟩ h
        · have h := h.2 g
          exact jRun.ret (k := jk_X7_item) rfl 2 (v := some (.int (-1))) (M1 := M1) (ob := True ∧ True) rfl ⟨trivial, trivial⟩ h
  · have h := h.2 g
    exact jRun.ret (k := jk_X7_item) rfl 2 (v := some (.int (-1))) (M1 := M1) (ob := True ∧ True) rfl ⟨trivial, trivial⟩ h
theorem v_X7_sizes {X : jX} {d : Nat} (hI : jInj X T0) (a1 : Int32) (a2 : Int32) (M : jMem) (Q : Option Value → jMem → Prop) (h : jOk X T0 d q_X3_isOf [.ref 12, .int a1, .int 0] M (fun v M1 => ∃ r1, v = some (.int r1) ∧ ((r1 = 0 → Q (some (.int (-1))) M1) ∧ (¬ r1 = 0 → ((a2 < 1 → Q (some (.int (-1))) M1) ∧ (¬ a2 < 1 → ((a2 ≤ 60 → vp_in a1 32 ∧ ((¬ (M1 23 a1.toNatClampNeg) = a2 → jOk X T0 d q_X2_remember [.ref 24, .int 0, .int a1, .int (M1 23 a1.toNatClampNeg)] M1 (fun v M2 => v = none ∧ (∀ M3, M3 = jP M2 23 a1.toNatClampNeg a2 → (∀ M4, M4 = jP M3 0 11 0 → Q (some (.int (M1 23 a1.toNatClampNeg))) M4)))) ∧ ((M1 23 a1.toNatClampNeg) = a2 → Q (some (.int (-2))) M1))) ∧ (¬ a2 ≤ 60 → Q (some (.int (-1))) M1)))))))) : jOk X T0 (d + 1) q_X7_sizes [.ref 0, .int a1, .int a2] M Q := by
  refine jOk.intro (ml := 4) (ls := [.ref 0, .int a1, .int a2, .null]) (jTl (by decide)) rfl (Nat.le_of_ble_eq_true rfl) rfl hI ?_
  refine jRun.call (k := jk_X7_sizes) rfl 5 (f := q_X3_isOf) (As := [.ref 12, .int a1, .int 0]) (c1 := (9, [.ref 0, .int a1, .int a2, .null], [], M)) (ob := True ∧ jKd T0 0 = 7 ∧ True ∧ True ∧ jKd T0 12 = 3) rfl ⟨trivial, rfl, trivial, trivial, rfl⟩ h (fun v M1 h => ?_)
  obtain ⟨r1, rfl, h⟩ := h
  show jRun X T0 (d + 1) q_X7_sizes (9, [.ref 0, .int a1, .int a2, .null], [.int r1], M1) Q
  refine jRun.cut (k := jk_X7_sizes) rfl 1 (c' := (if r1 = 0 then 23 else 12, [.ref 0, .int a1, .int a2, .null], [], M1)) (ob := True ∧ True) rfl ⟨trivial, trivial⟩ ?_
  refine jRun.br (fun g => ?_) (fun g => ?_)
  · have h := h.1 g
    exact jRun.ret (k := jk_X7_sizes) rfl 2 (v := some (.int (-1))) (M1 := M1) (ob := True ∧ True) rfl ⟨trivial, trivial⟩ h
  · have h := h.2 g
    refine jRun.cut (k := jk_X7_sizes) rfl 3 (c' := (if a2 < 1 then 23 else 17, [.ref 0, .int a1, .int a2, .null], [], M1)) (ob := True ∧ True ∧ True ∧ True) rfl ⟨trivial, trivial, trivial, trivial⟩ ?_
    refine jRun.br (fun g => ?_) (fun g => ?_)
    · have h := h.1 g
      exact jRun.ret (k := jk_X7_sizes) rfl 2 (v := some (.int (-1))) (M1 := M1) (ob := True ∧ True) rfl ⟨trivial, trivial⟩ h
    · have h := h.2 g
      refine jRun.cut (k := jk_X7_sizes) rfl 3 (c' := (if a2 ≤ 60 then 25 else 23, [.ref 0, .int a1, .int a2, .null], [], M1)) (ob := True ∧ True ∧ True ∧ True) rfl ⟨trivial, trivial, trivial, trivial⟩ ?_
      refine jRun.br (fun g => ?_) (fun g => ?_)
      · have h := h.1 g
        obtain ⟨o1, h⟩ := h
        refine jRun.cut (k := jk_X7_sizes) rfl 10 (c' := (if ¬ (M1 23 a1.toNatClampNeg) = a2 then 46 else 43, [.ref 0, .int a1, .int a2, .int (M1 23 a1.toNatClampNeg)], [], M1)) (ob := True ∧ jKd T0 0 = 7 ∧ jKd T0 21 = 0 ∧ jKd T0 22 = 5 ∧ True ∧ (jKd T0 23 = 9 ∧ vp_in a1 32) ∧ True ∧ True ∧ True ∧ True ∧ True) rfl ⟨trivial, rfl, rfl, rfl, trivial, ⟨rfl, o1⟩, trivial, trivial, trivial, trivial, trivial⟩ ?_
        refine jRun.brn (fun g => ?_) (fun g => ?_)
        · have h := h.1 g
          refine jRun.call (k := jk_X7_sizes) rfl 7 (f := q_X2_remember) (As := [.ref 24, .int 0, .int a1, .int (M1 23 a1.toNatClampNeg)]) (c1 := (59, [.ref 0, .int a1, .int a2, .int (M1 23 a1.toNatClampNeg)], [], M1)) (ob := True ∧ jKd T0 0 = 7 ∧ jKd T0 21 = 0 ∧ True ∧ True ∧ True ∧ jKd T0 24 = 2) rfl ⟨trivial, rfl, rfl, trivial, trivial, trivial, rfl⟩ h (fun v M2 h => ?_)
          obtain ⟨rfl, h⟩ := h
          show jRun X T0 (d + 1) q_X7_sizes (59, [.ref 0, .int a1, .int a2, .int (M1 23 a1.toNatClampNeg)], [], M2) Q
          refine jRun.cut (k := jk_X7_sizes) rfl 7 (c' := (72, [.ref 0, .int a1, .int a2, .int (M1 23 a1.toNatClampNeg)], [], (jP M2 23 a1.toNatClampNeg a2))) (ob := True ∧ jKd T0 0 = 7 ∧ jKd T0 21 = 0 ∧ jKd T0 22 = 5 ∧ True ∧ True ∧ (jKd T0 23 = 9 ∧ vp_in a1 32) ∧ True) rfl ⟨trivial, rfl, rfl, rfl, trivial, trivial, ⟨rfl, o1⟩, trivial⟩ ?_
          refine jRun.nm (fun M3 eM3 => ?_)
          have h := h M3 eM3
          refine jRun.cut (k := jk_X7_sizes) rfl 3 (c' := (77, [.ref 0, .int a1, .int a2, .int (M1 23 a1.toNatClampNeg)], [], (jP M3 0 11 0))) (ob := True ∧ True ∧ jKd T0 0 = 7 ∧ True) rfl ⟨trivial, trivial, rfl, trivial⟩ ?_
          refine jRun.nm (fun M4 eM4 => ?_)
          have h := h M4 eM4
          exact jRun.ret (k := jk_X7_sizes) rfl 2 (v := some (.int (M1 23 a1.toNatClampNeg))) (M1 := M4) (ob := True ∧ True) rfl ⟨trivial, trivial⟩ h
        · have h := h.2 g
          exact jRun.ret (k := jk_X7_sizes) rfl 2 (v := some (.int (-2))) (M1 := M1) (ob := True ∧ True) rfl ⟨trivial, trivial⟩ h
      · have h := h.2 g
        exact jRun.ret (k := jk_X7_sizes) rfl 2 (v := some (.int (-1))) (M1 := M1) (ob := True ∧ True) rfl ⟨trivial, trivial⟩ h
theorem v_X7_pins {X : jX} {d : Nat} (hI : jInj X T0) (a1 : Int32) (M : jMem) (Q : Option Value → jMem → Prop) (h : jOk X T0 d q_X3_isOf [.ref 12, .int a1, .int 2] M (fun v M1 => ∃ r1, v = some (.int r1) ∧ ((¬ r1 = 0 → vp_in a1 32 ∧ jOk X T0 d q_X2_remember [.ref 24, .int 1, .int a1, .int (M1 22 1)] M1 (fun v M2 => v = none ∧ (∀ M3, M3 = jP M2 22 1 ((M1 22 1) ^^^ (1 <<< ((M1 15 a1.toNatClampNeg) &&& 31))) → (∀ M4, M4 = jP M3 0 11 0 → Q (some (.int (((M4 22 1) >>> ((M1 15 a1.toNatClampNeg) &&& 31)) &&& 1))) M4)))) ∧ (r1 = 0 → Q (some (.int (-1))) M1)))) : jOk X T0 (d + 1) q_X7_pins [.ref 0, .int a1] M Q := by
  refine jOk.intro (ml := 4) (ls := [.ref 0, .int a1, .null, .null]) (jTl (by decide)) rfl (Nat.le_of_ble_eq_true rfl) rfl hI ?_
  refine jRun.call (k := jk_X7_pins) rfl 5 (f := q_X3_isOf) (As := [.ref 12, .int a1, .int 2]) (c1 := (9, [.ref 0, .int a1, .null, .null], [], M)) (ob := True ∧ jKd T0 0 = 7 ∧ True ∧ True ∧ jKd T0 12 = 3) rfl ⟨trivial, rfl, trivial, trivial, rfl⟩ h (fun v M1 h => ?_)
  obtain ⟨r1, rfl, h⟩ := h
  show jRun X T0 (d + 1) q_X7_pins (9, [.ref 0, .int a1, .null, .null], [.int r1], M1) Q
  refine jRun.cut (k := jk_X7_pins) rfl 1 (c' := (if ¬ r1 = 0 then 14 else 12, [.ref 0, .int a1, .null, .null], [], M1)) (ob := True ∧ True) rfl ⟨trivial, trivial⟩ ?_
  refine jRun.brn (fun g => ?_) (fun g => ?_)
  · have h := h.1 g
    obtain ⟨o1, h⟩ := h
    refine jRun.call (k := jk_X7_pins) rfl 18 (f := q_X2_remember) (As := [.ref 24, .int 1, .int a1, .int (M1 22 1)]) (c1 := (48, [.ref 0, .int a1, .int (M1 22 1), .int (M1 15 a1.toNatClampNeg)], [], M1)) (ob := True ∧ jKd T0 0 = 7 ∧ jKd T0 21 = 0 ∧ jKd T0 22 = 5 ∧ True ∧ True ∧ jKd T0 0 = 7 ∧ jKd T0 12 = 3 ∧ True ∧ (jKd T0 15 = 9 ∧ vp_in a1 32) ∧ True ∧ True ∧ jKd T0 0 = 7 ∧ jKd T0 21 = 0 ∧ True ∧ True ∧ True ∧ jKd T0 24 = 2) rfl ⟨trivial, rfl, rfl, rfl, trivial, trivial, rfl, rfl, trivial, ⟨rfl, o1⟩, trivial, trivial, rfl, rfl, trivial, trivial, trivial, rfl⟩ h (fun v M2 h => ?_)
    obtain ⟨rfl, h⟩ := h
    show jRun X T0 (d + 1) q_X7_pins (48, [.ref 0, .int a1, .int (M1 22 1), .int (M1 15 a1.toNatClampNeg)], [], M2) Q
    refine jRun.cut (k := jk_X7_pins) rfl 9 (c' := (63, [.ref 0, .int a1, .int (M1 22 1), .int (M1 15 a1.toNatClampNeg)], [], (jP M2 22 1 ((M1 22 1) ^^^ (1 <<< ((M1 15 a1.toNatClampNeg) &&& 31)))))) (ob := True ∧ jKd T0 0 = 7 ∧ jKd T0 21 = 0 ∧ True ∧ True ∧ True ∧ True ∧ True ∧ jKd T0 22 = 5 ∧ True) rfl ⟨trivial, rfl, rfl, trivial, trivial, trivial, trivial, trivial, rfl, trivial⟩ ?_
    refine jRun.nm (fun M3 eM3 => ?_)
    have h := h M3 eM3
    refine jRun.cut (k := jk_X7_pins) rfl 3 (c' := (68, [.ref 0, .int a1, .int (M1 22 1), .int (M1 15 a1.toNatClampNeg)], [], (jP M3 0 11 0))) (ob := True ∧ True ∧ jKd T0 0 = 7 ∧ True) rfl ⟨trivial, trivial, rfl, trivial⟩ ?_
    refine jRun.nm (fun M4 eM4 => ?_)
    have h := h M4 eM4
    exact jRun.ret (k := jk_X7_pins) rfl 9 (v := some (.int (((M4 22 1) >>> ((M1 15 a1.toNatClampNeg) &&& 31)) &&& 1))) (M1 := M4) (ob := True ∧ jKd T0 0 = 7 ∧ jKd T0 21 = 0 ∧ jKd T0 22 = 5 ∧ True ∧ True ∧ True ∧ True ∧ True) rfl ⟨trivial, rfl, rfl, rfl, trivial, trivial, trivial, trivial, trivial⟩ h
  · have h := h.2 g
    exact jRun.ret (k := jk_X7_pins) rfl 2 (v := some (.int (-1))) (M1 := M1) (ob := True ∧ True) rfl ⟨trivial, trivial⟩ h
theorem v_X7_places {X : jX} {d : Nat} (hI : jInj X T0) (a1 : Int32) (a2 : Int32) (M : jMem) (Q : Option Value → jMem → Prop) (h : jOk X T0 d q_X7_mayHoldIsland [.ref 0, .int a1, .int a2] M (fun v M1 => ∃ r1, v = some (.int r1) ∧ ((¬ r1 = 0 → jOk X T0 d q_X5_hasIsland [.ref 22, .int a1, .int a2] M1 (fun v M2 => ∃ r2, v = some (.int r2) ∧ ((r2 = 0 → jOk X T0 d q_X5_islandCount [.ref 22] M2 (fun v M3 => ∃ r3, v = some (.int r3) ∧ ((r3 < 6 → jOk X T0 d q_X7_turnIsland [.ref 0, .int a1, .int a2] M3 (fun v M4 => ∃ r4, v = some (.int r4) ∧ Q (some (.int r4)) M4)) ∧ (¬ r3 < 6 → Q (some (.int (-3))) M3)))) ∧ (¬ r2 = 0 → Q (some (.int (-2))) M2)))) ∧ (r1 = 0 → Q (some (.int (-1))) M1)))) : jOk X T0 (d + 1) q_X7_places [.ref 0, .int a1, .int a2] M Q := by
  refine jOk.intro (ml := 3) (ls := [.ref 0, .int a1, .int a2]) (jTl (by decide)) rfl (Nat.le_of_ble_eq_true rfl) rfl hI ?_
  refine jRun.call (k := jk_X7_places) rfl 4 (f := q_X7_mayHoldIsland) (As := [.ref 0, .int a1, .int a2]) (c1 := (6, [.ref 0, .int a1, .int a2], [], M)) (ob := True ∧ True ∧ True ∧ jKd T0 0 = 7) rfl ⟨trivial, trivial, trivial, rfl⟩ h (fun v M1 h => ?_)
  obtain ⟨r1, rfl, h⟩ := h
  show jRun X T0 (d + 1) q_X7_places (6, [.ref 0, .int a1, .int a2], [.int r1], M1) Q
  refine jRun.cut (k := jk_X7_places) rfl 1 (c' := (if ¬ r1 = 0 then 11 else 9, [.ref 0, .int a1, .int a2], [], M1)) (ob := True ∧ True) rfl ⟨trivial, trivial⟩ ?_
  refine jRun.brn (fun g => ?_) (fun g => ?_)
  · have h := h.1 g
    refine jRun.call (k := jk_X7_places) rfl 6 (f := q_X5_hasIsland) (As := [.ref 22, .int a1, .int a2]) (c1 := (23, [.ref 0, .int a1, .int a2], [], M1)) (ob := True ∧ jKd T0 0 = 7 ∧ jKd T0 21 = 0 ∧ True ∧ True ∧ jKd T0 22 = 5) rfl ⟨trivial, rfl, rfl, trivial, trivial, rfl⟩ h (fun v M2 h => ?_)
    obtain ⟨r2, rfl, h⟩ := h
    show jRun X T0 (d + 1) q_X7_places (23, [.ref 0, .int a1, .int a2], [.int r2], M2) Q
    refine jRun.cut (k := jk_X7_places) rfl 1 (c' := (if r2 = 0 then 29 else 26, [.ref 0, .int a1, .int a2], [], M2)) (ob := True ∧ True) rfl ⟨trivial, trivial⟩ ?_
    refine jRun.br (fun g => ?_) (fun g => ?_)
    · have h := h.1 g
      refine jRun.call (k := jk_X7_places) rfl 4 (f := q_X5_islandCount) (As := [.ref 22]) (c1 := (39, [.ref 0, .int a1, .int a2], [], M2)) (ob := True ∧ jKd T0 0 = 7 ∧ jKd T0 21 = 0 ∧ jKd T0 22 = 5) rfl ⟨trivial, rfl, rfl, rfl⟩ h (fun v M3 h => ?_)
      obtain ⟨r3, rfl, h⟩ := h
      show jRun X T0 (d + 1) q_X7_places (39, [.ref 0, .int a1, .int a2], [.int r3], M3) Q
      refine jRun.cut (k := jk_X7_places) rfl 2 (c' := (if r3 < 6 then 47 else 44, [.ref 0, .int a1, .int a2], [], M3)) (ob := True ∧ True ∧ True) rfl ⟨trivial, trivial, trivial⟩ ?_
      refine jRun.br (fun g => ?_) (fun g => ?_)
      · have h := h.1 g
        refine jRun.call (k := jk_X7_places) rfl 4 (f := q_X7_turnIsland) (As := [.ref 0, .int a1, .int a2]) (c1 := (53, [.ref 0, .int a1, .int a2], [], M3)) (ob := True ∧ True ∧ True ∧ jKd T0 0 = 7) rfl ⟨trivial, trivial, trivial, rfl⟩ h (fun v M4 h => ?_)
        obtain ⟨r4, rfl, h⟩ := h
        show jRun X T0 (d + 1) q_X7_places (53, [.ref 0, .int a1, .int a2], [.int r4], M4) Q
        exact jRun.ret (k := jk_X7_places) rfl 1 (v := some (.int r4)) (M1 := M4) (ob := True) rfl trivial h
      · have h := h.2 g
        exact jRun.ret (k := jk_X7_places) rfl 2 (v := some (.int (-3))) (M1 := M3) (ob := True ∧ True) rfl ⟨trivial, trivial⟩ h
    · have h := h.2 g
      exact jRun.ret (k := jk_X7_places) rfl 2 (v := some (.int (-2))) (M1 := M2) (ob := True ∧ True) rfl ⟨trivial, trivial⟩ h
  · have h := h.2 g
    exact jRun.ret (k := jk_X7_places) rfl 2 (v := some (.int (-1))) (M1 := M1) (ob := True ∧ True) rfl ⟨trivial, trivial⟩ h
theorem v_X7_takes {X : jX} {d : Nat} (hI : jInj X T0) (a1 : Int32) (a2 : Int32) (M : jMem) (Q : Option Value → jMem → Prop) (h : jOk X T0 d q_X7_mayHoldIsland [.ref 0, .int a1, .int a2] M (fun v M1 => ∃ r1, v = some (.int r1) ∧ ((¬ r1 = 0 → jOk X T0 d q_X5_hasIsland [.ref 22, .int a1, .int a2] M1 (fun v M2 => ∃ r2, v = some (.int r2) ∧ ((¬ r2 = 0 → jOk X T0 d q_X7_turnIsland [.ref 0, .int a1, .int a2] M2 (fun v M3 => ∃ r3, v = some (.int r3) ∧ Q (some (.int r3)) M3)) ∧ (r2 = 0 → Q (some (.int (-2))) M2)))) ∧ (r1 = 0 → Q (some (.int (-1))) M1)))) : jOk X T0 (d + 1) q_X7_takes [.ref 0, .int a1, .int a2] M Q := by
  refine jOk.intro (ml := 3) (ls := [.ref 0, .int a1, .int a2]) (jTl (by decide)) rfl (Nat.le_of_ble_eq_true rfl) rfl hI ?_
  refine jRun.call (k := jk_X7_takes) rfl 4 (f := q_X7_mayHoldIsland) (As := [.ref 0, .int a1, .int a2]) (c1 := (6, [.ref 0, .int a1, .int a2], [], M)) (ob := True ∧ True ∧ True ∧ jKd T0 0 = 7) rfl ⟨trivial, trivial, trivial, rfl⟩ h (fun v M1 h => ?_)
  obtain ⟨r1, rfl, h⟩ := h
  show jRun X T0 (d + 1) q_X7_takes (6, [.ref 0, .int a1, .int a2], [.int r1], M1) Q
  refine jRun.cut (k := jk_X7_takes) rfl 1 (c' := (if ¬ r1 = 0 then 11 else 9, [.ref 0, .int a1, .int a2], [], M1)) (ob := True ∧ True) rfl ⟨trivial, trivial⟩ ?_
  refine jRun.brn (fun g => ?_) (fun g => ?_)
  · have h := h.1 g
    refine jRun.call (k := jk_X7_takes) rfl 6 (f := q_X5_hasIsland) (As := [.ref 22, .int a1, .int a2]) (c1 := (23, [.ref 0, .int a1, .int a2], [], M1)) (ob := True ∧ jKd T0 0 = 7 ∧ jKd T0 21 = 0 ∧ True ∧ True ∧ jKd T0 22 = 5) rfl ⟨trivial, rfl, rfl, trivial, trivial, rfl⟩ h (fun v M2 h => ?_)
    obtain ⟨r2, rfl, h⟩ := h
    show jRun X T0 (d + 1) q_X7_takes (23, [.ref 0, .int a1, .int a2], [.int r2], M2) Q
    refine jRun.cut (k := jk_X7_takes) rfl 1 (c' := (if ¬ r2 = 0 then 29 else 26, [.ref 0, .int a1, .int a2], [], M2)) (ob := True ∧ True) rfl ⟨trivial, trivial⟩ ?_
    refine jRun.brn (fun g => ?_) (fun g => ?_)
    · have h := h.1 g
      refine jRun.call (k := jk_X7_takes) rfl 4 (f := q_X7_turnIsland) (As := [.ref 0, .int a1, .int a2]) (c1 := (35, [.ref 0, .int a1, .int a2], [], M2)) (ob := True ∧ True ∧ True ∧ jKd T0 0 = 7) rfl ⟨trivial, trivial, trivial, rfl⟩ h (fun v M3 h => ?_)
      obtain ⟨r3, rfl, h⟩ := h
      show jRun X T0 (d + 1) q_X7_takes (35, [.ref 0, .int a1, .int a2], [.int r3], M3) Q
      exact jRun.ret (k := jk_X7_takes) rfl 1 (v := some (.int r3)) (M1 := M3) (ob := True) rfl trivial h
    · have h := h.2 g
      exact jRun.ret (k := jk_X7_takes) rfl 2 (v := some (.int (-2))) (M1 := M2) (ob := True ∧ True) rfl ⟨trivial, trivial⟩ h
  · have h := h.2 g
    exact jRun.ret (k := jk_X7_takes) rfl 2 (v := some (.int (-1))) (M1 := M1) (ob := True ∧ True) rfl ⟨trivial, trivial⟩ h
theorem v_X7_undo {X : jX} {d : Nat} (hI : jInj X T0)  (M : jMem) (Q : Option Value → jMem → Prop) (h : ((0 < (M 24 3) → jOk X T0 d q_X2_takeBack [.ref 24, .ref 22] M (fun v M1 => v = none ∧ (∀ M2, M2 = jP M1 0 11 0 → Q (some (.int (M2 24 3))) M2))) ∧ (¬ 0 < (M 24 3) → Q (some (.int (-2))) M))) : jOk X T0 (d + 1) q_X7_undo [.ref 0] M Q := by
  refine jOk.intro (ml := 1) (ls := [.ref 0]) (jTl (by decide)) rfl (Nat.le_of_ble_eq_true rfl) rfl hI ?_
  refine jRun.cut (k := jk_X7_undo) rfl 5 (c' := (if 0 < (M 24 3) then 16 else 13, [.ref 0], [], M)) (ob := True ∧ jKd T0 0 = 7 ∧ jKd T0 21 = 0 ∧ jKd T0 24 = 2 ∧ True ∧ True) rfl ⟨trivial, rfl, rfl, rfl, trivial, trivial⟩ ?_
  refine jRun.br (fun g => ?_) (fun g => ?_)
  · have h := h.1 g
    refine jRun.call (k := jk_X7_undo) rfl 7 (f := q_X2_takeBack) (As := [.ref 24, .ref 22]) (c1 := (33, [.ref 0], [], M)) (ob := True ∧ jKd T0 0 = 7 ∧ jKd T0 21 = 0 ∧ True ∧ jKd T0 0 = 7 ∧ jKd T0 21 = 0 ∧ jKd T0 24 = 2) rfl ⟨trivial, rfl, rfl, trivial, rfl, rfl, rfl⟩ h (fun v M1 h => ?_)
    obtain ⟨rfl, h⟩ := h
    show jRun X T0 (d + 1) q_X7_undo (33, [.ref 0], [], M1) Q
    refine jRun.cut (k := jk_X7_undo) rfl 3 (c' := (38, [.ref 0], [], (jP M1 0 11 0))) (ob := True ∧ True ∧ jKd T0 0 = 7 ∧ True) rfl ⟨trivial, trivial, rfl, trivial⟩ ?_
    refine jRun.nm (fun M2 eM2 => ?_)
    have h := h M2 eM2
    exact jRun.ret (k := jk_X7_undo) rfl 5 (v := some (.int (M2 24 3))) (M1 := M2) (ob := True ∧ jKd T0 0 = 7 ∧ jKd T0 21 = 0 ∧ jKd T0 24 = 2 ∧ True) rfl ⟨trivial, rfl, rfl, rfl, trivial⟩ h
  · have h := h.2 g
    exact jRun.ret (k := jk_X7_undo) rfl 2 (v := some (.int (-2))) (M1 := M) (ob := True ∧ True) rfl ⟨trivial, trivial⟩ h
theorem v_X7_way {X : jX} {d : Nat} (hI : jInj X T0) (a1 : Int32) (a2 : Int32) (M : jMem) (Q : Option Value → jMem → Prop) (h : jOk X T0 d q_X7_isWay [.int a1] M (fun v M1 => ∃ r1, v = some (.int r1) ∧ ((¬ r1 = 0 → jOk X T0 d q_X7_layoutOf [.ref 0, .int a1] M1 (fun v M2 => ∃ r2, v = some (.ref r2) ∧ ((a2 = 0 → jKd T0 r2 = 1 ∧ jOk X T0 d q_X1_size [.ref r2] M2 (fun v M3 => ∃ r3, v = some (.int r3) ∧ Q (some (.int r3)) M3)) ∧ (¬ a2 = 0 → ((a2 = 1 → jKd T0 r2 = 1 ∧ Q (some (.int (M2 r2 2))) M2) ∧ (¬ a2 = 1 → ((a2 = 2 → jKd T0 r2 = 1 ∧ Q (some (.int (M2 r2 3))) M2) ∧ (¬ a2 = 2 → ((a2 = 3 → jKd T0 r2 = 1 ∧ jOk X T0 d q_X1_size [.ref r2] M2 (fun v M4 => ∃ r4, v = some (.int r4) ∧ jOk X T0 d q_X7_layoutOf [.ref 0, .int 2] M4 (fun v M5 => ∃ r5, v = some (.ref r5) ∧ jKd T0 r5 = 1 ∧ jOk X T0 d q_X1_size [.ref r5] M5 (fun v M6 => ∃ r6, v = some (.int r6) ∧ Q (some (.int (r4 - r6))) M6)))) ∧ (¬ a2 = 3 → ((a2 = 4 → jKd T0 r2 = 1 ∧ jOk X T0 d q_X1_servedCalls [.ref r2, .ref 22] M2 (fun v M7 => ∃ r7, v = some (.int r7) ∧ Q (some (.int r7)) M7)) ∧ (¬ a2 = 4 → ((a2 = 5 → jKd T0 r2 = 1 ∧ jOk X T0 d q_X1_sumOfBytes [.ref r2, .ref 22] M2 (fun v M8 => ∃ r8, v = some (.int r8) ∧ Q (some (.int r8)) M8)) ∧ (¬ a2 = 5 → Q (some (.int (-1))) M2)))))))))))))) ∧ (r1 = 0 → Q (some (.int (-1))) M1)))) : jOk X T0 (d + 1) q_X7_way [.ref 0, .int a1, .int a2] M Q := by
  refine jOk.intro (ml := 4) (ls := [.ref 0, .int a1, .int a2, .null]) (jTl (by decide)) rfl (Nat.le_of_ble_eq_true rfl) rfl hI ?_
  refine jRun.call (k := jk_X7_way) rfl 2 (f := q_X7_isWay) (As := [.int a1]) (c1 := (4, [.ref 0, .int a1, .int a2, .null], [], M)) (ob := True ∧ True) rfl ⟨trivial, trivial⟩ h (fun v M1 h => ?_)
  obtain ⟨r1, rfl, h⟩ := h
  show jRun X T0 (d + 1) q_X7_way (4, [.ref 0, .int a1, .int a2, .null], [.int r1], M1) Q
  refine jRun.cut (k := jk_X7_way) rfl 1 (c' := (if ¬ r1 = 0 then 9 else 7, [.ref 0, .int a1, .int a2, .null], [], M1)) (ob := True ∧ True) rfl ⟨trivial, trivial⟩ ?_
  refine jRun.brn (fun g => ?_) (fun g => ?_)
  · have h := h.1 g
    refine jRun.call (k := jk_X7_way) rfl 3 (f := q_X7_layoutOf) (As := [.ref 0, .int a1]) (c1 := (14, [.ref 0, .int a1, .int a2, .null], [], M1)) (ob := True ∧ True ∧ jKd T0 0 = 7) rfl ⟨trivial, trivial, rfl⟩ h (fun v M2 h => ?_)
    obtain ⟨r2, rfl, h⟩ := h
    show jRun X T0 (d + 1) q_X7_way (14, [.ref 0, .int a1, .int a2, .null], [.ref r2], M2) Q
    refine jRun.cut (k := jk_X7_way) rfl 3 (c' := (if a2 = 0 then 56 else if a2 = 1 then 61 else if a2 = 2 then 66 else if a2 = 3 then 71 else if a2 = 4 then 85 else if a2 = 5 then 97 else 109, [.ref 0, .int a1, .int a2, .ref r2], [], M2)) (ob := True ∧ True ∧ True ∧ True) rfl ⟨trivial, trivial, trivial, trivial⟩ ?_
    refine jRun.br (fun g => ?_) (fun g => ?_)
    · have h := h.1 g
      obtain ⟨o1, h⟩ := h
      refine jRun.call (k := jk_X7_way) rfl 2 (f := q_X1_size) (As := [.ref r2]) (c1 := (60, [.ref 0, .int a1, .int a2, .ref r2], [], M2)) (ob := True ∧ jKd T0 r2 = 1) rfl ⟨trivial, o1⟩ h (fun v M3 h => ?_)
      obtain ⟨r3, rfl, h⟩ := h
      show jRun X T0 (d + 1) q_X7_way (60, [.ref 0, .int a1, .int a2, .ref r2], [.int r3], M3) Q
      exact jRun.ret (k := jk_X7_way) rfl 1 (v := some (.int r3)) (M1 := M3) (ob := True) rfl trivial h
    · have h := h.2 g
      refine jRun.br (fun g => ?_) (fun g => ?_)
      · have h := h.1 g
        obtain ⟨o2, h⟩ := h
        exact jRun.ret (k := jk_X7_way) rfl 3 (v := some (.int (M2 r2 2))) (M1 := M2) (ob := True ∧ jKd T0 r2 = 1 ∧ True) rfl ⟨trivial, o2, trivial⟩ h
      · have h := h.2 g
        refine jRun.br (fun g => ?_) (fun g => ?_)
        · have h := h.1 g
          obtain ⟨o3, h⟩ := h
          exact jRun.ret (k := jk_X7_way) rfl 3 (v := some (.int (M2 r2 3))) (M1 := M2) (ob := True ∧ jKd T0 r2 = 1 ∧ True) rfl ⟨trivial, o3, trivial⟩ h
        · have h := h.2 g
          refine jRun.br (fun g => ?_) (fun g => ?_)
          · have h := h.1 g
            obtain ⟨o4, h⟩ := h
            refine jRun.call (k := jk_X7_way) rfl 2 (f := q_X1_size) (As := [.ref r2]) (c1 := (75, [.ref 0, .int a1, .int a2, .ref r2], [], M2)) (ob := True ∧ jKd T0 r2 = 1) rfl ⟨trivial, o4⟩ h (fun v M4 h => ?_)
            obtain ⟨r4, rfl, h⟩ := h
            show jRun X T0 (d + 1) q_X7_way (75, [.ref 0, .int a1, .int a2, .ref r2], [.int r4], M4) Q
            refine jRun.call (k := jk_X7_way) rfl 3 (f := q_X7_layoutOf) (As := [.ref 0, .int 2]) (c1 := (80, [.ref 0, .int a1, .int a2, .ref r2], [.int r4], M4)) (ob := True ∧ True ∧ jKd T0 0 = 7) rfl ⟨trivial, trivial, rfl⟩ h (fun v M5 h => ?_)
            obtain ⟨r5, rfl, h⟩ := h
            show jRun X T0 (d + 1) q_X7_way (80, [.ref 0, .int a1, .int a2, .ref r2], [.ref r5, .int r4], M5) Q
            obtain ⟨o5, h⟩ := h
            refine jRun.call (k := jk_X7_way) rfl 1 (f := q_X1_size) (As := [.ref r5]) (c1 := (83, [.ref 0, .int a1, .int a2, .ref r2], [.int r4], M5)) (ob := jKd T0 r5 = 1) rfl o5 h (fun v M6 h => ?_)
            obtain ⟨r6, rfl, h⟩ := h
            show jRun X T0 (d + 1) q_X7_way (83, [.ref 0, .int a1, .int a2, .ref r2], [.int r6, .int r4], M6) Q
            exact jRun.ret (k := jk_X7_way) rfl 2 (v := some (.int (r4 - r6))) (M1 := M6) (ob := True ∧ True) rfl ⟨trivial, trivial⟩ h
          · have h := h.2 g
            refine jRun.br (fun g => ?_) (fun g => ?_)
            · have h := h.1 g
              obtain ⟨o6, h⟩ := h
              refine jRun.call (k := jk_X7_way) rfl 5 (f := q_X1_servedCalls) (As := [.ref r2, .ref 22]) (c1 := (96, [.ref 0, .int a1, .int a2, .ref r2], [], M2)) (ob := True ∧ True ∧ jKd T0 0 = 7 ∧ jKd T0 21 = 0 ∧ jKd T0 r2 = 1) rfl ⟨trivial, trivial, rfl, rfl, o6⟩ h (fun v M7 h => ?_)
              obtain ⟨r7, rfl, h⟩ := h
              show jRun X T0 (d + 1) q_X7_way (96, [.ref 0, .int a1, .int a2, .ref r2], [.int r7], M7) Q
              exact jRun.ret (k := jk_X7_way) rfl 1 (v := some (.int r7)) (M1 := M7) (ob := True) rfl trivial h
            · have h := h.2 g
              refine jRun.br (fun g => ?_) (fun g => ?_)
              · have h := h.1 g
                obtain ⟨o7, h⟩ := h
                refine jRun.call (k := jk_X7_way) rfl 5 (f := q_X1_sumOfBytes) (As := [.ref r2, .ref 22]) (c1 := (108, [.ref 0, .int a1, .int a2, .ref r2], [], M2)) (ob := True ∧ True ∧ jKd T0 0 = 7 ∧ jKd T0 21 = 0 ∧ jKd T0 r2 = 1) rfl ⟨trivial, trivial, rfl, rfl, o7⟩ h (fun v M8 h => ?_)
                obtain ⟨r8, rfl, h⟩ := h
                show jRun X T0 (d + 1) q_X7_way (108, [.ref 0, .int a1, .int a2, .ref r2], [.int r8], M8) Q
                exact jRun.ret (k := jk_X7_way) rfl 1 (v := some (.int r8)) (M1 := M8) (ob := True) rfl trivial h
              · have h := h.2 g
                exact jRun.ret (k := jk_X7_way) rfl 2 (v := some (.int (-1))) (M1 := M2) (ob := True ∧ True) rfl ⟨trivial, trivial⟩ h
  · have h := h.2 g
    exact jRun.ret (k := jk_X7_way) rfl 2 (v := some (.int (-1))) (M1 := M1) (ob := True ∧ True) rfl ⟨trivial, trivial⟩ h
theorem v_X7_lies {X : jX} {d : Nat} (hI : jInj X T0) (a1 : Int32) (a2 : Int32) (a3 : Int32) (M : jMem) (Q : Option Value → jMem → Prop) (h : jOk X T0 d q_X7_isWay [.int a1] M (fun v M1 => ∃ r1, v = some (.int r1) ∧ ((r1 = 0 → Q (some (.int (-1000000))) M1) ∧ (¬ r1 = 0 → jOk X T0 d q_X3_hasItem [.ref 12, .int a2] M1 (fun v M2 => ∃ r2, v = some (.int r2) ∧ ((¬ r2 = 0 → jOk X T0 d q_X7_layoutOf [.ref 0, .int a1] M2 (fun v M3 => ∃ r3, v = some (.ref r3) ∧ ((a3 = 0 → jKd T0 r3 = 1 ∧ jKd T0 (jRf T0 r3 1) = 9 ∧ vp_in a2 (jLn T0 (jRf T0 r3 1)) ∧ Q (some (.int (M3 (jRf T0 r3 1) a2.toNatClampNeg))) M3) ∧ (¬ a3 = 0 → ((a3 = 1 → jKd T0 r3 = 1 ∧ jKd T0 (jRf T0 r3 1) = 9 ∧ vp_in (a2 + 1) (jLn T0 (jRf T0 r3 1)) ∧ vp_in a2 (jLn T0 (jRf T0 r3 1)) ∧ Q (some (.int ((M3 (jRf T0 r3 1) (a2 + 1).toNatClampNeg) - (M3 (jRf T0 r3 1) a2.toNatClampNeg)))) M3) ∧ (¬ a3 = 1 → ((a3 = 2 → jOk X T0 d q_X3_goesToLabel [.ref 12, .int a2] M3 (fun v M4 => ∃ r4, v = some (.int r4) ∧ ((r4 = 0 → Q (some (.int 0)) M4) ∧ (¬ r4 = 0 → jKd T0 r3 = 1 ∧ jOk X T0 d q_X1_farOf [.ref r3, .int a2] M4 (fun v M5 => ∃ r5, v = some (.int r5) ∧ Q (some (.int r5)) M5))))) ∧ (¬ a3 = 2 → Q (some (.int (-1000000))) M3)))))))) ∧ (r2 = 0 → Q (some (.int (-1000000))) M2))))))) : jOk X T0 (d + 1) q_X7_lies [.ref 0, .int a1, .int a2, .int a3] M Q := by
  refine jOk.intro (ml := 5) (ls := [.ref 0, .int a1, .int a2, .int a3, .null]) (jTl (by decide)) rfl (Nat.le_of_ble_eq_true rfl) rfl hI ?_
  refine jRun.call (k := jk_X7_lies) rfl 2 (f := q_X7_isWay) (As := [.int a1]) (c1 := (4, [.ref 0, .int a1, .int a2, .int a3, .null], [], M)) (ob := True ∧ True) rfl ⟨trivial, trivial⟩ h (fun v M1 h => ?_)
  obtain ⟨r1, rfl, h⟩ := h
  show jRun X T0 (d + 1) q_X7_lies (4, [.ref 0, .int a1, .int a2, .int a3, .null], [.int r1], M1) Q
  refine jRun.cut (k := jk_X7_lies) rfl 1 (c' := (if r1 = 0 then 18 else 7, [.ref 0, .int a1, .int a2, .int a3, .null], [], M1)) (ob := True ∧ True) rfl ⟨trivial, trivial⟩ ?_
  refine jRun.br (fun g => ?_) (fun g => ?_)
  · have h := h.1 g
    exact jRun.ret (k := jk_X7_lies) rfl 2 (v := some (.int (-1000000))) (M1 := M1) (ob := True ∧ True) rfl ⟨trivial, trivial⟩ h
  · have h := h.2 g
    refine jRun.call (k := jk_X7_lies) rfl 4 (f := q_X3_hasItem) (As := [.ref 12, .int a2]) (c1 := (15, [.ref 0, .int a1, .int a2, .int a3, .null], [], M1)) (ob := True ∧ jKd T0 0 = 7 ∧ True ∧ jKd T0 12 = 3) rfl ⟨trivial, rfl, trivial, rfl⟩ h (fun v M2 h => ?_)
    obtain ⟨r2, rfl, h⟩ := h
    show jRun X T0 (d + 1) q_X7_lies (15, [.ref 0, .int a1, .int a2, .int a3, .null], [.int r2], M2) Q
    refine jRun.cut (k := jk_X7_lies) rfl 1 (c' := (if ¬ r2 = 0 then 21 else 18, [.ref 0, .int a1, .int a2, .int a3, .null], [], M2)) (ob := True ∧ True) rfl ⟨trivial, trivial⟩ ?_
    refine jRun.brn (fun g => ?_) (fun g => ?_)
    · have h := h.1 g
      refine jRun.call (k := jk_X7_lies) rfl 3 (f := q_X7_layoutOf) (As := [.ref 0, .int a1]) (c1 := (26, [.ref 0, .int a1, .int a2, .int a3, .null], [], M2)) (ob := True ∧ True ∧ jKd T0 0 = 7) rfl ⟨trivial, trivial, rfl⟩ h (fun v M3 h => ?_)
      obtain ⟨r3, rfl, h⟩ := h
      show jRun X T0 (d + 1) q_X7_lies (26, [.ref 0, .int a1, .int a2, .int a3, .null], [.ref r3], M3) Q
      refine jRun.cut (k := jk_X7_lies) rfl 3 (c' := (if a3 = 0 then 56 else if a3 = 1 then 64 else if a3 = 2 then 82 else 104, [.ref 0, .int a1, .int a2, .int a3, .ref r3], [], M3)) (ob := True ∧ True ∧ True ∧ True) rfl ⟨trivial, trivial, trivial, trivial⟩ ?_
      refine jRun.br (fun g => ?_) (fun g => ?_)
      · have h := h.1 g
        obtain ⟨o1, o2, o3, h⟩ := h
        exact jRun.ret (k := jk_X7_lies) rfl 5 (v := some (.int (M3 (jRf T0 r3 1) a2.toNatClampNeg))) (M1 := M3) (ob := True ∧ jKd T0 r3 = 1 ∧ True ∧ (jKd T0 (jRf T0 r3 1) = 9 ∧ vp_in a2 (jLn T0 (jRf T0 r3 1))) ∧ True) rfl ⟨trivial, o1, trivial, ⟨o2, o3⟩, trivial⟩ h
      · have h := h.2 g
        refine jRun.br (fun g => ?_) (fun g => ?_)
        · have h := h.1 g
          obtain ⟨o4, o5, o6, o7, h⟩ := h
          exact jRun.ret (k := jk_X7_lies) rfl 12 (v := some (.int ((M3 (jRf T0 r3 1) (a2 + 1).toNatClampNeg) - (M3 (jRf T0 r3 1) a2.toNatClampNeg)))) (M1 := M3) (ob := True ∧ jKd T0 r3 = 1 ∧ True ∧ True ∧ True ∧ (jKd T0 (jRf T0 r3 1) = 9 ∧ vp_in (a2 + 1) (jLn T0 (jRf T0 r3 1))) ∧ True ∧ jKd T0 r3 = 1 ∧ True ∧ (jKd T0 (jRf T0 r3 1) = 9 ∧ vp_in a2 (jLn T0 (jRf T0 r3 1))) ∧ True ∧ True) rfl ⟨trivial, o4, trivial, trivial, trivial, ⟨o5, o6⟩, trivial, o4, trivial, ⟨o5, o7⟩, trivial, trivial⟩ h
        · have h := h.2 g
          refine jRun.br (fun g => ?_) (fun g => ?_)
          · have h := h.1 g
            refine jRun.call (k := jk_X7_lies) rfl 4 (f := q_X3_goesToLabel) (As := [.ref 12, .int a2]) (c1 := (90, [.ref 0, .int a1, .int a2, .int a3, .ref r3], [], M3)) (ob := True ∧ jKd T0 0 = 7 ∧ True ∧ jKd T0 12 = 3) rfl ⟨trivial, rfl, trivial, rfl⟩ h (fun v M4 h => ?_)
            obtain ⟨r4, rfl, h⟩ := h
            show jRun X T0 (d + 1) q_X7_lies (90, [.ref 0, .int a1, .int a2, .int a3, .ref r3], [.int r4], M4) Q
            refine jRun.cut (k := jk_X7_lies) rfl 1 (c' := (if r4 = 0 then 102 else 93, [.ref 0, .int a1, .int a2, .int a3, .ref r3], [], M4)) (ob := True ∧ True) rfl ⟨trivial, trivial⟩ ?_
            refine jRun.br (fun g => ?_) (fun g => ?_)
            · have h := h.1 g
              exact jRun.ret (k := jk_X7_lies) rfl 2 (v := some (.int 0)) (M1 := M4) (ob := True ∧ True) rfl ⟨trivial, trivial⟩ h
            · have h := h.2 g
              obtain ⟨o8, h⟩ := h
              refine jRun.call (k := jk_X7_lies) rfl 3 (f := q_X1_farOf) (As := [.ref r3, .int a2]) (c1 := (99, [.ref 0, .int a1, .int a2, .int a3, .ref r3], [], M4)) (ob := True ∧ True ∧ jKd T0 r3 = 1) rfl ⟨trivial, trivial, o8⟩ h (fun v M5 h => ?_)
              obtain ⟨r5, rfl, h⟩ := h
              show jRun X T0 (d + 1) q_X7_lies (99, [.ref 0, .int a1, .int a2, .int a3, .ref r3], [.int r5], M5) Q
              exact jRun.ret (k := jk_X7_lies) rfl 2 (v := some (.int r5)) (M1 := M5) (ob := True ∧ True) rfl ⟨trivial, trivial⟩ h
          · have h := h.2 g
            exact jRun.ret (k := jk_X7_lies) rfl 2 (v := some (.int (-1000000))) (M1 := M3) (ob := True ∧ True) rfl ⟨trivial, trivial⟩ h
    · have h := h.2 g
      exact jRun.ret (k := jk_X7_lies) rfl 2 (v := some (.int (-1000000))) (M1 := M2) (ob := True ∧ True) rfl ⟨trivial, trivial⟩ h
theorem v_X7_code {X : jX} {d : Nat} (hI : jInj X T0) (a1 : Int32) (a2 : Int32) (M : jMem) (Q : Option Value → jMem → Prop) (h : jOk X T0 d q_X7_isWay [.int a1] M (fun v M1 => ∃ r1, v = some (.int r1) ∧ ((¬ r1 = 0 → jOk X T0 d q_X7_layoutOf [.ref 0, .int a1] M1 (fun v M2 => ∃ r2, v = some (.ref r2) ∧ jKd T0 r2 = 1 ∧ jOk X T0 d q_X1_itemOfByte [.ref r2, .int a2] M2 (fun v M3 => ∃ r3, v = some (.int r3) ∧ jOk X T0 d q_X3_hasItem [.ref 12, .int r3] M3 (fun v M4 => ∃ r4, v = some (.int r4) ∧ ((¬ r4 = 0 → jKd T0 (jRf T0 r2 1) = 9 ∧ vp_in r3 (jLn T0 (jRf T0 r2 1)) ∧ jOk X T0 d q_X1_byteOf [.ref r2, .ref 22, .int r3, .int (a2 - (M4 (jRf T0 r2 1) r3.toNatClampNeg))] M4 (fun v M5 => ∃ r5, v = some (.int r5) ∧ Q (some (.int r5)) M5)) ∧ (r4 = 0 → Q (some (.int (-1))) M4)))))) ∧ (r1 = 0 → Q (some (.int (-1))) M1)))) : jOk X T0 (d + 1) q_X7_code [.ref 0, .int a1, .int a2] M Q := by
  refine jOk.intro (ml := 5) (ls := [.ref 0, .int a1, .int a2, .null, .null]) (jTl (by decide)) rfl (Nat.le_of_ble_eq_true rfl) rfl hI ?_
  refine jRun.call (k := jk_X7_code) rfl 2 (f := q_X7_isWay) (As := [.int a1]) (c1 := (4, [.ref 0, .int a1, .int a2, .null, .null], [], M)) (ob := True ∧ True) rfl ⟨trivial, trivial⟩ h (fun v M1 h => ?_)
  obtain ⟨r1, rfl, h⟩ := h
  show jRun X T0 (d + 1) q_X7_code (4, [.ref 0, .int a1, .int a2, .null, .null], [.int r1], M1) Q
  refine jRun.cut (k := jk_X7_code) rfl 1 (c' := (if ¬ r1 = 0 then 9 else 7, [.ref 0, .int a1, .int a2, .null, .null], [], M1)) (ob := True ∧ True) rfl ⟨trivial, trivial⟩ ?_
  refine jRun.brn (fun g => ?_) (fun g => ?_)
  · have h := h.1 g
    refine jRun.call (k := jk_X7_code) rfl 3 (f := q_X7_layoutOf) (As := [.ref 0, .int a1]) (c1 := (14, [.ref 0, .int a1, .int a2, .null, .null], [], M1)) (ob := True ∧ True ∧ jKd T0 0 = 7) rfl ⟨trivial, trivial, rfl⟩ h (fun v M2 h => ?_)
    obtain ⟨r2, rfl, h⟩ := h
    show jRun X T0 (d + 1) q_X7_code (14, [.ref 0, .int a1, .int a2, .null, .null], [.ref r2], M2) Q
    obtain ⟨o1, h⟩ := h
    refine jRun.call (k := jk_X7_code) rfl 4 (f := q_X1_itemOfByte) (As := [.ref r2, .int a2]) (c1 := (20, [.ref 0, .int a1, .int a2, .ref r2, .null], [], M2)) (ob := True ∧ True ∧ True ∧ jKd T0 r2 = 1) rfl ⟨trivial, trivial, trivial, o1⟩ h (fun v M3 h => ?_)
    obtain ⟨r3, rfl, h⟩ := h
    show jRun X T0 (d + 1) q_X7_code (20, [.ref 0, .int a1, .int a2, .ref r2, .null], [.int r3], M3) Q
    refine jRun.call (k := jk_X7_code) rfl 5 (f := q_X3_hasItem) (As := [.ref 12, .int r3]) (c1 := (31, [.ref 0, .int a1, .int a2, .ref r2, .int r3], [], M3)) (ob := True ∧ True ∧ jKd T0 0 = 7 ∧ True ∧ jKd T0 12 = 3) rfl ⟨trivial, trivial, rfl, trivial, rfl⟩ h (fun v M4 h => ?_)
    obtain ⟨r4, rfl, h⟩ := h
    show jRun X T0 (d + 1) q_X7_code (31, [.ref 0, .int a1, .int a2, .ref r2, .int r3], [.int r4], M4) Q
    refine jRun.cut (k := jk_X7_code) rfl 1 (c' := (if ¬ r4 = 0 then 36 else 34, [.ref 0, .int a1, .int a2, .ref r2, .int r3], [], M4)) (ob := True ∧ True) rfl ⟨trivial, trivial⟩ ?_
    refine jRun.brn (fun g => ?_) (fun g => ?_)
    · have h := h.1 g
      obtain ⟨o2, o3, h⟩ := h
      refine jRun.call (k := jk_X7_code) rfl 12 (f := q_X1_byteOf) (As := [.ref r2, .ref 22, .int r3, .int (a2 - (M4 (jRf T0 r2 1) r3.toNatClampNeg))]) (c1 := (58, [.ref 0, .int a1, .int a2, .ref r2, .int r3], [], M4)) (ob := True ∧ True ∧ jKd T0 0 = 7 ∧ jKd T0 21 = 0 ∧ True ∧ True ∧ True ∧ jKd T0 r2 = 1 ∧ True ∧ (jKd T0 (jRf T0 r2 1) = 9 ∧ vp_in r3 (jLn T0 (jRf T0 r2 1))) ∧ True ∧ jKd T0 r2 = 1) rfl ⟨trivial, trivial, rfl, rfl, trivial, trivial, trivial, o1, trivial, ⟨o2, o3⟩, trivial, o1⟩ h (fun v M5 h => ?_)
      obtain ⟨r5, rfl, h⟩ := h
      show jRun X T0 (d + 1) q_X7_code (58, [.ref 0, .int a1, .int a2, .ref r2, .int r3], [.int r5], M5) Q
      exact jRun.ret (k := jk_X7_code) rfl 1 (v := some (.int r5)) (M1 := M5) (ob := True) rfl trivial h
    · have h := h.2 g
      exact jRun.ret (k := jk_X7_code) rfl 2 (v := some (.int (-1))) (M1 := M4) (ob := True ∧ True) rfl ⟨trivial, trivial⟩ h
  · have h := h.2 g
    exact jRun.ret (k := jk_X7_code) rfl 2 (v := some (.int (-1))) (M1 := M1) (ob := True ∧ True) rfl ⟨trivial, trivial⟩ h
theorem v_X7_origin {X : jX} {d : Nat} (hI : jInj X T0) (a1 : Int32) (a2 : Int32) (M : jMem) (Q : Option Value → jMem → Prop) (h : jOk X T0 d q_X7_isWay [.int a1] M (fun v M1 => ∃ r1, v = some (.int r1) ∧ ((¬ r1 = 0 → jOk X T0 d q_X7_layoutOf [.ref 0, .int a1] M1 (fun v M2 => ∃ r2, v = some (.ref r2) ∧ jKd T0 r2 = 1 ∧ jOk X T0 d q_X1_itemOfByte [.ref r2, .int a2] M2 (fun v M3 => ∃ r3, v = some (.int r3) ∧ Q (some (.int r3)) M3))) ∧ (r1 = 0 → Q (some (.int (-1))) M1)))) : jOk X T0 (d + 1) q_X7_origin [.ref 0, .int a1, .int a2] M Q := by
  refine jOk.intro (ml := 3) (ls := [.ref 0, .int a1, .int a2]) (jTl (by decide)) rfl (Nat.le_of_ble_eq_true rfl) rfl hI ?_
  refine jRun.call (k := jk_X7_origin) rfl 2 (f := q_X7_isWay) (As := [.int a1]) (c1 := (4, [.ref 0, .int a1, .int a2], [], M)) (ob := True ∧ True) rfl ⟨trivial, trivial⟩ h (fun v M1 h => ?_)
  obtain ⟨r1, rfl, h⟩ := h
  show jRun X T0 (d + 1) q_X7_origin (4, [.ref 0, .int a1, .int a2], [.int r1], M1) Q
  refine jRun.cut (k := jk_X7_origin) rfl 1 (c' := (if ¬ r1 = 0 then 9 else 7, [.ref 0, .int a1, .int a2], [], M1)) (ob := True ∧ True) rfl ⟨trivial, trivial⟩ ?_
  refine jRun.brn (fun g => ?_) (fun g => ?_)
  · have h := h.1 g
    refine jRun.call (k := jk_X7_origin) rfl 3 (f := q_X7_layoutOf) (As := [.ref 0, .int a1]) (c1 := (14, [.ref 0, .int a1, .int a2], [], M1)) (ob := True ∧ True ∧ jKd T0 0 = 7) rfl ⟨trivial, trivial, rfl⟩ h (fun v M2 h => ?_)
    obtain ⟨r2, rfl, h⟩ := h
    show jRun X T0 (d + 1) q_X7_origin (14, [.ref 0, .int a1, .int a2], [.ref r2], M2) Q
    obtain ⟨o1, h⟩ := h
    refine jRun.call (k := jk_X7_origin) rfl 2 (f := q_X1_itemOfByte) (As := [.ref r2, .int a2]) (c1 := (18, [.ref 0, .int a1, .int a2], [], M2)) (ob := True ∧ jKd T0 r2 = 1) rfl ⟨trivial, o1⟩ h (fun v M3 h => ?_)
    obtain ⟨r3, rfl, h⟩ := h
    show jRun X T0 (d + 1) q_X7_origin (18, [.ref 0, .int a1, .int a2], [.int r3], M3) Q
    exact jRun.ret (k := jk_X7_origin) rfl 1 (v := some (.int r3)) (M1 := M3) (ob := True) rfl trivial h
  · have h := h.2 g
    exact jRun.ret (k := jk_X7_origin) rfl 2 (v := some (.int (-1))) (M1 := M1) (ob := True ∧ True) rfl ⟨trivial, trivial⟩ h
theorem v_X7_narrow {X : jX} {d : Nat} (hI : jInj X T0)  (M : jMem) (Q : Option Value → jMem → Prop) (h : jOk X T0 d q_X4_leastReach [.ref 48, .ref 22] M (fun v M1 => ∃ r1, v = some (.int r1) ∧ Q (some (.int r1)) M1)) : jOk X T0 (d + 1) q_X7_narrow [.ref 0] M Q := by
  refine jOk.intro (ml := 1) (ls := [.ref 0]) (jTl (by decide)) rfl (Nat.le_of_ble_eq_true rfl) rfl hI ?_
  refine jRun.call (k := jk_X7_narrow) rfl 6 (f := q_X4_leastReach) (As := [.ref 48, .ref 22]) (c1 := (14, [.ref 0], [], M)) (ob := True ∧ jKd T0 0 = 7 ∧ True ∧ jKd T0 0 = 7 ∧ jKd T0 21 = 0 ∧ jKd T0 48 = 4) rfl ⟨trivial, rfl, trivial, rfl, rfl, rfl⟩ h (fun v M1 h => ?_)
  obtain ⟨r1, rfl, h⟩ := h
  show jRun X T0 (d + 1) q_X7_narrow (14, [.ref 0], [.int r1], M1) Q
  exact jRun.ret (k := jk_X7_narrow) rfl 1 (v := some (.int r1)) (M1 := M1) (ob := True) rfl trivial h
theorem v_X7_fewest {X : jX} {d : Nat} (hI : jInj X T0) (a1 : Int32) (M : jMem) (Q : Option Value → jMem → Prop) (h : ((a1 < 0 → Q (some (.int (-1))) M) ∧ (¬ a1 < 0 → ((a1 ≤ 1 → ((¬ (((M 0 11) >>> (3 &&& 31)) &&& 1) = 0 → ((0 ≤ (M 0 10) → ((¬ a1 = 0 → Q (some (.int (M 0 10))) M) ∧ (a1 = 0 → jOk X T0 d q_J6_bitCount_0f7a4 [.int (M 0 10)] M (fun v M1 => ∃ r1, v = some (.int r1) ∧ Q (some (.int r1)) M1)))) ∧ (¬ 0 ≤ (M 0 10) → Q (some (.int (-9))) M))) ∧ ((((M 0 11) >>> (3 &&& 31)) &&& 1) = 0 → jOk X T0 d q_X4_fewestIslands [.ref 48, .ref 22] M (fun v M2 => ∃ r2, v = some (.int r2) ∧ (∀ M3, M3 = jP M2 0 10 r2 → (∀ M4, M4 = jP M3 0 11 ((M3 0 11) ||| 8) → ((0 ≤ (M4 0 10) → ((¬ a1 = 0 → Q (some (.int (M4 0 10))) M4) ∧ (a1 = 0 → jOk X T0 d q_J6_bitCount_0f7a4 [.int (M4 0 10)] M4 (fun v M5 => ∃ r3, v = some (.int r3) ∧ Q (some (.int r3)) M5)))) ∧ (¬ 0 ≤ (M4 0 10) → Q (some (.int (-9))) M4)))))))) ∧ (¬ a1 ≤ 1 → Q (some (.int (-1))) M))))) : jOk X T0 (d + 1) q_X7_fewest [.ref 0, .int a1] M Q := by
  refine jOk.intro (ml := 2) (ls := [.ref 0, .int a1]) (jTl (by decide)) rfl (Nat.le_of_ble_eq_true rfl) rfl hI ?_
  refine jRun.cut (k := jk_X7_fewest) rfl 2 (c' := (if a1 < 0 then 9 else 4, [.ref 0, .int a1], [], M)) (ob := True ∧ True ∧ True) rfl ⟨trivial, trivial, trivial⟩ ?_
  refine jRun.br (fun g => ?_) (fun g => ?_)
  · have h := h.1 g
    exact jRun.ret (k := jk_X7_fewest) rfl 2 (v := some (.int (-1))) (M1 := M) (ob := True ∧ True) rfl ⟨trivial, trivial⟩ h
  · have h := h.2 g
    refine jRun.cut (k := jk_X7_fewest) rfl 3 (c' := (if a1 ≤ 1 then 11 else 9, [.ref 0, .int a1], [], M)) (ob := True ∧ True ∧ True ∧ True) rfl ⟨trivial, trivial, trivial, trivial⟩ ?_
    refine jRun.br (fun g => ?_) (fun g => ?_)
    · have h := h.1 g
      refine jRun.cut (k := jk_X7_fewest) rfl 7 (c' := (if ¬ (((M 0 11) >>> (3 &&& 31)) &&& 1) = 0 then 51 else 22, [.ref 0, .int a1], [], M)) (ob := True ∧ jKd T0 0 = 7 ∧ True ∧ True ∧ True ∧ True ∧ True ∧ True) rfl ⟨trivial, rfl, trivial, trivial, trivial, trivial, trivial, trivial⟩ ?_
      refine jRun.brn (fun g => ?_) (fun g => ?_)
      · have h := h.1 g
        refine jRun.cut (k := jk_X7_fewest) rfl 3 (c' := (if 0 ≤ (M 0 10) then 61 else 58, [.ref 0, .int a1], [], M)) (ob := True ∧ jKd T0 0 = 7 ∧ True ∧ True) rfl ⟨trivial, rfl, trivial, trivial⟩ ?_
        refine jRun.br (fun g => ?_) (fun g => ?_)
        · have h := h.1 g
          refine jRun.cut (k := jk_X7_fewest) rfl 2 (c' := (if ¬ a1 = 0 then 75 else 65, [.ref 0, .int a1], [], M)) (ob := True ∧ True ∧ True) rfl ⟨trivial, trivial, trivial⟩ ?_
          refine jRun.brn (fun g => ?_) (fun g => ?_)
          · have h := h.1 g
            exact jRun.ret (k := jk_X7_fewest) rfl 3 (v := some (.int (M 0 10))) (M1 := M) (ob := True ∧ jKd T0 0 = 7 ∧ True) rfl ⟨trivial, rfl, trivial⟩ h
          · have h := h.2 g
            refine jRun.call (k := jk_X7_fewest) rfl 3 (f := q_J6_bitCount_0f7a4) (As := [.int (M 0 10)]) (c1 := (72, [.ref 0, .int a1], [], M)) (ob := True ∧ jKd T0 0 = 7 ∧ True) rfl ⟨trivial, rfl, trivial⟩ h (fun v M1 h => ?_)
            obtain ⟨r1, rfl, h⟩ := h
            show jRun X T0 (d + 1) q_X7_fewest (72, [.ref 0, .int a1], [.int r1], M1) Q
            exact jRun.ret (k := jk_X7_fewest) rfl 2 (v := some (.int r1)) (M1 := M1) (ob := True ∧ True) rfl ⟨trivial, trivial⟩ h
        · have h := h.2 g
          exact jRun.ret (k := jk_X7_fewest) rfl 2 (v := some (.int (-9))) (M1 := M) (ob := True ∧ True) rfl ⟨trivial, trivial⟩ h
      · have h := h.2 g
        refine jRun.call (k := jk_X7_fewest) rfl 7 (f := q_X4_fewestIslands) (As := [.ref 48, .ref 22]) (c1 := (37, [.ref 0, .int a1], [.ref 0], M)) (ob := True ∧ True ∧ jKd T0 0 = 7 ∧ True ∧ jKd T0 0 = 7 ∧ jKd T0 21 = 0 ∧ jKd T0 48 = 4) rfl ⟨trivial, trivial, rfl, trivial, rfl, rfl, rfl⟩ h (fun v M2 h => ?_)
        obtain ⟨r2, rfl, h⟩ := h
        show jRun X T0 (d + 1) q_X7_fewest (37, [.ref 0, .int a1], [.int r2, .ref 0], M2) Q
        refine jRun.cut (k := jk_X7_fewest) rfl 1 (c' := (40, [.ref 0, .int a1], [], (jP M2 0 10 r2))) (ob := jKd T0 0 = 7 ∧ True) rfl ⟨rfl, trivial⟩ ?_
        refine jRun.nm (fun M3 eM3 => ?_)
        have h := h M3 eM3
        refine jRun.cut (k := jk_X7_fewest) rfl 6 (c' := (51, [.ref 0, .int a1], [], (jP M3 0 11 ((M3 0 11) ||| 8)))) (ob := True ∧ True ∧ jKd T0 0 = 7 ∧ True ∧ True ∧ jKd T0 0 = 7 ∧ True) rfl ⟨trivial, trivial, rfl, trivial, trivial, rfl, trivial⟩ ?_
        refine jRun.nm (fun M4 eM4 => ?_)
        have h := h M4 eM4
        refine jRun.cut (k := jk_X7_fewest) rfl 3 (c' := (if 0 ≤ (M4 0 10) then 61 else 58, [.ref 0, .int a1], [], M4)) (ob := True ∧ jKd T0 0 = 7 ∧ True ∧ True) rfl ⟨trivial, rfl, trivial, trivial⟩ ?_
        refine jRun.br (fun g => ?_) (fun g => ?_)
        · have h := h.1 g
          refine jRun.cut (k := jk_X7_fewest) rfl 2 (c' := (if ¬ a1 = 0 then 75 else 65, [.ref 0, .int a1], [], M4)) (ob := True ∧ True ∧ True) rfl ⟨trivial, trivial, trivial⟩ ?_
          refine jRun.brn (fun g => ?_) (fun g => ?_)
          · have h := h.1 g
            exact jRun.ret (k := jk_X7_fewest) rfl 3 (v := some (.int (M4 0 10))) (M1 := M4) (ob := True ∧ jKd T0 0 = 7 ∧ True) rfl ⟨trivial, rfl, trivial⟩ h
          · have h := h.2 g
            refine jRun.call (k := jk_X7_fewest) rfl 3 (f := q_J6_bitCount_0f7a4) (As := [.int (M4 0 10)]) (c1 := (72, [.ref 0, .int a1], [], M4)) (ob := True ∧ jKd T0 0 = 7 ∧ True) rfl ⟨trivial, rfl, trivial⟩ h (fun v M5 h => ?_)
            obtain ⟨r3, rfl, h⟩ := h
            show jRun X T0 (d + 1) q_X7_fewest (72, [.ref 0, .int a1], [.int r3], M5) Q
            exact jRun.ret (k := jk_X7_fewest) rfl 2 (v := some (.int r3)) (M1 := M5) (ob := True ∧ True) rfl ⟨trivial, trivial⟩ h
        · have h := h.2 g
          exact jRun.ret (k := jk_X7_fewest) rfl 2 (v := some (.int (-9))) (M1 := M4) (ob := True ∧ True) rfl ⟨trivial, trivial⟩ h
    · have h := h.2 g
      exact jRun.ret (k := jk_X7_fewest) rfl 2 (v := some (.int (-1))) (M1 := M) (ob := True ∧ True) rfl ⟨trivial, trivial⟩ h
theorem v_X7_odds {X : jX} {d : Nat} (hI : jInj X T0) (a1 : Int32) (a2 : Int32) (a3 : Int32) (M : jMem) (Q : Option Value → jMem → Prop) (h : jOk X T0 d q_X3_isOf [.ref 12, .int a1, .int 2] M (fun v M1 => ∃ r1, v = some (.int r1) ∧ ((r1 = 0 → Q (some (.int (-1))) M1) ∧ (¬ r1 = 0 → ((a2 < 0 → Q (some (.int (-1))) M1) ∧ (¬ a2 < 0 → ((10 < a2 → Q (some (.int (-1))) M1) ∧ (¬ 10 < a2 → ((a3 < 0 → Q (some (.int (-1))) M1) ∧ (¬ a3 < 0 → ((a3 ≤ 1 → jOk X T0 d q_X4_allOdds [.ref 48] M1 (fun v M2 => ∃ r2, v = some (.int r2) ∧ vp_in a1 32 ∧ jOk X T0 d q_X4_oddsOfLong [.ref 48, .ref 22, .int (M2 15 a1.toNatClampNeg), .int a2] M2 (fun v M3 => ∃ r3, v = some (.int r3) ∧ jOk X T0 d q_X7_commonDivisor [.int r3, .int r2] M3 (fun v M4 => ∃ r4, v = some (.int r4) ∧ ((0 < r4 → ((¬ a3 = 0 → ¬ r4 = 0 ∧ Q (some (.int (r2 / r4))) M4) ∧ (a3 = 0 → ¬ r4 = 0 ∧ Q (some (.int (r3 / r4))) M4))) ∧ (¬ 0 < r4 → Q (some (.int (-1))) M4)))))) ∧ (¬ a3 ≤ 1 → Q (some (.int (-1))) M1)))))))))))) : jOk X T0 (d + 1) q_X7_odds [.ref 0, .int a1, .int a2, .int a3] M Q := by
  refine jOk.intro (ml := 7) (ls := [.ref 0, .int a1, .int a2, .int a3, .null, .null, .null]) (jTl (by decide)) rfl (Nat.le_of_ble_eq_true rfl) rfl hI ?_
  refine jRun.call (k := jk_X7_odds) rfl 5 (f := q_X3_isOf) (As := [.ref 12, .int a1, .int 2]) (c1 := (9, [.ref 0, .int a1, .int a2, .int a3, .null, .null, .null], [], M)) (ob := True ∧ jKd T0 0 = 7 ∧ True ∧ True ∧ jKd T0 12 = 3) rfl ⟨trivial, rfl, trivial, trivial, rfl⟩ h (fun v M1 h => ?_)
  obtain ⟨r1, rfl, h⟩ := h
  show jRun X T0 (d + 1) q_X7_odds (9, [.ref 0, .int a1, .int a2, .int a3, .null, .null, .null], [.int r1], M1) Q
  refine jRun.cut (k := jk_X7_odds) rfl 1 (c' := (if r1 = 0 then 31 else 12, [.ref 0, .int a1, .int a2, .int a3, .null, .null, .null], [], M1)) (ob := True ∧ True) rfl ⟨trivial, trivial⟩ ?_
  refine jRun.br (fun g => ?_) (fun g => ?_)
  · have h := h.1 g
    exact jRun.ret (k := jk_X7_odds) rfl 2 (v := some (.int (-1))) (M1 := M1) (ob := True ∧ True) rfl ⟨trivial, trivial⟩ h
  · have h := h.2 g
    refine jRun.cut (k := jk_X7_odds) rfl 2 (c' := (if a2 < 0 then 31 else 16, [.ref 0, .int a1, .int a2, .int a3, .null, .null, .null], [], M1)) (ob := True ∧ True ∧ True) rfl ⟨trivial, trivial, trivial⟩ ?_
    refine jRun.br (fun g => ?_) (fun g => ?_)
    · have h := h.1 g
      exact jRun.ret (k := jk_X7_odds) rfl 2 (v := some (.int (-1))) (M1 := M1) (ob := True ∧ True) rfl ⟨trivial, trivial⟩ h
    · have h := h.2 g
      refine jRun.cut (k := jk_X7_odds) rfl 3 (c' := (if 10 < a2 then 31 else 22, [.ref 0, .int a1, .int a2, .int a3, .null, .null, .null], [], M1)) (ob := True ∧ True ∧ True ∧ True) rfl ⟨trivial, trivial, trivial, trivial⟩ ?_
      refine jRun.br (fun g => ?_) (fun g => ?_)
      · have h := h.1 g
        exact jRun.ret (k := jk_X7_odds) rfl 2 (v := some (.int (-1))) (M1 := M1) (ob := True ∧ True) rfl ⟨trivial, trivial⟩ h
      · have h := h.2 g
        refine jRun.cut (k := jk_X7_odds) rfl 2 (c' := (if a3 < 0 then 31 else 26, [.ref 0, .int a1, .int a2, .int a3, .null, .null, .null], [], M1)) (ob := True ∧ True ∧ True) rfl ⟨trivial, trivial, trivial⟩ ?_
        refine jRun.br (fun g => ?_) (fun g => ?_)
        · have h := h.1 g
          exact jRun.ret (k := jk_X7_odds) rfl 2 (v := some (.int (-1))) (M1 := M1) (ob := True ∧ True) rfl ⟨trivial, trivial⟩ h
        · have h := h.2 g
          refine jRun.cut (k := jk_X7_odds) rfl 3 (c' := (if a3 ≤ 1 then 33 else 31, [.ref 0, .int a1, .int a2, .int a3, .null, .null, .null], [], M1)) (ob := True ∧ True ∧ True ∧ True) rfl ⟨trivial, trivial, trivial, trivial⟩ ?_
          refine jRun.br (fun g => ?_) (fun g => ?_)
          · have h := h.1 g
            refine jRun.call (k := jk_X7_odds) rfl 3 (f := q_X4_allOdds) (As := [.ref 48]) (c1 := (40, [.ref 0, .int a1, .int a2, .int a3, .null, .null, .null], [], M1)) (ob := True ∧ jKd T0 0 = 7 ∧ jKd T0 48 = 4) rfl ⟨trivial, rfl, rfl⟩ h (fun v M2 h => ?_)
            obtain ⟨r2, rfl, h⟩ := h
            show jRun X T0 (d + 1) q_X7_odds (40, [.ref 0, .int a1, .int a2, .int a3, .null, .null, .null], [.int r2], M2) Q
            obtain ⟨o1, h⟩ := h
            refine jRun.call (k := jk_X7_odds) rfl 13 (f := q_X4_oddsOfLong) (As := [.ref 48, .ref 22, .int (M2 15 a1.toNatClampNeg), .int a2]) (c1 := (66, [.ref 0, .int a1, .int a2, .int a3, .int r2, .null, .null], [], M2)) (ob := True ∧ True ∧ jKd T0 0 = 7 ∧ True ∧ jKd T0 0 = 7 ∧ jKd T0 21 = 0 ∧ True ∧ jKd T0 0 = 7 ∧ jKd T0 12 = 3 ∧ True ∧ (jKd T0 15 = 9 ∧ vp_in a1 32) ∧ True ∧ jKd T0 48 = 4) rfl ⟨trivial, trivial, rfl, trivial, rfl, rfl, trivial, rfl, rfl, trivial, ⟨rfl, o1⟩, trivial, rfl⟩ h (fun v M3 h => ?_)
            obtain ⟨r3, rfl, h⟩ := h
            show jRun X T0 (d + 1) q_X7_odds (66, [.ref 0, .int a1, .int a2, .int a3, .int r2, .null, .null], [.int r3], M3) Q
            refine jRun.call (k := jk_X7_odds) rfl 4 (f := q_X7_commonDivisor) (As := [.int r3, .int r2]) (c1 := (75, [.ref 0, .int a1, .int a2, .int a3, .int r2, .int r3, .null], [], M3)) (ob := True ∧ True ∧ True ∧ True) rfl ⟨trivial, trivial, trivial, trivial⟩ h (fun v M4 h => ?_)
            obtain ⟨r4, rfl, h⟩ := h
            show jRun X T0 (d + 1) q_X7_odds (75, [.ref 0, .int a1, .int a2, .int a3, .int r2, .int r3, .null], [.int r4], M4) Q
            refine jRun.cut (k := jk_X7_odds) rfl 3 (c' := (if 0 < r4 then 84 else 82, [.ref 0, .int a1, .int a2, .int a3, .int r2, .int r3, .int r4], [], M4)) (ob := True ∧ True ∧ True ∧ True) rfl ⟨trivial, trivial, trivial, trivial⟩ ?_
            refine jRun.br (fun g => ?_) (fun g => ?_)
            · have h := h.1 g
              refine jRun.cut (k := jk_X7_odds) rfl 2 (c' := (if ¬ a3 = 0 then 96 else 88, [.ref 0, .int a1, .int a2, .int a3, .int r2, .int r3, .int r4], [], M4)) (ob := True ∧ True ∧ True) rfl ⟨trivial, trivial, trivial⟩ ?_
              refine jRun.brn (fun g => ?_) (fun g => ?_)
              · have h := h.1 g
                obtain ⟨o2, h⟩ := h
                exact jRun.ret (k := jk_X7_odds) rfl 4 (v := some (.int (r2 / r4))) (M1 := M4) (ob := True ∧ True ∧ ¬ r4 = 0 ∧ True) rfl ⟨trivial, trivial, o2, trivial⟩ h
              · have h := h.2 g
                obtain ⟨o3, h⟩ := h
                exact jRun.ret (k := jk_X7_odds) rfl 5 (v := some (.int (r3 / r4))) (M1 := M4) (ob := True ∧ True ∧ ¬ r4 = 0 ∧ True ∧ True) rfl ⟨trivial, trivial, o3, trivial, trivial⟩ h
            · have h := h.2 g
              exact jRun.ret (k := jk_X7_odds) rfl 2 (v := some (.int (-1))) (M1 := M4) (ob := True ∧ True) rfl ⟨trivial, trivial⟩ h
          · have h := h.2 g
            exact jRun.ret (k := jk_X7_odds) rfl 2 (v := some (.int (-1))) (M1 := M1) (ob := True ∧ True) rfl ⟨trivial, trivial⟩ h
theorem v_X7_keep {X : jX} {d : Nat} (hI : jInj X T0) (a1 : Int32) (M : jMem) (Q : Option Value → jMem → Prop) (h : ((a1 < 0 → Q (some (.int (-1))) M) ∧ (¬ a1 < 0 → ((a1 ≤ 1 → jOk X T0 d q_X7_imageOf [.ref 0, .int a1] M (fun v M1 => ∃ r1, v = some (.ref r1) ∧ jKd T0 r1 = 0 ∧ jOk X T0 d q_X0_becomeAs [.ref r1, .ref 21] M1 (fun v M2 => v = none ∧ jOk X T0 d q_X5_islandCount [.ref 22] M2 (fun v M3 => ∃ r3, v = some (.int r3) ∧ Q (some (.int r3)) M3)))) ∧ (¬ a1 ≤ 1 → Q (some (.int (-1))) M))))) : jOk X T0 (d + 1) q_X7_keep [.ref 0, .int a1] M Q := by
  refine jOk.intro (ml := 2) (ls := [.ref 0, .int a1]) (jTl (by decide)) rfl (Nat.le_of_ble_eq_true rfl) rfl hI ?_
  refine jRun.cut (k := jk_X7_keep) rfl 2 (c' := (if a1 < 0 then 9 else 4, [.ref 0, .int a1], [], M)) (ob := True ∧ True ∧ True) rfl ⟨trivial, trivial, trivial⟩ ?_
  refine jRun.br (fun g => ?_) (fun g => ?_)
  · have h := h.1 g
    exact jRun.ret (k := jk_X7_keep) rfl 2 (v := some (.int (-1))) (M1 := M) (ob := True ∧ True) rfl ⟨trivial, trivial⟩ h
  · have h := h.2 g
    refine jRun.cut (k := jk_X7_keep) rfl 3 (c' := (if a1 ≤ 1 then 11 else 9, [.ref 0, .int a1], [], M)) (ob := True ∧ True ∧ True ∧ True) rfl ⟨trivial, trivial, trivial, trivial⟩ ?_
    refine jRun.br (fun g => ?_) (fun g => ?_)
    · have h := h.1 g
      refine jRun.call (k := jk_X7_keep) rfl 3 (f := q_X7_imageOf) (As := [.ref 0, .int a1]) (c1 := (16, [.ref 0, .int a1], [], M)) (ob := True ∧ True ∧ jKd T0 0 = 7) rfl ⟨trivial, trivial, rfl⟩ h (fun v M1 h => ?_)
      obtain ⟨r1, rfl, h⟩ := h
      show jRun X T0 (d + 1) q_X7_keep (16, [.ref 0, .int a1], [.ref r1], M1) Q
      obtain ⟨o1, h⟩ := h
      refine jRun.call (k := jk_X7_keep) rfl 3 (f := q_X0_becomeAs) (As := [.ref r1, .ref 21]) (c1 := (23, [.ref 0, .int a1], [], M1)) (ob := True ∧ jKd T0 0 = 7 ∧ jKd T0 r1 = 0) rfl ⟨trivial, rfl, o1⟩ h (fun v M2 h => ?_)
      obtain ⟨rfl, h⟩ := h
      show jRun X T0 (d + 1) q_X7_keep (23, [.ref 0, .int a1], [], M2) Q
      refine jRun.call (k := jk_X7_keep) rfl 4 (f := q_X5_islandCount) (As := [.ref 22]) (c1 := (33, [.ref 0, .int a1], [], M2)) (ob := True ∧ jKd T0 0 = 7 ∧ jKd T0 21 = 0 ∧ jKd T0 22 = 5) rfl ⟨trivial, rfl, rfl, rfl⟩ h (fun v M3 h => ?_)
      obtain ⟨r3, rfl, h⟩ := h
      show jRun X T0 (d + 1) q_X7_keep (33, [.ref 0, .int a1], [.int r3], M3) Q
      exact jRun.ret (k := jk_X7_keep) rfl 1 (v := some (.int r3)) (M1 := M3) (ob := True) rfl trivial h
    · have h := h.2 g
      exact jRun.ret (k := jk_X7_keep) rfl 2 (v := some (.int (-1))) (M1 := M) (ob := True ∧ True) rfl ⟨trivial, trivial⟩ h
theorem v_X7_back {X : jX} {d : Nat} (hI : jInj X T0) (a1 : Int32) (M : jMem) (Q : Option Value → jMem → Prop) (h : ((a1 < 0 → Q (some (.int (-1))) M) ∧ (¬ a1 < 0 → ((a1 ≤ 1 → jOk X T0 d q_X7_imageOf [.ref 0, .int a1] M (fun v M1 => ∃ r1, v = some (.ref r1) ∧ jKd T0 r1 = 0 ∧ ((¬ (M1 r1 2) = 0 → jOk X T0 d q_X7_imageOf [.ref 0, .int a1] M1 (fun v M2 => ∃ r2, v = some (.ref r2) ∧ jOk X T0 d q_X0_becomeAs [.ref 21, .ref r2] M2 (fun v M3 => v = none ∧ (∀ M4, M4 = jP M3 0 11 0 → jOk X T0 d q_X5_islandCount [.ref 22] M4 (fun v M5 => ∃ r4, v = some (.int r4) ∧ Q (some (.int r4)) M5))))) ∧ ((M1 r1 2) = 0 → Q (some (.int (-2))) M1)))) ∧ (¬ a1 ≤ 1 → Q (some (.int (-1))) M))))) : jOk X T0 (d + 1) q_X7_back [.ref 0, .int a1] M Q := by
  refine jOk.intro (ml := 2) (ls := [.ref 0, .int a1]) (jTl (by decide)) rfl (Nat.le_of_ble_eq_true rfl) rfl hI ?_
  refine jRun.cut (k := jk_X7_back) rfl 2 (c' := (if a1 < 0 then 9 else 4, [.ref 0, .int a1], [], M)) (ob := True ∧ True ∧ True) rfl ⟨trivial, trivial, trivial⟩ ?_
  refine jRun.br (fun g => ?_) (fun g => ?_)
  · have h := h.1 g
    exact jRun.ret (k := jk_X7_back) rfl 2 (v := some (.int (-1))) (M1 := M) (ob := True ∧ True) rfl ⟨trivial, trivial⟩ h
  · have h := h.2 g
    refine jRun.cut (k := jk_X7_back) rfl 3 (c' := (if a1 ≤ 1 then 11 else 9, [.ref 0, .int a1], [], M)) (ob := True ∧ True ∧ True ∧ True) rfl ⟨trivial, trivial, trivial, trivial⟩ ?_
    refine jRun.br (fun g => ?_) (fun g => ?_)
    · have h := h.1 g
      refine jRun.call (k := jk_X7_back) rfl 3 (f := q_X7_imageOf) (As := [.ref 0, .int a1]) (c1 := (16, [.ref 0, .int a1], [], M)) (ob := True ∧ True ∧ jKd T0 0 = 7) rfl ⟨trivial, trivial, rfl⟩ h (fun v M1 h => ?_)
      obtain ⟨r1, rfl, h⟩ := h
      show jRun X T0 (d + 1) q_X7_back (16, [.ref 0, .int a1], [.ref r1], M1) Q
      obtain ⟨o1, h⟩ := h
      refine jRun.cut (k := jk_X7_back) rfl 2 (c' := (if ¬ (M1 r1 2) = 0 then 25 else 22, [.ref 0, .int a1], [], M1)) (ob := jKd T0 r1 = 0 ∧ True ∧ True) rfl ⟨o1, trivial, trivial⟩ ?_
      refine jRun.brn (fun g => ?_) (fun g => ?_)
      · have h := h.1 g
        refine jRun.call (k := jk_X7_back) rfl 5 (f := q_X7_imageOf) (As := [.ref 0, .int a1]) (c1 := (34, [.ref 0, .int a1], [.ref 21], M1)) (ob := True ∧ jKd T0 0 = 7 ∧ True ∧ True ∧ jKd T0 0 = 7) rfl ⟨trivial, rfl, trivial, trivial, rfl⟩ h (fun v M2 h => ?_)
        obtain ⟨r2, rfl, h⟩ := h
        show jRun X T0 (d + 1) q_X7_back (34, [.ref 0, .int a1], [.ref r2, .ref 21], M2) Q
        refine jRun.call (k := jk_X7_back) rfl 1 (f := q_X0_becomeAs) (As := [.ref 21, .ref r2]) (c1 := (37, [.ref 0, .int a1], [], M2)) (ob := jKd T0 21 = 0) rfl rfl h (fun v M3 h => ?_)
        obtain ⟨rfl, h⟩ := h
        show jRun X T0 (d + 1) q_X7_back (37, [.ref 0, .int a1], [], M3) Q
        refine jRun.cut (k := jk_X7_back) rfl 3 (c' := (42, [.ref 0, .int a1], [], (jP M3 0 11 0))) (ob := True ∧ True ∧ jKd T0 0 = 7 ∧ True) rfl ⟨trivial, trivial, rfl, trivial⟩ ?_
        refine jRun.nm (fun M4 eM4 => ?_)
        have h := h M4 eM4
        refine jRun.call (k := jk_X7_back) rfl 4 (f := q_X5_islandCount) (As := [.ref 22]) (c1 := (52, [.ref 0, .int a1], [], M4)) (ob := True ∧ jKd T0 0 = 7 ∧ jKd T0 21 = 0 ∧ jKd T0 22 = 5) rfl ⟨trivial, rfl, rfl, rfl⟩ h (fun v M5 h => ?_)
        obtain ⟨r4, rfl, h⟩ := h
        show jRun X T0 (d + 1) q_X7_back (52, [.ref 0, .int a1], [.int r4], M5) Q
        exact jRun.ret (k := jk_X7_back) rfl 1 (v := some (.int r4)) (M1 := M5) (ob := True) rfl trivial h
      · have h := h.2 g
        exact jRun.ret (k := jk_X7_back) rfl 2 (v := some (.int (-2))) (M1 := M1) (ob := True ∧ True) rfl ⟨trivial, trivial⟩ h
    · have h := h.2 g
      exact jRun.ret (k := jk_X7_back) rfl 2 (v := some (.int (-1))) (M1 := M) (ob := True ∧ True) rfl ⟨trivial, trivial⟩ h
theorem v_X7_count {X : jX} {d : Nat} (hI : jInj X T0) (a1 : Int32) (M : jMem) (Q : Option Value → jMem → Prop) (h : ((a1 = 0 → Q (some (.int (M 12 8))) M) ∧ (¬ a1 = 0 → ((a1 = 1 → Q (some (.int (M 12 10))) M) ∧ (¬ a1 = 1 → ((a1 = 2 → Q (some (.int (M 12 11))) M) ∧ (¬ a1 = 2 → ((a1 = 3 → Q (some (.int (M 12 12))) M) ∧ (¬ a1 = 3 → ((a1 = 4 → Q (some (.int (M 12 9))) M) ∧ (¬ a1 = 4 → ((a1 = 5 → Q (some (.int (M 12 13))) M) ∧ (¬ a1 = 5 → ((a1 = 6 → jOk X T0 d q_X5_islandCount [.ref 22] M (fun v M1 => ∃ r1, v = some (.int r1) ∧ Q (some (.int r1)) M1)) ∧ (¬ a1 = 6 → ((a1 = 7 → Q (some (.int (M 24 3))) M) ∧ (¬ a1 = 7 → ((a1 = 8 → Q (some (.int (M 1 1))) M) ∧ (¬ a1 = 8 → Q (some (.int (-1))) M))))))))))))))))))) : jOk X T0 (d + 1) q_X7_count [.ref 0, .int a1] M Q := by
  refine jOk.intro (ml := 2) (ls := [.ref 0, .int a1]) (jTl (by decide)) rfl (Nat.le_of_ble_eq_true rfl) rfl hI ?_
  refine jRun.cut (k := jk_X7_count) rfl 2 (c' := (if a1 = 0 then 52 else if a1 = 1 then 60 else if a1 = 2 then 68 else if a1 = 3 then 76 else if a1 = 4 then 84 else if a1 = 5 then 92 else if a1 = 6 then 100 else if a1 = 7 then 111 else if a1 = 8 then 122 else 130, [.ref 0, .int a1], [], M)) (ob := True ∧ True ∧ True) rfl ⟨trivial, trivial, trivial⟩ ?_
  refine jRun.br (fun g => ?_) (fun g => ?_)
  · have h := h.1 g
    exact jRun.ret (k := jk_X7_count) rfl 4 (v := some (.int (M 12 8))) (M1 := M) (ob := True ∧ jKd T0 0 = 7 ∧ jKd T0 12 = 3 ∧ True) rfl ⟨trivial, rfl, rfl, trivial⟩ h
  · have h := h.2 g
    refine jRun.br (fun g => ?_) (fun g => ?_)
    · have h := h.1 g
      exact jRun.ret (k := jk_X7_count) rfl 4 (v := some (.int (M 12 10))) (M1 := M) (ob := True ∧ jKd T0 0 = 7 ∧ jKd T0 12 = 3 ∧ True) rfl ⟨trivial, rfl, rfl, trivial⟩ h
    · have h := h.2 g
      refine jRun.br (fun g => ?_) (fun g => ?_)
      · have h := h.1 g
        exact jRun.ret (k := jk_X7_count) rfl 4 (v := some (.int (M 12 11))) (M1 := M) (ob := True ∧ jKd T0 0 = 7 ∧ jKd T0 12 = 3 ∧ True) rfl ⟨trivial, rfl, rfl, trivial⟩ h
      · have h := h.2 g
        refine jRun.br (fun g => ?_) (fun g => ?_)
        · have h := h.1 g
          exact jRun.ret (k := jk_X7_count) rfl 4 (v := some (.int (M 12 12))) (M1 := M) (ob := True ∧ jKd T0 0 = 7 ∧ jKd T0 12 = 3 ∧ True) rfl ⟨trivial, rfl, rfl, trivial⟩ h
        · have h := h.2 g
          refine jRun.br (fun g => ?_) (fun g => ?_)
          · have h := h.1 g
            exact jRun.ret (k := jk_X7_count) rfl 4 (v := some (.int (M 12 9))) (M1 := M) (ob := True ∧ jKd T0 0 = 7 ∧ jKd T0 12 = 3 ∧ True) rfl ⟨trivial, rfl, rfl, trivial⟩ h
          · have h := h.2 g
            refine jRun.br (fun g => ?_) (fun g => ?_)
            · have h := h.1 g
              exact jRun.ret (k := jk_X7_count) rfl 4 (v := some (.int (M 12 13))) (M1 := M) (ob := True ∧ jKd T0 0 = 7 ∧ jKd T0 12 = 3 ∧ True) rfl ⟨trivial, rfl, rfl, trivial⟩ h
            · have h := h.2 g
              refine jRun.br (fun g => ?_) (fun g => ?_)
              · have h := h.1 g
                refine jRun.call (k := jk_X7_count) rfl 4 (f := q_X5_islandCount) (As := [.ref 22]) (c1 := (110, [.ref 0, .int a1], [], M)) (ob := True ∧ jKd T0 0 = 7 ∧ jKd T0 21 = 0 ∧ jKd T0 22 = 5) rfl ⟨trivial, rfl, rfl, rfl⟩ h (fun v M1 h => ?_)
                obtain ⟨r1, rfl, h⟩ := h
                show jRun X T0 (d + 1) q_X7_count (110, [.ref 0, .int a1], [.int r1], M1) Q
                exact jRun.ret (k := jk_X7_count) rfl 1 (v := some (.int r1)) (M1 := M1) (ob := True) rfl trivial h
              · have h := h.2 g
                refine jRun.br (fun g => ?_) (fun g => ?_)
                · have h := h.1 g
                  exact jRun.ret (k := jk_X7_count) rfl 5 (v := some (.int (M 24 3))) (M1 := M) (ob := True ∧ jKd T0 0 = 7 ∧ jKd T0 21 = 0 ∧ jKd T0 24 = 2 ∧ True) rfl ⟨trivial, rfl, rfl, rfl, trivial⟩ h
                · have h := h.2 g
                  refine jRun.br (fun g => ?_) (fun g => ?_)
                  · have h := h.1 g
                    exact jRun.ret (k := jk_X7_count) rfl 4 (v := some (.int (M 1 1))) (M1 := M) (ob := True ∧ jKd T0 0 = 7 ∧ jKd T0 1 = 6 ∧ True) rfl ⟨trivial, rfl, rfl, trivial⟩ h
                  · have h := h.2 g
                    exact jRun.ret (k := jk_X7_count) rfl 2 (v := some (.int (-1))) (M1 := M) (ob := True ∧ True) rfl ⟨trivial, trivial⟩ h
theorem v_X7_valueNow {X : jX} {d : Nat} (hI : jInj X T0) (a1 : Int32) (M : jMem) (Q : Option Value → jMem → Prop) (h : vp_in a1 32 ∧ ((¬ (M 13 a1.toNatClampNeg) = 0 → ((¬ (M 13 a1.toNatClampNeg) = 5 → Q (some (.int (M 14 a1.toNatClampNeg))) M) ∧ ((M 13 a1.toNatClampNeg) = 5 → jOk X T0 d q_X5_islandsIn [.ref 22, .int (M 15 a1.toNatClampNeg)] M (fun v M1 => ∃ r1, v = some (.int r1) ∧ Q (some (.int r1)) M1)))) ∧ ((M 13 a1.toNatClampNeg) = 0 → Q (some (.int (M 23 a1.toNatClampNeg))) M))) : jOk X T0 (d + 1) q_X7_valueNow [.ref 0, .int a1] M Q := by
  refine jOk.intro (ml := 3) (ls := [.ref 0, .int a1, .null]) (jTl (by decide)) rfl (Nat.le_of_ble_eq_true rfl) rfl hI ?_
  obtain ⟨o1, h⟩ := h
  refine jRun.cut (k := jk_X7_valueNow) rfl 8 (c' := (if ¬ (M 13 a1.toNatClampNeg) = 0 then 27 else 14, [.ref 0, .int a1, .int (M 13 a1.toNatClampNeg)], [], M)) (ob := True ∧ jKd T0 0 = 7 ∧ jKd T0 12 = 3 ∧ True ∧ (jKd T0 13 = 9 ∧ vp_in a1 32) ∧ True ∧ True ∧ True ∧ True) rfl ⟨trivial, rfl, rfl, trivial, ⟨rfl, o1⟩, trivial, trivial, trivial, trivial⟩ ?_
  refine jRun.brn (fun g => ?_) (fun g => ?_)
  · have h := h.1 g
    refine jRun.cut (k := jk_X7_valueNow) rfl 3 (c' := (if ¬ (M 13 a1.toNatClampNeg) = 5 then 52 else 32, [.ref 0, .int a1, .int (M 13 a1.toNatClampNeg)], [], M)) (ob := True ∧ True ∧ True ∧ True) rfl ⟨trivial, trivial, trivial, trivial⟩ ?_
    refine jRun.brn (fun g => ?_) (fun g => ?_)
    · have h := h.1 g
      exact jRun.ret (k := jk_X7_valueNow) rfl 6 (v := some (.int (M 14 a1.toNatClampNeg))) (M1 := M) (ob := True ∧ jKd T0 0 = 7 ∧ jKd T0 12 = 3 ∧ True ∧ (jKd T0 14 = 9 ∧ vp_in a1 32) ∧ True) rfl ⟨trivial, rfl, rfl, trivial, ⟨rfl, o1⟩, trivial⟩ h
    · have h := h.2 g
      refine jRun.call (k := jk_X7_valueNow) rfl 9 (f := q_X5_islandsIn) (As := [.ref 22, .int (M 15 a1.toNatClampNeg)]) (c1 := (51, [.ref 0, .int a1, .int (M 13 a1.toNatClampNeg)], [], M)) (ob := True ∧ jKd T0 0 = 7 ∧ jKd T0 21 = 0 ∧ True ∧ jKd T0 0 = 7 ∧ jKd T0 12 = 3 ∧ True ∧ (jKd T0 15 = 9 ∧ vp_in a1 32) ∧ jKd T0 22 = 5) rfl ⟨trivial, rfl, rfl, trivial, rfl, rfl, trivial, ⟨rfl, o1⟩, rfl⟩ h (fun v M1 h => ?_)
      obtain ⟨r1, rfl, h⟩ := h
      show jRun X T0 (d + 1) q_X7_valueNow (51, [.ref 0, .int a1, .int (M 13 a1.toNatClampNeg)], [.int r1], M1) Q
      exact jRun.ret (k := jk_X7_valueNow) rfl 1 (v := some (.int r1)) (M1 := M1) (ob := True) rfl trivial h
  · have h := h.2 g
    exact jRun.ret (k := jk_X7_valueNow) rfl 7 (v := some (.int (M 23 a1.toNatClampNeg))) (M1 := M) (ob := True ∧ jKd T0 0 = 7 ∧ jKd T0 21 = 0 ∧ jKd T0 22 = 5 ∧ True ∧ (jKd T0 23 = 9 ∧ vp_in a1 32) ∧ True) rfl ⟨trivial, rfl, rfl, rfl, trivial, ⟨rfl, o1⟩, trivial⟩ h
theorem v_X7_mayHoldIsland {X : jX} {d : Nat} (hI : jInj X T0) (a1 : Int32) (a2 : Int32) (M : jMem) (Q : Option Value → jMem → Prop) (h : ((a1 < 0 → Q (some (.int 0)) M) ∧ (¬ a1 < 0 → (((M 12 12) ≤ a1 → Q (some (.int 0)) M) ∧ (¬ (M 12 12) ≤ a1 → jOk X T0 d q_X3_hasLabel [.ref 12, .int a2] M (fun v M1 => ∃ r1, v = some (.int r1) ∧ ((r1 = 0 → Q (some (.int 0)) M1) ∧ (¬ r1 = 0 → Q (some (.int 1)) M1)))))))) : jOk X T0 (d + 1) q_X7_mayHoldIsland [.ref 0, .int a1, .int a2] M Q := by
  refine jOk.intro (ml := 3) (ls := [.ref 0, .int a1, .int a2]) (jTl (by decide)) rfl (Nat.le_of_ble_eq_true rfl) rfl hI ?_
  refine jRun.cut (k := jk_X7_mayHoldIsland) rfl 2 (c' := (if a1 < 0 then 30 else 4, [.ref 0, .int a1, .int a2], [], M)) (ob := True ∧ True ∧ True) rfl ⟨trivial, trivial, trivial⟩ ?_
  refine jRun.br (fun g => ?_) (fun g => ?_)
  · have h := h.1 g
    exact jRun.ret (k := jk_X7_mayHoldIsland) rfl 2 (v := some (.int 0)) (M1 := M) (ob := True ∧ (0 = 0 ∨ 0 = 1)) rfl ⟨trivial, (Or.inl rfl)⟩ h
  · have h := h.2 g
    refine jRun.cut (k := jk_X7_mayHoldIsland) rfl 5 (c' := (if (M 12 12) ≤ a1 then 30 else 15, [.ref 0, .int a1, .int a2], [], M)) (ob := True ∧ True ∧ jKd T0 0 = 7 ∧ jKd T0 12 = 3 ∧ True ∧ True) rfl ⟨trivial, trivial, rfl, rfl, trivial, trivial⟩ ?_
    refine jRun.br (fun g => ?_) (fun g => ?_)
    · have h := h.1 g
      exact jRun.ret (k := jk_X7_mayHoldIsland) rfl 2 (v := some (.int 0)) (M1 := M) (ob := True ∧ (0 = 0 ∨ 0 = 1)) rfl ⟨trivial, (Or.inl rfl)⟩ h
    · have h := h.2 g
      refine jRun.call (k := jk_X7_mayHoldIsland) rfl 4 (f := q_X3_hasLabel) (As := [.ref 12, .int a2]) (c1 := (23, [.ref 0, .int a1, .int a2], [], M)) (ob := True ∧ jKd T0 0 = 7 ∧ True ∧ jKd T0 12 = 3) rfl ⟨trivial, rfl, trivial, rfl⟩ h (fun v M1 h => ?_)
      obtain ⟨r1, rfl, h⟩ := h
      show jRun X T0 (d + 1) q_X7_mayHoldIsland (23, [.ref 0, .int a1, .int a2], [.int r1], M1) Q
      refine jRun.cut (k := jk_X7_mayHoldIsland) rfl 1 (c' := (if r1 = 0 then 30 else 26, [.ref 0, .int a1, .int a2], [], M1)) (ob := True ∧ True) rfl ⟨trivial, trivial⟩ ?_
      refine jRun.br (fun g => ?_) (fun g => ?_)
      · have h := h.1 g
        exact jRun.ret (k := jk_X7_mayHoldIsland) rfl 2 (v := some (.int 0)) (M1 := M1) (ob := True ∧ (0 = 0 ∨ 0 = 1)) rfl ⟨trivial, (Or.inl rfl)⟩ h
      · have h := h.2 g
        exact jRun.ret (k := jk_X7_mayHoldIsland) rfl 3 (v := some (.int 1)) (M1 := M1) (ob := True ∧ True ∧ (1 = 0 ∨ 1 = 1)) rfl ⟨trivial, trivial, (Or.inr rfl)⟩ h
theorem v_X7_turnIsland {X : jX} {d : Nat} (hI : jInj X T0) (a1 : Int32) (a2 : Int32) (M : jMem) (Q : Option Value → jMem → Prop) (h : jOk X T0 d q_X2_remember [.ref 24, .int 2, .int a1, .int (M 22 2)] M (fun v M1 => v = none ∧ (∀ M2, M2 = jP M1 22 2 ((M 22 2) ^^^ (1 <<< (((8 * a1) + a2) &&& 31))) → (∀ M3, M3 = jP M2 0 11 0 → jOk X T0 d q_X5_islandCount [.ref 22] M3 (fun v M4 => ∃ r2, v = some (.int r2) ∧ Q (some (.int r2)) M4))))) : jOk X T0 (d + 1) q_X7_turnIsland [.ref 0, .int a1, .int a2] M Q := by
  refine jOk.intro (ml := 4) (ls := [.ref 0, .int a1, .int a2, .null]) (jTl (by decide)) rfl (Nat.le_of_ble_eq_true rfl) rfl hI ?_
  refine jRun.call (k := jk_X7_turnIsland) rfl 12 (f := q_X2_remember) (As := [.ref 24, .int 2, .int a1, .int (M 22 2)]) (c1 := (24, [.ref 0, .int a1, .int a2, .int (M 22 2)], [], M)) (ob := True ∧ jKd T0 0 = 7 ∧ jKd T0 21 = 0 ∧ jKd T0 22 = 5 ∧ True ∧ True ∧ jKd T0 0 = 7 ∧ jKd T0 21 = 0 ∧ True ∧ True ∧ True ∧ jKd T0 24 = 2) rfl ⟨trivial, rfl, rfl, rfl, trivial, trivial, rfl, rfl, trivial, trivial, trivial, rfl⟩ h (fun v M1 h => ?_)
  obtain ⟨rfl, h⟩ := h
  show jRun X T0 (d + 1) q_X7_turnIsland (24, [.ref 0, .int a1, .int a2, .int (M 22 2)], [], M1) Q
  refine jRun.cut (k := jk_X7_turnIsland) rfl 13 (c' := (44, [.ref 0, .int a1, .int a2, .int (M 22 2)], [], (jP M1 22 2 ((M 22 2) ^^^ (1 <<< (((8 * a1) + a2) &&& 31)))))) (ob := True ∧ jKd T0 0 = 7 ∧ jKd T0 21 = 0 ∧ True ∧ True ∧ True ∧ True ∧ True ∧ True ∧ True ∧ True ∧ True ∧ jKd T0 22 = 5 ∧ True) rfl ⟨trivial, rfl, rfl, trivial, trivial, trivial, trivial, trivial, trivial, trivial, trivial, trivial, rfl, trivial⟩ ?_
  refine jRun.nm (fun M2 eM2 => ?_)
  have h := h M2 eM2
  refine jRun.cut (k := jk_X7_turnIsland) rfl 3 (c' := (49, [.ref 0, .int a1, .int a2, .int (M 22 2)], [], (jP M2 0 11 0))) (ob := True ∧ True ∧ jKd T0 0 = 7 ∧ True) rfl ⟨trivial, trivial, rfl, trivial⟩ ?_
  refine jRun.nm (fun M3 eM3 => ?_)
  have h := h M3 eM3
  refine jRun.call (k := jk_X7_turnIsland) rfl 4 (f := q_X5_islandCount) (As := [.ref 22]) (c1 := (59, [.ref 0, .int a1, .int a2, .int (M 22 2)], [], M3)) (ob := True ∧ jKd T0 0 = 7 ∧ jKd T0 21 = 0 ∧ jKd T0 22 = 5) rfl ⟨trivial, rfl, rfl, rfl⟩ h (fun v M4 h => ?_)
  obtain ⟨r2, rfl, h⟩ := h
  show jRun X T0 (d + 1) q_X7_turnIsland (59, [.ref 0, .int a1, .int a2, .int (M 22 2)], [.int r2], M4) Q
  exact jRun.ret (k := jk_X7_turnIsland) rfl 1 (v := some (.int r2)) (M1 := M4) (ob := True) rfl trivial h
theorem v_X7_isWay {X : jX} {d : Nat} (hI : jInj X T0) (a0 : Int32) (M : jMem) (Q : Option Value → jMem → Prop) (h : ((a0 < 0 → Q (some (.int 0)) M) ∧ (¬ a0 < 0 → ((3 ≤ a0 → Q (some (.int 0)) M) ∧ (¬ 3 ≤ a0 → Q (some (.int 1)) M))))) : jOk X T0 d q_X7_isWay [.int a0] M Q := by
  refine jOk.intro (ml := 1) (ls := [.int a0]) (jTl (by decide)) rfl (Nat.le_of_ble_eq_true rfl) rfl hI ?_
  refine jRun.cut (k := jk_X7_isWay) rfl 2 (c' := (if a0 < 0 then 13 else 4, [.int a0], [], M)) (ob := True ∧ True ∧ True) rfl ⟨trivial, trivial, trivial⟩ ?_
  refine jRun.br (fun g => ?_) (fun g => ?_)
  · have h := h.1 g
    exact jRun.ret (k := jk_X7_isWay) rfl 2 (v := some (.int 0)) (M1 := M) (ob := True ∧ (0 = 0 ∨ 0 = 1)) rfl ⟨trivial, (Or.inl rfl)⟩ h
  · have h := h.2 g
    refine jRun.cut (k := jk_X7_isWay) rfl 3 (c' := (if 3 ≤ a0 then 13 else 9, [.int a0], [], M)) (ob := True ∧ True ∧ True ∧ True) rfl ⟨trivial, trivial, trivial, trivial⟩ ?_
    refine jRun.br (fun g => ?_) (fun g => ?_)
    · have h := h.1 g
      exact jRun.ret (k := jk_X7_isWay) rfl 2 (v := some (.int 0)) (M1 := M) (ob := True ∧ (0 = 0 ∨ 0 = 1)) rfl ⟨trivial, (Or.inl rfl)⟩ h
    · have h := h.2 g
      exact jRun.ret (k := jk_X7_isWay) rfl 3 (v := some (.int 1)) (M1 := M) (ob := True ∧ True ∧ (1 = 0 ∨ 1 = 1)) rfl ⟨trivial, trivial, (Or.inr rfl)⟩ h
theorem v_X7_layoutOf {X : jX} {d : Nat} (hI : jInj X T0) (a1 : Int32) (M : jMem) (Q : Option Value → jMem → Prop) (h : ((¬ a1 = 0 → ((¬ a1 = 1 → jRun X T0 (d + 1) q_X7_layoutOf (27, [.ref 0, .int a1, .null], [.ref 46], M) Q) ∧ (a1 = 1 → jRun X T0 (d + 1) q_X7_layoutOf (27, [.ref 0, .int a1, .null], [.ref 44], M) Q))) ∧ (a1 = 0 → jRun X T0 (d + 1) q_X7_layoutOf (27, [.ref 0, .int a1, .null], [.ref 42], M) Q))) : jOk X T0 (d + 1) q_X7_layoutOf [.ref 0, .int a1] M Q := by
  refine jOk.intro (ml := 3) (ls := [.ref 0, .int a1, .null]) (jTl (by decide)) rfl (Nat.le_of_ble_eq_true rfl) rfl hI ?_
  refine jRun.cut (k := jk_X7_layoutOf) rfl 2 (c' := (if ¬ a1 = 0 then 11 else 4, [.ref 0, .int a1, .null], [], M)) (ob := True ∧ True ∧ True) rfl ⟨trivial, trivial, trivial⟩ ?_
  refine jRun.brn (fun g => ?_) (fun g => ?_)
  · have h := h.1 g
    refine jRun.cut (k := jk_X7_layoutOf) rfl 3 (c' := (if ¬ a1 = 1 then 23 else 16, [.ref 0, .int a1, .null], [], M)) (ob := True ∧ True ∧ True ∧ True) rfl ⟨trivial, trivial, trivial, trivial⟩ ?_
    refine jRun.brn (fun g => ?_) (fun g => ?_)
    · have h := h.1 g
      refine jRun.cut (k := jk_X7_layoutOf) rfl 2 (c' := (27, [.ref 0, .int a1, .null], [.ref 46], M)) (ob := True ∧ jKd T0 0 = 7 ∧ True) rfl ⟨trivial, rfl, trivial⟩ ?_
      exact h
    · have h := h.2 g
      refine jRun.cut (k := jk_X7_layoutOf) rfl 3 (c' := (27, [.ref 0, .int a1, .null], [.ref 44], M)) (ob := True ∧ jKd T0 0 = 7 ∧ True ∧ True) rfl ⟨trivial, rfl, trivial, trivial⟩ ?_
      exact h
  · have h := h.2 g
    refine jRun.cut (k := jk_X7_layoutOf) rfl 3 (c' := (27, [.ref 0, .int a1, .null], [.ref 42], M)) (ob := True ∧ jKd T0 0 = 7 ∧ True ∧ True) rfl ⟨trivial, rfl, trivial, trivial⟩ ?_
    exact h
theorem v_X7_layoutOf_27 {X : jX} {d : Nat} (a1 : Int32) (s0 : Nat) (M : jMem) (Q : Option Value → jMem → Prop) (h : ((¬ (((M 0 11) >>> (a1 &&& 31)) &&& 1) = 0 → Q (some (.ref s0)) M) ∧ ((((M 0 11) >>> (a1 &&& 31)) &&& 1) = 0 → ((¬ a1 = 0 → ((¬ a1 = 1 → jKd T0 s0 = 1 ∧ jOk X T0 d q_X1_tryAll [.ref s0, .ref 22] M (fun v M1 => v = none ∧ jRun X T0 (d + 1) q_X7_layoutOf (97, [.ref 0, .int a1, .ref s0], [], M1) Q)) ∧ (a1 = 1 → jKd T0 s0 = 1 ∧ jOk X T0 d q_X1_shrink [.ref s0, .ref 22] M (fun v M2 => v = none ∧ jRun X T0 (d + 1) q_X7_layoutOf (97, [.ref 0, .int a1, .ref s0], [], M2) Q)))) ∧ (a1 = 0 → jKd T0 s0 = 1 ∧ jOk X T0 d q_X1_growFrom [.ref s0, .ref 22, .int (M 22 1)] M (fun v M3 => v = none ∧ jRun X T0 (d + 1) q_X7_layoutOf (97, [.ref 0, .int a1, .ref s0], [], M3) Q)))))) : jRun X T0 (d + 1) q_X7_layoutOf (27, [.ref 0, .int a1, .null], [.ref s0], M) Q := by
  refine jRun.cut (k := jk_X7_layoutOf) rfl 8 (c' := (if ¬ (((M 0 11) >>> (a1 &&& 31)) &&& 1) = 0 then 109 else 39, [.ref 0, .int a1, .ref s0], [], M)) (ob := True ∧ True ∧ jKd T0 0 = 7 ∧ True ∧ True ∧ True ∧ True ∧ True ∧ True) rfl ⟨trivial, trivial, rfl, trivial, trivial, trivial, trivial, trivial, trivial⟩ ?_
  refine jRun.brn (fun g => ?_) (fun g => ?_)
  · have h := h.1 g
    exact jRun.ret (k := jk_X7_layoutOf) rfl 2 (v := some (.ref s0)) (M1 := M) (ob := True ∧ True) rfl ⟨trivial, trivial⟩ h
  · have h := h.2 g
    refine jRun.cut (k := jk_X7_layoutOf) rfl 2 (c' := (if ¬ a1 = 0 then 67 else 43, [.ref 0, .int a1, .ref s0], [], M)) (ob := True ∧ True ∧ True) rfl ⟨trivial, trivial, trivial⟩ ?_
    refine jRun.brn (fun g => ?_) (fun g => ?_)
    · have h := h.1 g
      refine jRun.cut (k := jk_X7_layoutOf) rfl 3 (c' := (if ¬ a1 = 1 then 86 else 72, [.ref 0, .int a1, .ref s0], [], M)) (ob := True ∧ True ∧ True ∧ True) rfl ⟨trivial, trivial, trivial, trivial⟩ ?_
      refine jRun.brn (fun g => ?_) (fun g => ?_)
      · have h := h.1 g
        obtain ⟨o1, h⟩ := h
        refine jRun.call (k := jk_X7_layoutOf) rfl 5 (f := q_X1_tryAll) (As := [.ref s0, .ref 22]) (c1 := (97, [.ref 0, .int a1, .ref s0], [], M)) (ob := True ∧ True ∧ jKd T0 0 = 7 ∧ jKd T0 21 = 0 ∧ jKd T0 s0 = 1) rfl ⟨trivial, trivial, rfl, rfl, o1⟩ h (fun v M1 h => ?_)
        obtain ⟨rfl, h⟩ := h
        show jRun X T0 (d + 1) q_X7_layoutOf (97, [.ref 0, .int a1, .ref s0], [], M1) Q
        exact h
      · have h := h.2 g
        obtain ⟨o2, h⟩ := h
        refine jRun.call (k := jk_X7_layoutOf) rfl 5 (f := q_X1_shrink) (As := [.ref s0, .ref 22]) (c1 := (83, [.ref 0, .int a1, .ref s0], [], M)) (ob := True ∧ True ∧ jKd T0 0 = 7 ∧ jKd T0 21 = 0 ∧ jKd T0 s0 = 1) rfl ⟨trivial, trivial, rfl, rfl, o2⟩ h (fun v M2 h => ?_)
        obtain ⟨rfl, h⟩ := h
        show jRun X T0 (d + 1) q_X7_layoutOf (83, [.ref 0, .int a1, .ref s0], [], M2) Q
        refine jRun.cut (k := jk_X7_layoutOf) rfl 1 (c' := (97, [.ref 0, .int a1, .ref s0], [], M2)) (ob := True ∧ True) rfl ⟨trivial, trivial⟩ ?_
        exact h
    · have h := h.2 g
      obtain ⟨o3, h⟩ := h
      refine jRun.call (k := jk_X7_layoutOf) rfl 9 (f := q_X1_growFrom) (As := [.ref s0, .ref 22, .int (M 22 1)]) (c1 := (64, [.ref 0, .int a1, .ref s0], [], M)) (ob := True ∧ True ∧ jKd T0 0 = 7 ∧ jKd T0 21 = 0 ∧ True ∧ jKd T0 0 = 7 ∧ jKd T0 21 = 0 ∧ jKd T0 22 = 5 ∧ jKd T0 s0 = 1) rfl ⟨trivial, trivial, rfl, rfl, trivial, rfl, rfl, rfl, o3⟩ h (fun v M3 h => ?_)
      obtain ⟨rfl, h⟩ := h
      show jRun X T0 (d + 1) q_X7_layoutOf (64, [.ref 0, .int a1, .ref s0], [], M3) Q
      refine jRun.cut (k := jk_X7_layoutOf) rfl 1 (c' := (97, [.ref 0, .int a1, .ref s0], [], M3)) (ob := True ∧ True) rfl ⟨trivial, trivial⟩ ?_
      exact h
theorem v_X7_layoutOf_97 {X : jX} {d : Nat} (a1 : Int32) (a2 : Nat) (M : jMem) (Q : Option Value → jMem → Prop) (h : (∀ M1, M1 = jP M 0 11 ((M 0 11) ||| (1 <<< (a1 &&& 31))) → Q (some (.ref a2)) M1)) : jRun X T0 (d + 1) q_X7_layoutOf (97, [.ref 0, .int a1, .ref a2], [], M) Q := by
  refine jRun.cut (k := jk_X7_layoutOf) rfl 8 (c' := (109, [.ref 0, .int a1, .ref a2], [], (jP M 0 11 ((M 0 11) ||| (1 <<< (a1 &&& 31)))))) (ob := True ∧ True ∧ jKd T0 0 = 7 ∧ True ∧ True ∧ True ∧ True ∧ jKd T0 0 = 7 ∧ True) rfl ⟨trivial, trivial, rfl, trivial, trivial, trivial, trivial, rfl, trivial⟩ ?_
  refine jRun.nm (fun M1 eM1 => ?_)
  have h := h M1 eM1
  exact jRun.ret (k := jk_X7_layoutOf) rfl 2 (v := some (.ref a2)) (M1 := M1) (ob := True ∧ True) rfl ⟨trivial, trivial⟩ h
theorem v_X7_imageOf {X : jX} {d : Nat} (hI : jInj X T0) (a1 : Int32) (M : jMem) (Q : Option Value → jMem → Prop) (h : ((¬ a1 = 0 → Q (some (.ref 35)) M) ∧ (a1 = 0 → Q (some (.ref 28)) M))) : jOk X T0 d q_X7_imageOf [.ref 0, .int a1] M Q := by
  refine jOk.intro (ml := 2) (ls := [.ref 0, .int a1]) (jTl (by decide)) rfl (Nat.le_of_ble_eq_true rfl) rfl hI ?_
  refine jRun.cut (k := jk_X7_imageOf) rfl 2 (c' := (if ¬ a1 = 0 then 11 else 4, [.ref 0, .int a1], [], M)) (ob := True ∧ True ∧ True) rfl ⟨trivial, trivial, trivial⟩ ?_
  refine jRun.brn (fun g => ?_) (fun g => ?_)
  · have h := h.1 g
    exact jRun.ret (k := jk_X7_imageOf) rfl 3 (v := some (.ref 35)) (M1 := M) (ob := True ∧ jKd T0 0 = 7 ∧ True) rfl ⟨trivial, rfl, trivial⟩ h
  · have h := h.2 g
    exact jRun.ret (k := jk_X7_imageOf) rfl 4 (v := some (.ref 28)) (M1 := M) (ob := True ∧ jKd T0 0 = 7 ∧ True ∧ True) rfl ⟨trivial, rfl, trivial, trivial⟩ h
theorem v_X7_commonDivisor {X : jX} {d : Nat} (hI : jInj X T0) (a0 : Int32) (a1 : Int32) (M : jMem) (Q : Option Value → jMem → Prop) (h : jRun X T0 d q_X7_commonDivisor (2, [.int a0, .int a1, .int 0, .null], [], M) Q) : jOk X T0 d q_X7_commonDivisor [.int a0, .int a1] M Q := by
  refine jOk.intro (ml := 4) (ls := [.int a0, .int a1, .null, .null]) (jTl (by decide)) rfl (Nat.le_of_ble_eq_true rfl) rfl hI ?_
  refine jRun.cut (k := jk_X7_commonDivisor) rfl 2 (c' := (2, [.int a0, .int a1, .int 0, .null], [], M)) (ob := True ∧ True ∧ True) rfl ⟨trivial, trivial, trivial⟩ ?_
  exact h
theorem v_X7_commonDivisor_2 {X : jX} {d : Nat} (a0 : Int32) (a1 : Int32) (a2 : Int32) (M : jMem) (Q : Option Value → jMem → Prop) (h : ((64 ≤ a2 → Q (some (.int a0)) M) ∧ (¬ 64 ≤ a2 → ((a1 = 0 → Q (some (.int a0)) M) ∧ (¬ a1 = 0 → ¬ a1 = 0 ∧ jRun X T0 d q_X7_commonDivisor (2, [.int a1, .int (a0 - a0 / a1 * a1), .int (a2 + 1), .null], [], M) Q))))) : jRun X T0 d q_X7_commonDivisor (2, [.int a0, .int a1, .int a2, .null], [], M) Q := by
  refine jRun.cut (k := jk_X7_commonDivisor) rfl 3 (c' := (if 64 ≤ a2 then 26 else 8, [.int a0, .int a1, .int a2, .null], [], M)) (ob := True ∧ True ∧ True ∧ True) rfl ⟨trivial, trivial, trivial, trivial⟩ ?_
  refine jRun.br (fun g => ?_) (fun g => ?_)
  · have h := h.1 g
    exact jRun.ret (k := jk_X7_commonDivisor) rfl 2 (v := some (.int a0)) (M1 := M) (ob := True ∧ True) rfl ⟨trivial, trivial⟩ h
  · have h := h.2 g
    refine jRun.cut (k := jk_X7_commonDivisor) rfl 2 (c' := (if a1 = 0 then 26 else 12, [.int a0, .int a1, .int a2, .null], [], M)) (ob := True ∧ True ∧ True) rfl ⟨trivial, trivial, trivial⟩ ?_
    refine jRun.br (fun g => ?_) (fun g => ?_)
    · have h := h.1 g
      exact jRun.ret (k := jk_X7_commonDivisor) rfl 2 (v := some (.int a0)) (M1 := M) (ob := True ∧ True) rfl ⟨trivial, trivial⟩ h
    · have h := h.2 g
      obtain ⟨o1, h⟩ := h
      refine jRun.cut (k := jk_X7_commonDivisor) rfl 10 (c' := (2, [.int a1, .int (a0 - a0 / a1 * a1), .int (a2 + 1), .int (a0 - a0 / a1 * a1)], [], M)) (ob := True ∧ True ∧ ¬ a1 = 0 ∧ True ∧ True ∧ True ∧ True ∧ True ∧ True ∧ True ∧ True) rfl ⟨trivial, trivial, o1, trivial, trivial, trivial, trivial, trivial, trivial, trivial, trivial⟩ ?_
      exact jRun.weak (by simp [jFew]) h
