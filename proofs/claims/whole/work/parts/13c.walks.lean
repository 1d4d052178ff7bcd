theorem w_X0_becomeAs {X : jX} {T : jT} {d : Nat} (hI : jInj X T) (a0 : Nat) (a1 : Nat) (M : jMem) (Q : Option Value → jMem → Prop) (h : jKd T a0 = 0 ∧ jKd T a1 = 0 ∧ jKd T (jRf T a0 0) = 5 ∧ jOk X T d q_X5_becomeAs [.ref (jRf T a0 0), .ref (jRf T a1 0)] M (fun v M1 => v = none ∧ jKd T (jRf T a0 1) = 2 ∧ jOk X T d q_X2_becomeAs [.ref (jRf T a0 1), .ref (jRf T a1 1)] M1 (fun v M2 => v = none ∧ (∀ M3, M3 = jP M2 a0 2 1 → Q none M3)))) : jOk X T (d + 1) q_X0_becomeAs [.ref a0, .ref a1] M Q := by
  refine jOk.intro (ml := 2) (ls := [.ref a0, .ref a1]) (jTl (by decide)) rfl (Nat.le_of_ble_eq_true rfl) rfl hI ?_
  obtain ⟨o1, o2, o3, h⟩ := h
  refine jRun.call (k := jk_X0_becomeAs) rfl 5 (f := q_X5_becomeAs) (As := [.ref (jRf T a0 0), .ref (jRf T a1 0)]) (c1 := (11, [.ref a0, .ref a1], [], M)) (ob := True ∧ jKd T a0 = 0 ∧ True ∧ jKd T a1 = 0 ∧ jKd T (jRf T a0 0) = 5) rfl ⟨trivial, o1, trivial, o2, o3⟩ h (fun v M1 h => ?_)
  obtain ⟨rfl, h⟩ := h
  show jRun X T (d + 1) q_X0_becomeAs (11, [.ref a0, .ref a1], [], M1) Q
  obtain ⟨o4, h⟩ := h
  refine jRun.call (k := jk_X0_becomeAs) rfl 5 (f := q_X2_becomeAs) (As := [.ref (jRf T a0 1), .ref (jRf T a1 1)]) (c1 := (22, [.ref a0, .ref a1], [], M1)) (ob := True ∧ jKd T a0 = 0 ∧ True ∧ jKd T a1 = 0 ∧ jKd T (jRf T a0 1) = 2) rfl ⟨trivial, o1, trivial, o2, o4⟩ h (fun v M2 h => ?_)
  obtain ⟨rfl, h⟩ := h
  show jRun X T (d + 1) q_X0_becomeAs (22, [.ref a0, .ref a1], [], M2) Q
  refine jRun.cut (k := jk_X0_becomeAs) rfl 3 (c' := (27, [.ref a0, .ref a1], [], (jP M2 a0 2 1))) (ob := True ∧ True ∧ (jKd T a0 = 0 ∧ (1 = 0 ∨ 1 = 1)) ∧ True) rfl ⟨trivial, trivial, ⟨o1, (Or.inr rfl)⟩, trivial⟩ ?_
  refine jRun.nm (fun M3 eM3 => ?_)
  have h := h M3 eM3
  exact jRun.ret (k := jk_X0_becomeAs) rfl 1 (v := none) (M1 := M3) (ob := True) rfl trivial h
theorem w_X2_becomeAs {X : jX} {T : jT} {d : Nat} (hI : jInj X T) (a0 : Nat) (a1 : Nat) (M : jMem) (Q : Option Value → jMem → Prop) (h : jKd T a1 = 2 ∧ jKd T a0 = 2 ∧ jKd T (jRf T a1 0) = 9 ∧ jKd T (jRf T a0 0) = 9 ∧ 10 ≤ jLn T (jRf T a1 0) ∧ 10 ≤ jLn T (jRf T a0 0) ∧ (∀ M1, M1 = jSC M (jRf T a0 0) (va_cpy (M (jRf T a1 0)) (M (jRf T a0 0)) 0 0 10) → jKd T (jRf T a1 1) = 9 ∧ jKd T (jRf T a0 1) = 9 ∧ 10 ≤ jLn T (jRf T a1 1) ∧ 10 ≤ jLn T (jRf T a0 1) ∧ (∀ M2, M2 = jSC M1 (jRf T a0 1) (va_cpy (M1 (jRf T a1 1)) (M1 (jRf T a0 1)) 0 0 10) → jKd T (jRf T a1 2) = 9 ∧ jKd T (jRf T a0 2) = 9 ∧ 10 ≤ jLn T (jRf T a1 2) ∧ 10 ≤ jLn T (jRf T a0 2) ∧ (∀ M3, M3 = jSC M2 (jRf T a0 2) (va_cpy (M2 (jRf T a1 2)) (M2 (jRf T a0 2)) 0 0 10) → (∀ M4, M4 = jP M3 a0 3 (M3 a1 3) → Q none M4))))) : jOk X T d q_X2_becomeAs [.ref a0, .ref a1] M Q := by
  refine jOk.intro (ml := 2) (ls := [.ref a0, .ref a1]) (jTl (by decide)) rfl (Nat.le_of_ble_eq_true rfl) rfl hI ?_
  obtain ⟨o1, o2, o3, o4, o5, o6, h⟩ := h
  refine jRun.cut (k := jk_X2_becomeAs) rfl 8 (c' := (15, [.ref a0, .ref a1], [], (jSC M (jRf T a0 0) (va_cpy (M (jRf T a1 0)) (M (jRf T a0 0)) 0 0 10)))) (ob := True ∧ jKd T a1 = 2 ∧ True ∧ True ∧ jKd T a0 = 2 ∧ True ∧ True ∧ (jKd T (jRf T a1 0) = 9 ∧ jKd T (jRf T a0 0) = 9 ∧ ¬ (0 : Int32) < 0 ∧ ¬ (0 : Int32) < 0 ∧ ¬ (10 : Int32) < 0 ∧ (0 : Int32).toNatClampNeg + (10 : Int32).toNatClampNeg ≤ jLn T (jRf T a1 0) ∧ (0 : Int32).toNatClampNeg + (10 : Int32).toNatClampNeg ≤ jLn T (jRf T a0 0)) ∧ True) rfl ⟨trivial, o1, trivial, trivial, o2, trivial, trivial, ⟨o3, o4, (by decide), (by decide), (by decide), o5, o6⟩, trivial⟩ ?_
  refine jRun.nm (fun M1 eM1 => ?_)
  have h := h M1 eM1
  obtain ⟨o7, o8, o9, o10, h⟩ := h
  refine jRun.cut (k := jk_X2_becomeAs) rfl 8 (c' := (30, [.ref a0, .ref a1], [], (jSC M1 (jRf T a0 1) (va_cpy (M1 (jRf T a1 1)) (M1 (jRf T a0 1)) 0 0 10)))) (ob := True ∧ jKd T a1 = 2 ∧ True ∧ True ∧ jKd T a0 = 2 ∧ True ∧ True ∧ (jKd T (jRf T a1 1) = 9 ∧ jKd T (jRf T a0 1) = 9 ∧ ¬ (0 : Int32) < 0 ∧ ¬ (0 : Int32) < 0 ∧ ¬ (10 : Int32) < 0 ∧ (0 : Int32).toNatClampNeg + (10 : Int32).toNatClampNeg ≤ jLn T (jRf T a1 1) ∧ (0 : Int32).toNatClampNeg + (10 : Int32).toNatClampNeg ≤ jLn T (jRf T a0 1)) ∧ True) rfl ⟨trivial, o1, trivial, trivial, o2, trivial, trivial, ⟨o7, o8, (by decide), (by decide), (by decide), o9, o10⟩, trivial⟩ ?_
  refine jRun.nm (fun M2 eM2 => ?_)
  have h := h M2 eM2
  obtain ⟨o11, o12, o13, o14, h⟩ := h
  refine jRun.cut (k := jk_X2_becomeAs) rfl 8 (c' := (45, [.ref a0, .ref a1], [], (jSC M2 (jRf T a0 2) (va_cpy (M2 (jRf T a1 2)) (M2 (jRf T a0 2)) 0 0 10)))) (ob := True ∧ jKd T a1 = 2 ∧ True ∧ True ∧ jKd T a0 = 2 ∧ True ∧ True ∧ (jKd T (jRf T a1 2) = 9 ∧ jKd T (jRf T a0 2) = 9 ∧ ¬ (0 : Int32) < 0 ∧ ¬ (0 : Int32) < 0 ∧ ¬ (10 : Int32) < 0 ∧ (0 : Int32).toNatClampNeg + (10 : Int32).toNatClampNeg ≤ jLn T (jRf T a1 2) ∧ (0 : Int32).toNatClampNeg + (10 : Int32).toNatClampNeg ≤ jLn T (jRf T a0 2)) ∧ True) rfl ⟨trivial, o1, trivial, trivial, o2, trivial, trivial, ⟨o11, o12, (by decide), (by decide), (by decide), o13, o14⟩, trivial⟩ ?_
  refine jRun.nm (fun M3 eM3 => ?_)
  have h := h M3 eM3
  refine jRun.cut (k := jk_X2_becomeAs) rfl 4 (c' := (53, [.ref a0, .ref a1], [], (jP M3 a0 3 (M3 a1 3)))) (ob := True ∧ True ∧ jKd T a1 = 2 ∧ jKd T a0 = 2 ∧ True) rfl ⟨trivial, trivial, o1, o2, trivial⟩ ?_
  refine jRun.nm (fun M4 eM4 => ?_)
  have h := h M4 eM4
  exact jRun.ret (k := jk_X2_becomeAs) rfl 1 (v := none) (M1 := M4) (ob := True) rfl trivial h
theorem w_X2_remember {X : jX} {T : jT} {d : Nat} (hI : jInj X T) (a0 : Nat) (a1 : Int32) (a2 : Int32) (a3 : Int32) (M : jMem) (Q : Option Value → jMem → Prop) (h : jKd T a0 = 2 ∧ (((M a0 3) < 10 → jKd T (jRf T a0 0) = 9 ∧ vp_in (M a0 3) (jLn T (jRf T a0 0)) ∧ (∀ M1, M1 = jP M (jRf T a0 0) ((M a0 3).toNatClampNeg) a1 → jKd T (jRf T a0 1) = 9 ∧ vp_in (M1 a0 3) (jLn T (jRf T a0 1)) ∧ (∀ M2, M2 = jP M1 (jRf T a0 1) ((M1 a0 3).toNatClampNeg) a2 → jKd T (jRf T a0 2) = 9 ∧ vp_in (M2 a0 3) (jLn T (jRf T a0 2)) ∧ (∀ M3, M3 = jP M2 (jRf T a0 2) ((M2 a0 3).toNatClampNeg) a3 → (∀ M4, M4 = jP M3 a0 3 ((M3 a0 3) + 1) → Q none M4))))) ∧ (¬ (M a0 3) < 10 → jOk X T d q_X2_loseOldest [.ref a0] M (fun v M5 => v = none ∧ jKd T (jRf T a0 0) = 9 ∧ vp_in (M5 a0 3) (jLn T (jRf T a0 0)) ∧ (∀ M6, M6 = jP M5 (jRf T a0 0) ((M5 a0 3).toNatClampNeg) a1 → jKd T (jRf T a0 1) = 9 ∧ vp_in (M6 a0 3) (jLn T (jRf T a0 1)) ∧ (∀ M7, M7 = jP M6 (jRf T a0 1) ((M6 a0 3).toNatClampNeg) a2 → jKd T (jRf T a0 2) = 9 ∧ vp_in (M7 a0 3) (jLn T (jRf T a0 2)) ∧ (∀ M8, M8 = jP M7 (jRf T a0 2) ((M7 a0 3).toNatClampNeg) a3 → (∀ M9, M9 = jP M8 a0 3 ((M8 a0 3) + 1) → Q none M9)))))))) : jOk X T (d + 1) q_X2_remember [.ref a0, .int a1, .int a2, .int a3] M Q := by
  refine jOk.intro (ml := 4) (ls := [.ref a0, .int a1, .int a2, .int a3]) (jTl (by decide)) rfl (Nat.le_of_ble_eq_true rfl) rfl hI ?_
  obtain ⟨o1, h⟩ := h
  refine jRun.cut (k := jk_X2_remember) rfl 4 (c' := (if (M a0 3) < 10 then 13 else 9, [.ref a0, .int a1, .int a2, .int a3], [], M)) (ob := True ∧ jKd T a0 = 2 ∧ True ∧ True ∧ True) rfl ⟨trivial, o1, trivial, trivial, trivial⟩ ?_
  refine jRun.br (fun g => ?_) (fun g => ?_)
  · have h := h.1 g
    obtain ⟨o2, o3, h⟩ := h
    refine jRun.cut (k := jk_X2_remember) rfl 6 (c' := (23, [.ref a0, .int a1, .int a2, .int a3], [], (jP M (jRf T a0 0) ((M a0 3).toNatClampNeg) a1))) (ob := True ∧ jKd T a0 = 2 ∧ True ∧ jKd T a0 = 2 ∧ True ∧ (jKd T (jRf T a0 0) = 9 ∧ vp_in (M a0 3) (jLn T (jRf T a0 0))) ∧ True) rfl ⟨trivial, o1, trivial, o1, trivial, ⟨o2, o3⟩, trivial⟩ ?_
    refine jRun.nm (fun M1 eM1 => ?_)
    have h := h M1 eM1
    obtain ⟨o4, o5, h⟩ := h
    refine jRun.cut (k := jk_X2_remember) rfl 6 (c' := (33, [.ref a0, .int a1, .int a2, .int a3], [], (jP M1 (jRf T a0 1) ((M1 a0 3).toNatClampNeg) a2))) (ob := True ∧ jKd T a0 = 2 ∧ True ∧ jKd T a0 = 2 ∧ True ∧ (jKd T (jRf T a0 1) = 9 ∧ vp_in (M1 a0 3) (jLn T (jRf T a0 1))) ∧ True) rfl ⟨trivial, o1, trivial, o1, trivial, ⟨o4, o5⟩, trivial⟩ ?_
    refine jRun.nm (fun M2 eM2 => ?_)
    have h := h M2 eM2
    obtain ⟨o6, o7, h⟩ := h
    refine jRun.cut (k := jk_X2_remember) rfl 6 (c' := (43, [.ref a0, .int a1, .int a2, .int a3], [], (jP M2 (jRf T a0 2) ((M2 a0 3).toNatClampNeg) a3))) (ob := True ∧ jKd T a0 = 2 ∧ True ∧ jKd T a0 = 2 ∧ True ∧ (jKd T (jRf T a0 2) = 9 ∧ vp_in (M2 a0 3) (jLn T (jRf T a0 2))) ∧ True) rfl ⟨trivial, o1, trivial, o1, trivial, ⟨o6, o7⟩, trivial⟩ ?_
    refine jRun.nm (fun M3 eM3 => ?_)
    have h := h M3 eM3
    refine jRun.cut (k := jk_X2_remember) rfl 6 (c' := (53, [.ref a0, .int a1, .int a2, .int a3], [], (jP M3 a0 3 ((M3 a0 3) + 1)))) (ob := True ∧ True ∧ jKd T a0 = 2 ∧ True ∧ True ∧ jKd T a0 = 2 ∧ True) rfl ⟨trivial, trivial, o1, trivial, trivial, o1, trivial⟩ ?_
    refine jRun.nm (fun M4 eM4 => ?_)
    have h := h M4 eM4
    exact jRun.ret (k := jk_X2_remember) rfl 1 (v := none) (M1 := M4) (ob := True) rfl trivial h
  · have h := h.2 g
    refine jRun.call (k := jk_X2_remember) rfl 2 (f := q_X2_loseOldest) (As := [.ref a0]) (c1 := (13, [.ref a0, .int a1, .int a2, .int a3], [], M)) (ob := True ∧ jKd T a0 = 2) rfl ⟨trivial, o1⟩ h (fun v M5 h => ?_)
    obtain ⟨rfl, h⟩ := h
    show jRun X T (d + 1) q_X2_remember (13, [.ref a0, .int a1, .int a2, .int a3], [], M5) Q
    obtain ⟨o8, o9, h⟩ := h
    refine jRun.cut (k := jk_X2_remember) rfl 6 (c' := (23, [.ref a0, .int a1, .int a2, .int a3], [], (jP M5 (jRf T a0 0) ((M5 a0 3).toNatClampNeg) a1))) (ob := True ∧ jKd T a0 = 2 ∧ True ∧ jKd T a0 = 2 ∧ True ∧ (jKd T (jRf T a0 0) = 9 ∧ vp_in (M5 a0 3) (jLn T (jRf T a0 0))) ∧ True) rfl ⟨trivial, o1, trivial, o1, trivial, ⟨o8, o9⟩, trivial⟩ ?_
    refine jRun.nm (fun M6 eM6 => ?_)
    have h := h M6 eM6
    obtain ⟨o10, o11, h⟩ := h
    refine jRun.cut (k := jk_X2_remember) rfl 6 (c' := (33, [.ref a0, .int a1, .int a2, .int a3], [], (jP M6 (jRf T a0 1) ((M6 a0 3).toNatClampNeg) a2))) (ob := True ∧ jKd T a0 = 2 ∧ True ∧ jKd T a0 = 2 ∧ True ∧ (jKd T (jRf T a0 1) = 9 ∧ vp_in (M6 a0 3) (jLn T (jRf T a0 1))) ∧ True) rfl ⟨trivial, o1, trivial, o1, trivial, ⟨o10, o11⟩, trivial⟩ ?_
    refine jRun.nm (fun M7 eM7 => ?_)
    have h := h M7 eM7
    obtain ⟨o12, o13, h⟩ := h
    refine jRun.cut (k := jk_X2_remember) rfl 6 (c' := (43, [.ref a0, .int a1, .int a2, .int a3], [], (jP M7 (jRf T a0 2) ((M7 a0 3).toNatClampNeg) a3))) (ob := True ∧ jKd T a0 = 2 ∧ True ∧ jKd T a0 = 2 ∧ True ∧ (jKd T (jRf T a0 2) = 9 ∧ vp_in (M7 a0 3) (jLn T (jRf T a0 2))) ∧ True) rfl ⟨trivial, o1, trivial, o1, trivial, ⟨o12, o13⟩, trivial⟩ ?_
    refine jRun.nm (fun M8 eM8 => ?_)
    have h := h M8 eM8
    refine jRun.cut (k := jk_X2_remember) rfl 6 (c' := (53, [.ref a0, .int a1, .int a2, .int a3], [], (jP M8 a0 3 ((M8 a0 3) + 1)))) (ob := True ∧ True ∧ jKd T a0 = 2 ∧ True ∧ True ∧ jKd T a0 = 2 ∧ True) rfl ⟨trivial, trivial, o1, trivial, trivial, o1, trivial⟩ ?_
    refine jRun.nm (fun M9 eM9 => ?_)
    have h := h M9 eM9
    exact jRun.ret (k := jk_X2_remember) rfl 1 (v := none) (M1 := M9) (ob := True) rfl trivial h
theorem w_X2_takeBack {X : jX} {T : jT} {d : Nat} (hI : jInj X T) (a0 : Nat) (a1 : Nat) (M : jMem) (Q : Option Value → jMem → Prop) (h : jKd T a0 = 2 ∧ ((0 < (M a0 3) → (∀ M1, M1 = jP M a0 3 ((M a0 3) - 1) → jKd T (jRf T a0 0) = 9 ∧ vp_in (M1 a0 3) (jLn T (jRf T a0 0)) ∧ ((¬ (M1 (jRf T a0 0) (M1 a0 3).toNatClampNeg) = 0 → ((¬ (M1 (jRf T a0 0) (M1 a0 3).toNatClampNeg) = 1 → jKd T (jRf T a0 2) = 9 ∧ vp_in (M1 a0 3) (jLn T (jRf T a0 2)) ∧ jKd T a1 = 5 ∧ (∀ M2, M2 = jP M1 a1 2 (M1 (jRf T a0 2) (M1 a0 3).toNatClampNeg) → Q none M2)) ∧ ((M1 (jRf T a0 0) (M1 a0 3).toNatClampNeg) = 1 → jKd T (jRf T a0 2) = 9 ∧ vp_in (M1 a0 3) (jLn T (jRf T a0 2)) ∧ jKd T a1 = 5 ∧ (∀ M3, M3 = jP M1 a1 1 (M1 (jRf T a0 2) (M1 a0 3).toNatClampNeg) → Q none M3)))) ∧ ((M1 (jRf T a0 0) (M1 a0 3).toNatClampNeg) = 0 → jKd T a1 = 5 ∧ jKd T (jRf T a0 1) = 9 ∧ vp_in (M1 a0 3) (jLn T (jRf T a0 1)) ∧ jKd T (jRf T a0 2) = 9 ∧ vp_in (M1 a0 3) (jLn T (jRf T a0 2)) ∧ jKd T (jRf T a1 0) = 9 ∧ vp_in (M1 (jRf T a0 1) (M1 a0 3).toNatClampNeg) (jLn T (jRf T a1 0)) ∧ (∀ M4, M4 = jP M1 (jRf T a1 0) ((M1 (jRf T a0 1) (M1 a0 3).toNatClampNeg).toNatClampNeg) (M1 (jRf T a0 2) (M1 a0 3).toNatClampNeg) → Q none M4))))) ∧ (¬ 0 < (M a0 3) → Q none M))) : jOk X T d q_X2_takeBack [.ref a0, .ref a1] M Q := by
  refine jOk.intro (ml := 2) (ls := [.ref a0, .ref a1]) (jTl (by decide)) rfl (Nat.le_of_ble_eq_true rfl) rfl hI ?_
  obtain ⟨o1, h⟩ := h
  refine jRun.cut (k := jk_X2_takeBack) rfl 3 (c' := (if 0 < (M a0 3) then 8 else 7, [.ref a0, .ref a1], [], M)) (ob := True ∧ jKd T a0 = 2 ∧ True ∧ True) rfl ⟨trivial, o1, trivial, trivial⟩ ?_
  refine jRun.br (fun g => ?_) (fun g => ?_)
  · have h := h.1 g
    refine jRun.cut (k := jk_X2_takeBack) rfl 6 (c' := (18, [.ref a0, .ref a1], [], (jP M a0 3 ((M a0 3) - 1)))) (ob := True ∧ True ∧ jKd T a0 = 2 ∧ True ∧ True ∧ jKd T a0 = 2 ∧ True) rfl ⟨trivial, trivial, o1, trivial, trivial, o1, trivial⟩ ?_
    refine jRun.nm (fun M1 eM1 => ?_)
    have h := h M1 eM1
    obtain ⟨o2, o3, h⟩ := h
    refine jRun.cut (k := jk_X2_takeBack) rfl 6 (c' := (if ¬ (M1 (jRf T a0 0) (M1 a0 3).toNatClampNeg) = 0 then 56 else 30, [.ref a0, .ref a1], [], M1)) (ob := True ∧ jKd T a0 = 2 ∧ True ∧ jKd T a0 = 2 ∧ (jKd T (jRf T a0 0) = 9 ∧ vp_in (M1 a0 3) (jLn T (jRf T a0 0))) ∧ True ∧ True) rfl ⟨trivial, o1, trivial, o1, ⟨o2, o3⟩, trivial, trivial⟩ ?_
    refine jRun.brn (fun g => ?_) (fun g => ?_)
    · have h := h.1 g
      refine jRun.cut (k := jk_X2_takeBack) rfl 7 (c' := (if ¬ (M1 (jRf T a0 0) (M1 a0 3).toNatClampNeg) = 1 then 85 else 69, [.ref a0, .ref a1], [], M1)) (ob := True ∧ jKd T a0 = 2 ∧ True ∧ jKd T a0 = 2 ∧ (jKd T (jRf T a0 0) = 9 ∧ vp_in (M1 a0 3) (jLn T (jRf T a0 0))) ∧ True ∧ True ∧ True) rfl ⟨trivial, o1, trivial, o1, ⟨o2, o3⟩, trivial, trivial, trivial⟩ ?_
      refine jRun.brn (fun g => ?_) (fun g => ?_)
      · have h := h.1 g
        obtain ⟨o4, o5, o6, h⟩ := h
        refine jRun.cut (k := jk_X2_takeBack) rfl 7 (c' := (98, [.ref a0, .ref a1], [], (jP M1 a1 2 (M1 (jRf T a0 2) (M1 a0 3).toNatClampNeg)))) (ob := True ∧ True ∧ jKd T a0 = 2 ∧ True ∧ jKd T a0 = 2 ∧ (jKd T (jRf T a0 2) = 9 ∧ vp_in (M1 a0 3) (jLn T (jRf T a0 2))) ∧ jKd T a1 = 5 ∧ True) rfl ⟨trivial, trivial, o1, trivial, o1, ⟨o4, o5⟩, o6, trivial⟩ ?_
        refine jRun.nm (fun M2 eM2 => ?_)
        have h := h M2 eM2
        exact jRun.ret (k := jk_X2_takeBack) rfl 1 (v := none) (M1 := M2) (ob := True) rfl trivial h
      · have h := h.2 g
        obtain ⟨o7, o8, o9, h⟩ := h
        refine jRun.cut (k := jk_X2_takeBack) rfl 7 (c' := (82, [.ref a0, .ref a1], [], (jP M1 a1 1 (M1 (jRf T a0 2) (M1 a0 3).toNatClampNeg)))) (ob := True ∧ True ∧ jKd T a0 = 2 ∧ True ∧ jKd T a0 = 2 ∧ (jKd T (jRf T a0 2) = 9 ∧ vp_in (M1 a0 3) (jLn T (jRf T a0 2))) ∧ jKd T a1 = 5 ∧ True) rfl ⟨trivial, trivial, o1, trivial, o1, ⟨o7, o8⟩, o9, trivial⟩ ?_
        refine jRun.nm (fun M3 eM3 => ?_)
        have h := h M3 eM3
        exact jRun.ret (k := jk_X2_takeBack) rfl 2 (v := none) (M1 := M3) (ob := True ∧ True) rfl ⟨trivial, trivial⟩ h
    · have h := h.2 g
      obtain ⟨o10, o11, o12, o13, o14, o15, o16, h⟩ := h
      refine jRun.cut (k := jk_X2_takeBack) rfl 13 (c' := (53, [.ref a0, .ref a1], [], (jP M1 (jRf T a1 0) ((M1 (jRf T a0 1) (M1 a0 3).toNatClampNeg).toNatClampNeg) (M1 (jRf T a0 2) (M1 a0 3).toNatClampNeg)))) (ob := True ∧ jKd T a1 = 5 ∧ True ∧ jKd T a0 = 2 ∧ True ∧ jKd T a0 = 2 ∧ (jKd T (jRf T a0 1) = 9 ∧ vp_in (M1 a0 3) (jLn T (jRf T a0 1))) ∧ True ∧ jKd T a0 = 2 ∧ True ∧ jKd T a0 = 2 ∧ (jKd T (jRf T a0 2) = 9 ∧ vp_in (M1 a0 3) (jLn T (jRf T a0 2))) ∧ (jKd T (jRf T a1 0) = 9 ∧ vp_in (M1 (jRf T a0 1) (M1 a0 3).toNatClampNeg) (jLn T (jRf T a1 0))) ∧ True) rfl ⟨trivial, o10, trivial, o1, trivial, o1, ⟨o11, o12⟩, trivial, o1, trivial, o1, ⟨o13, o14⟩, ⟨o15, o16⟩, trivial⟩ ?_
      refine jRun.nm (fun M4 eM4 => ?_)
      have h := h M4 eM4
      exact jRun.ret (k := jk_X2_takeBack) rfl 2 (v := none) (M1 := M4) (ob := True ∧ True) rfl ⟨trivial, trivial⟩ h
  · have h := h.2 g
    exact jRun.ret (k := jk_X2_takeBack) rfl 1 (v := none) (M1 := M) (ob := True) rfl trivial h
theorem w_X2_loseOldest {X : jX} {T : jT} {d : Nat} (hI : jInj X T) (a0 : Nat) (M : jMem) (Q : Option Value → jMem → Prop) (h : jKd T a0 = 2 ∧ jKd T (jRf T a0 0) = 9 ∧ 10 ≤ jLn T (jRf T a0 0) ∧ 9 ≤ jLn T (jRf T a0 0) ∧ (∀ M1, M1 = jSC M (jRf T a0 0) (va_cpy (M (jRf T a0 0)) (M (jRf T a0 0)) 1 0 9) → jKd T (jRf T a0 1) = 9 ∧ 10 ≤ jLn T (jRf T a0 1) ∧ 9 ≤ jLn T (jRf T a0 1) ∧ (∀ M2, M2 = jSC M1 (jRf T a0 1) (va_cpy (M1 (jRf T a0 1)) (M1 (jRf T a0 1)) 1 0 9) → jKd T (jRf T a0 2) = 9 ∧ 10 ≤ jLn T (jRf T a0 2) ∧ 9 ≤ jLn T (jRf T a0 2) ∧ (∀ M3, M3 = jSC M2 (jRf T a0 2) (va_cpy (M2 (jRf T a0 2)) (M2 (jRf T a0 2)) 1 0 9) → (∀ M4, M4 = jP M3 a0 3 9 → Q none M4))))) : jOk X T d q_X2_loseOldest [.ref a0] M Q := by
  refine jOk.intro (ml := 1) (ls := [.ref a0]) (jTl (by decide)) rfl (Nat.le_of_ble_eq_true rfl) rfl hI ?_
  obtain ⟨o1, o2, o3, o4, h⟩ := h
  refine jRun.cut (k := jk_X2_loseOldest) rfl 8 (c' := (15, [.ref a0], [], (jSC M (jRf T a0 0) (va_cpy (M (jRf T a0 0)) (M (jRf T a0 0)) 1 0 9)))) (ob := True ∧ jKd T a0 = 2 ∧ True ∧ True ∧ jKd T a0 = 2 ∧ True ∧ True ∧ (jKd T (jRf T a0 0) = 9 ∧ jKd T (jRf T a0 0) = 9 ∧ ¬ (1 : Int32) < 0 ∧ ¬ (0 : Int32) < 0 ∧ ¬ (9 : Int32) < 0 ∧ (1 : Int32).toNatClampNeg + (9 : Int32).toNatClampNeg ≤ jLn T (jRf T a0 0) ∧ (0 : Int32).toNatClampNeg + (9 : Int32).toNatClampNeg ≤ jLn T (jRf T a0 0)) ∧ True) rfl ⟨trivial, o1, trivial, trivial, o1, trivial, trivial, ⟨o2, o2, (by decide), (by decide), (by decide), o3, o4⟩, trivial⟩ ?_
  refine jRun.nm (fun M1 eM1 => ?_)
  have h := h M1 eM1
  obtain ⟨o5, o6, o7, h⟩ := h
  refine jRun.cut (k := jk_X2_loseOldest) rfl 8 (c' := (30, [.ref a0], [], (jSC M1 (jRf T a0 1) (va_cpy (M1 (jRf T a0 1)) (M1 (jRf T a0 1)) 1 0 9)))) (ob := True ∧ jKd T a0 = 2 ∧ True ∧ True ∧ jKd T a0 = 2 ∧ True ∧ True ∧ (jKd T (jRf T a0 1) = 9 ∧ jKd T (jRf T a0 1) = 9 ∧ ¬ (1 : Int32) < 0 ∧ ¬ (0 : Int32) < 0 ∧ ¬ (9 : Int32) < 0 ∧ (1 : Int32).toNatClampNeg + (9 : Int32).toNatClampNeg ≤ jLn T (jRf T a0 1) ∧ (0 : Int32).toNatClampNeg + (9 : Int32).toNatClampNeg ≤ jLn T (jRf T a0 1)) ∧ True) rfl ⟨trivial, o1, trivial, trivial, o1, trivial, trivial, ⟨o5, o5, (by decide), (by decide), (by decide), o6, o7⟩, trivial⟩ ?_
  refine jRun.nm (fun M2 eM2 => ?_)
  have h := h M2 eM2
  obtain ⟨o8, o9, o10, h⟩ := h
  refine jRun.cut (k := jk_X2_loseOldest) rfl 8 (c' := (45, [.ref a0], [], (jSC M2 (jRf T a0 2) (va_cpy (M2 (jRf T a0 2)) (M2 (jRf T a0 2)) 1 0 9)))) (ob := True ∧ jKd T a0 = 2 ∧ True ∧ True ∧ jKd T a0 = 2 ∧ True ∧ True ∧ (jKd T (jRf T a0 2) = 9 ∧ jKd T (jRf T a0 2) = 9 ∧ ¬ (1 : Int32) < 0 ∧ ¬ (0 : Int32) < 0 ∧ ¬ (9 : Int32) < 0 ∧ (1 : Int32).toNatClampNeg + (9 : Int32).toNatClampNeg ≤ jLn T (jRf T a0 2) ∧ (0 : Int32).toNatClampNeg + (9 : Int32).toNatClampNeg ≤ jLn T (jRf T a0 2)) ∧ True) rfl ⟨trivial, o1, trivial, trivial, o1, trivial, trivial, ⟨o8, o8, (by decide), (by decide), (by decide), o9, o10⟩, trivial⟩ ?_
  refine jRun.nm (fun M3 eM3 => ?_)
  have h := h M3 eM3
  refine jRun.cut (k := jk_X2_loseOldest) rfl 3 (c' := (51, [.ref a0], [], (jP M3 a0 3 9))) (ob := True ∧ True ∧ jKd T a0 = 2 ∧ True) rfl ⟨trivial, trivial, o1, trivial⟩ ?_
  refine jRun.nm (fun M4 eM4 => ?_)
  have h := h M4 eM4
  exact jRun.ret (k := jk_X2_loseOldest) rfl 1 (v := none) (M1 := M4) (ob := True) rfl trivial h
theorem w_X4_leastReach {X : jX} {T : jT} {d : Nat} (hI : jInj X T) (a0 : Nat) (a1 : Nat) (M : jMem) (Q : Option Value → jMem → Prop) (h : jKd T a0 = 4 ∧ jKd T (jRf T a0 1) = 5 ∧ jOk X T d q_X5_becomeAs [.ref (jRf T a0 1), .ref a1] M (fun v M1 => v = none ∧ jRun X T (d + 1) q_X4_leastReach (10, [.ref a0, .ref a1, .int 4], [], M1) Q)) : jOk X T (d + 1) q_X4_leastReach [.ref a0, .ref a1] M Q := by
  refine jOk.intro (ml := 3) (ls := [.ref a0, .ref a1, .null]) (jTl (by decide)) rfl (Nat.le_of_ble_eq_true rfl) rfl hI ?_
  obtain ⟨o1, o2, h⟩ := h
  refine jRun.call (k := jk_X4_leastReach) rfl 4 (f := q_X5_becomeAs) (As := [.ref (jRf T a0 1), .ref a1]) (c1 := (8, [.ref a0, .ref a1, .null], [], M)) (ob := True ∧ jKd T a0 = 4 ∧ True ∧ jKd T (jRf T a0 1) = 5) rfl ⟨trivial, o1, trivial, o2⟩ h (fun v M1 h => ?_)
  obtain ⟨rfl, h⟩ := h
  show jRun X T (d + 1) q_X4_leastReach (8, [.ref a0, .ref a1, .null], [], M1) Q
  refine jRun.cut (k := jk_X4_leastReach) rfl 2 (c' := (10, [.ref a0, .ref a1, .int 4], [], M1)) (ob := True ∧ True ∧ True) rfl ⟨trivial, trivial, trivial⟩ ?_
  exact h
theorem w_X4_leastReach_10 {X : jX} {T : jT} {d : Nat} (a0 : Nat) (a1 : Nat) (a2 : Int32) (M : jMem) (Q : Option Value → jMem → Prop) (h : ((127 < a2 → Q (some (.int (-9))) M) ∧ (¬ 127 < a2 → jKd T a0 = 4 ∧ jKd T (jRf T a0 1) = 5 ∧ (∀ M1, M1 = jP M (jRf T a0 1) 3 a2 → jKd T (jRf T a0 2) = 1 ∧ jOk X T d q_X1_growFrom [.ref (jRf T a0 2), .ref (jRf T a0 1), .int (M1 (jRf T a0 1) 1)] M1 (fun v M2 => v = none ∧ jKd T a1 = 5 ∧ ((¬ (M2 (jRf T a0 2) 2) = (M2 a1 1) → jRun X T (d + 1) q_X4_leastReach (10, [.ref a0, .ref a1, .int (a2 + 1)], [], M2) Q) ∧ ((M2 (jRf T a0 2) 2) = (M2 a1 1) → Q (some (.int a2)) M2))))))) : jRun X T (d + 1) q_X4_leastReach (10, [.ref a0, .ref a1, .int a2], [], M) Q := by
  refine jRun.cut (k := jk_X4_leastReach) rfl 3 (c' := (if 127 < a2 then 64 else 16, [.ref a0, .ref a1, .int a2], [], M)) (ob := True ∧ True ∧ True ∧ True) rfl ⟨trivial, trivial, trivial, trivial⟩ ?_
  refine jRun.br (fun g => ?_) (fun g => ?_)
  · have h := h.1 g
    exact jRun.ret (k := jk_X4_leastReach) rfl 2 (v := some (.int (-9))) (M1 := M) (ob := True ∧ True) rfl ⟨trivial, trivial⟩ h
  · have h := h.2 g
    obtain ⟨o1, o2, h⟩ := h
    refine jRun.cut (k := jk_X4_leastReach) rfl 4 (c' := (24, [.ref a0, .ref a1, .int a2], [], (jP M (jRf T a0 1) 3 a2))) (ob := True ∧ jKd T a0 = 4 ∧ True ∧ jKd T (jRf T a0 1) = 5 ∧ True) rfl ⟨trivial, o1, trivial, o2, trivial⟩ ?_
    refine jRun.nm (fun M1 eM1 => ?_)
    have h := h M1 eM1
    obtain ⟨o3, h⟩ := h
    refine jRun.call (k := jk_X4_leastReach) rfl 8 (f := q_X1_growFrom) (As := [.ref (jRf T a0 2), .ref (jRf T a0 1), .int (M1 (jRf T a0 1) 1)]) (c1 := (42, [.ref a0, .ref a1, .int a2], [], M1)) (ob := True ∧ jKd T a0 = 4 ∧ True ∧ jKd T a0 = 4 ∧ True ∧ jKd T a0 = 4 ∧ jKd T (jRf T a0 1) = 5 ∧ jKd T (jRf T a0 2) = 1) rfl ⟨trivial, o1, trivial, o1, trivial, o1, o2, o3⟩ h (fun v M2 h => ?_)
    obtain ⟨rfl, h⟩ := h
    show jRun X T (d + 1) q_X4_leastReach (42, [.ref a0, .ref a1, .int a2], [], M2) Q
    obtain ⟨o4, h⟩ := h
    refine jRun.cut (k := jk_X4_leastReach) rfl 6 (c' := (if ¬ (M2 (jRf T a0 2) 2) = (M2 a1 1) then 58 else 56, [.ref a0, .ref a1, .int a2], [], M2)) (ob := True ∧ jKd T a0 = 4 ∧ jKd T (jRf T a0 2) = 1 ∧ True ∧ jKd T a1 = 5 ∧ True ∧ True) rfl ⟨trivial, o1, o3, trivial, o4, trivial, trivial⟩ ?_
    refine jRun.brn (fun g => ?_) (fun g => ?_)
    · have h := h.1 g
      refine jRun.cut (k := jk_X4_leastReach) rfl 2 (c' := (10, [.ref a0, .ref a1, .int (a2 + 1)], [], M2)) (ob := True ∧ True ∧ True) rfl ⟨trivial, trivial, trivial⟩ ?_
      exact h
    · have h := h.2 g
      exact jRun.ret (k := jk_X4_leastReach) rfl 2 (v := some (.int a2)) (M1 := M2) (ob := True ∧ True) rfl ⟨trivial, trivial⟩ h
theorem w_X4_fewestIslands {X : jX} {T : jT} {d : Nat} (hI : jInj X T) (a0 : Nat) (a1 : Nat) (M : jMem) (Q : Option Value → jMem → Prop) (h : jKd T a0 = 4 ∧ jKd T (jRf T a0 1) = 5 ∧ jOk X T d q_X5_becomeAs [.ref (jRf T a0 1), .ref a1] M (fun v M1 => v = none ∧ (∀ M2, M2 = jP M1 a0 4 (-1) → jRun X T (d + 1) q_X4_fewestIslands (15, [.ref a0, .ref a1, .int 0, .null], [], M2) Q))) : jOk X T (d + 1) q_X4_fewestIslands [.ref a0, .ref a1] M Q := by
  refine jOk.intro (ml := 4) (ls := [.ref a0, .ref a1, .null, .null]) (jTl (by decide)) rfl (Nat.le_of_ble_eq_true rfl) rfl hI ?_
  obtain ⟨o1, o2, h⟩ := h
  refine jRun.call (k := jk_X4_fewestIslands) rfl 4 (f := q_X5_becomeAs) (As := [.ref (jRf T a0 1), .ref a1]) (c1 := (8, [.ref a0, .ref a1, .null, .null], [], M)) (ob := True ∧ jKd T a0 = 4 ∧ True ∧ jKd T (jRf T a0 1) = 5) rfl ⟨trivial, o1, trivial, o2⟩ h (fun v M1 h => ?_)
  obtain ⟨rfl, h⟩ := h
  show jRun X T (d + 1) q_X4_fewestIslands (8, [.ref a0, .ref a1, .null, .null], [], M1) Q
  refine jRun.cut (k := jk_X4_fewestIslands) rfl 3 (c' := (13, [.ref a0, .ref a1, .null, .null], [], (jP M1 a0 4 (-1)))) (ob := True ∧ True ∧ jKd T a0 = 4 ∧ True) rfl ⟨trivial, trivial, o1, trivial⟩ ?_
  refine jRun.nm (fun M2 eM2 => ?_)
  have h := h M2 eM2
  refine jRun.cut (k := jk_X4_fewestIslands) rfl 2 (c' := (15, [.ref a0, .ref a1, .int 0, .null], [], M2)) (ob := True ∧ True ∧ True) rfl ⟨trivial, trivial, trivial⟩ ?_
  exact h
theorem w_X4_fewestIslands_15 {X : jX} {T : jT} {d : Nat} (a0 : Nat) (a1 : Nat) (a2 : Int32) (M : jMem) (Q : Option Value → jMem → Prop) (h : ((3 < a2 → Q (some (.int (-9))) M) ∧ (¬ 3 < a2 → jKd T a0 = 4 ∧ jKd T (jRf T a0 0) = 3 ∧ jOk X T d q_X4_leastWith [.ref a0, .int 0, .int (8 * (M (jRf T a0 0) 12)), .int a2] M (fun v M1 => ∃ r1, v = some (.int r1) ∧ ((r1 < 0 → jRun X T (d + 1) q_X4_fewestIslands (15, [.ref a0, .ref a1, .int (a2 + 1), .null], [], M1) Q) ∧ (¬ r1 < 0 → Q (some (.int r1)) M1)))))) : jRun X T (d + 1) q_X4_fewestIslands (15, [.ref a0, .ref a1, .int a2, .null], [], M) Q := by
  refine jRun.cut (k := jk_X4_fewestIslands) rfl 3 (c' := (if 3 < a2 then 49 else 20, [.ref a0, .ref a1, .int a2, .null], [], M)) (ob := True ∧ True ∧ True ∧ True) rfl ⟨trivial, trivial, trivial, trivial⟩ ?_
  refine jRun.br (fun g => ?_) (fun g => ?_)
  · have h := h.1 g
    exact jRun.ret (k := jk_X4_fewestIslands) rfl 2 (v := some (.int (-9))) (M1 := M) (ob := True ∧ True) rfl ⟨trivial, trivial⟩ h
  · have h := h.2 g
    obtain ⟨o1, o2, h⟩ := h
    refine jRun.call (k := jk_X4_fewestIslands) rfl 9 (f := q_X4_leastWith) (As := [.ref a0, .int 0, .int (8 * (M (jRf T a0 0) 12)), .int a2]) (c1 := (36, [.ref a0, .ref a1, .int a2, .null], [], M)) (ob := True ∧ True ∧ True ∧ True ∧ jKd T a0 = 4 ∧ jKd T (jRf T a0 0) = 3 ∧ True ∧ True ∧ jKd T a0 = 4) rfl ⟨trivial, trivial, trivial, trivial, o1, o2, trivial, trivial, o1⟩ h (fun v M1 h => ?_)
    obtain ⟨r1, rfl, h⟩ := h
    show jRun X T (d + 1) q_X4_fewestIslands (36, [.ref a0, .ref a1, .int a2, .null], [.int r1], M1) Q
    refine jRun.cut (k := jk_X4_fewestIslands) rfl 3 (c' := (if r1 < 0 then 43 else 41, [.ref a0, .ref a1, .int a2, .int r1], [], M1)) (ob := True ∧ True ∧ True ∧ True) rfl ⟨trivial, trivial, trivial, trivial⟩ ?_
    refine jRun.br (fun g => ?_) (fun g => ?_)
    · have h := h.1 g
      refine jRun.cut (k := jk_X4_fewestIslands) rfl 2 (c' := (15, [.ref a0, .ref a1, .int (a2 + 1), .int r1], [], M1)) (ob := True ∧ True ∧ True) rfl ⟨trivial, trivial, trivial⟩ ?_
      exact jRun.weak (by simp [jFew]) h
    · have h := h.2 g
      exact jRun.ret (k := jk_X4_fewestIslands) rfl 2 (v := some (.int r1)) (M1 := M1) (ob := True ∧ True) rfl ⟨trivial, trivial⟩ h
theorem w_X4_allOdds {X : jX} {T : jT} {d : Nat} (hI : jInj X T) (a0 : Nat) (M : jMem) (Q : Option Value → jMem → Prop) (h : jKd T a0 = 4 ∧ jKd T (jRf T a0 0) = 3 ∧ jOk X T d q_X4_power [.int 10, .int (if 6 < (M (jRf T a0 0) 9) then 6 else (M (jRf T a0 0) 9))] M (fun v M1 => ∃ r1, v = some (.int r1) ∧ Q (some (.int r1)) M1)) : jOk X T (d + 1) q_X4_allOdds [.ref a0] M Q := by
  refine jOk.intro (ml := 1) (ls := [.ref a0]) (jTl (by decide)) rfl (Nat.le_of_ble_eq_true rfl) rfl hI ?_
  obtain ⟨o1, o2, h⟩ := h
  refine jRun.call (k := jk_X4_allOdds) rfl 7 (f := q_X4_power) (As := [.int 10, .int (if 6 < (M (jRf T a0 0) 9) then 6 else (M (jRf T a0 0) 9))]) (c1 := (17, [.ref a0], [], M)) (ob := True ∧ True ∧ jKd T a0 = 4 ∧ jKd T (jRf T a0 0) = 3 ∧ True ∧ True ∧ True) rfl ⟨trivial, trivial, o1, o2, trivial, trivial, trivial⟩ h (fun v M1 h => ?_)
  obtain ⟨r1, rfl, h⟩ := h
  show jRun X T (d + 1) q_X4_allOdds (17, [.ref a0], [.int r1], M1) Q
  exact jRun.ret (k := jk_X4_allOdds) rfl 1 (v := some (.int r1)) (M1 := M1) (ob := True) rfl trivial h
theorem w_X4_oddsOfLong {X : jX} {T : jT} {d : Nat} (hI : jInj X T) (a0 : Nat) (a1 : Nat) (a2 : Int32) (a3 : Int32) (M : jMem) (Q : Option Value → jMem → Prop) (h : jKd T a0 = 4 ∧ jKd T (jRf T a0 1) = 5 ∧ jOk X T d q_X5_becomeAs [.ref (jRf T a0 1), .ref a1] M (fun v M1 => v = none ∧ jOk X T d q_X4_findFirstOps [.ref a0] M1 (fun v M2 => ∃ r2, v = some (.int r2) ∧ jRun X T (d + 1) q_X4_oddsOfLong (20, [.ref a0, .ref a1, .int a2, .int a3, .int r2, .int 0, .int 0, .null], [], M2) Q))) : jOk X T (d + 1) q_X4_oddsOfLong [.ref a0, .ref a1, .int a2, .int a3] M Q := by
  refine jOk.intro (ml := 8) (ls := [.ref a0, .ref a1, .int a2, .int a3, .null, .null, .null, .null]) (jTl (by decide)) rfl (Nat.le_of_ble_eq_true rfl) rfl hI ?_
  obtain ⟨o1, o2, h⟩ := h
  refine jRun.call (k := jk_X4_oddsOfLong) rfl 4 (f := q_X5_becomeAs) (As := [.ref (jRf T a0 1), .ref a1]) (c1 := (8, [.ref a0, .ref a1, .int a2, .int a3, .null, .null, .null, .null], [], M)) (ob := True ∧ jKd T a0 = 4 ∧ True ∧ jKd T (jRf T a0 1) = 5) rfl ⟨trivial, o1, trivial, o2⟩ h (fun v M1 h => ?_)
  obtain ⟨rfl, h⟩ := h
  show jRun X T (d + 1) q_X4_oddsOfLong (8, [.ref a0, .ref a1, .int a2, .int a3, .null, .null, .null, .null], [], M1) Q
  refine jRun.call (k := jk_X4_oddsOfLong) rfl 2 (f := q_X4_findFirstOps) (As := [.ref a0]) (c1 := (12, [.ref a0, .ref a1, .int a2, .int a3, .null, .null, .null, .null], [], M1)) (ob := True ∧ jKd T a0 = 4) rfl ⟨trivial, o1⟩ h (fun v M2 h => ?_)
  obtain ⟨r2, rfl, h⟩ := h
  show jRun X T (d + 1) q_X4_oddsOfLong (12, [.ref a0, .ref a1, .int a2, .int a3, .null, .null, .null, .null], [.int r2], M2) Q
  refine jRun.cut (k := jk_X4_oddsOfLong) rfl 5 (c' := (20, [.ref a0, .ref a1, .int a2, .int a3, .int r2, .int 0, .int 0, .null], [], M2)) (ob := True ∧ True ∧ True ∧ True ∧ True ∧ True) rfl ⟨trivial, trivial, trivial, trivial, trivial, trivial⟩ ?_
  exact h
theorem w_X4_oddsOfLong_20 {X : jX} {T : jT} {d : Nat} (a0 : Nat) (a1 : Nat) (a2 : Int32) (a3 : Int32) (a4 : Int32) (a5 : Int32) (a6 : Int32) (M : jMem) (Q : Option Value → jMem → Prop) (h : (((1 <<< (a4 &&& 31)) ≤ a6 → Q (some (.int a5)) M) ∧ (¬ (1 <<< (a4 &&& 31)) ≤ a6 → jRun X T (d + 1) q_X4_oddsOfLong (32, [.ref a0, .ref a1, .int a2, .int a3, .int a4, .int a5, .int a6, .int 0], [], M) Q))) : jRun X T (d + 1) q_X4_oddsOfLong (20, [.ref a0, .ref a1, .int a2, .int a3, .int a4, .int a5, .int a6, .null], [], M) Q := by
  refine jRun.cut (k := jk_X4_oddsOfLong) rfl 5 (c' := (if (1 <<< (a4 &&& 31)) ≤ a6 then 146 else 29, [.ref a0, .ref a1, .int a2, .int a3, .int a4, .int a5, .int a6, .null], [], M)) (ob := True ∧ True ∧ True ∧ True ∧ True ∧ True) rfl ⟨trivial, trivial, trivial, trivial, trivial, trivial⟩ ?_
  refine jRun.br (fun g => ?_) (fun g => ?_)
  · have h := h.1 g
    exact jRun.ret (k := jk_X4_oddsOfLong) rfl 2 (v := some (.int a5)) (M1 := M) (ob := True ∧ True) rfl ⟨trivial, trivial⟩ h
  · have h := h.2 g
    refine jRun.cut (k := jk_X4_oddsOfLong) rfl 2 (c' := (32, [.ref a0, .ref a1, .int a2, .int a3, .int a4, .int a5, .int a6, .int 0], [], M)) (ob := True ∧ True ∧ True) rfl ⟨trivial, trivial, trivial⟩ ?_
    exact h
theorem w_X4_oddsOfLong_32 {X : jX} {T : jT} {d : Nat} (a0 : Nat) (a1 : Nat) (a2 : Int32) (a3 : Int32) (a4 : Int32) (a5 : Int32) (a6 : Int32) (a7 : Int32) (M : jMem) (Q : Option Value → jMem → Prop) (h : ((a4 ≤ a7 → jKd T a0 = 4 ∧ jKd T (jRf T a0 1) = 5 ∧ jKd T (jRf T a0 2) = 1 ∧ jOk X T d q_X1_growFrom [.ref (jRf T a0 2), .ref (jRf T a0 1), .int (M (jRf T a0 1) 1)] M (fun v M1 => v = none ∧ jOk X T d q_J6_bitCount_0f7a4 [.int a6] M1 (fun v M2 => ∃ r2, v = some (.int r2) ∧ jOk X T d q_X1_isLong [.ref (jRf T a0 2), .int a2] M2 (fun v M3 => ∃ r3, v = some (.int r3) ∧ ((r3 = 0 → jRun X T (d + 1) q_X4_oddsOfLong (20, [.ref a0, .ref a1, .int a2, .int a3, .int a4, .int a5, .int (a6 + 1), .null], [], M3) Q) ∧ (¬ r3 = 0 → jOk X T d q_X4_power [.int a3, .int r2] M3 (fun v M4 => ∃ r4, v = some (.int r4) ∧ jOk X T d q_X4_power [.int (10 - a3), .int (a4 - r2)] M4 (fun v M5 => ∃ r5, v = some (.int r5) ∧ jRun X T (d + 1) q_X4_oddsOfLong (20, [.ref a0, .ref a1, .int a2, .int a3, .int a4, .int (a5 + (r4 * r5)), .int (a6 + 1), .null], [], M5) Q)))))))) ∧ (¬ a4 ≤ a7 → jKd T a0 = 4 ∧ jKd T (jRf T a0 1) = 5 ∧ jKd T (jRf T a0 3) = 9 ∧ vp_in a7 (jLn T (jRf T a0 3)) ∧ jKd T a1 = 5 ∧ jKd T (jRf T a1 0) = 9 ∧ vp_in (M (jRf T a0 3) a7.toNatClampNeg) (jLn T (jRf T a1 0)) ∧ jKd T (jRf T (jRf T a0 1) 0) = 9 ∧ vp_in (M (jRf T a0 3) a7.toNatClampNeg) (jLn T (jRf T (jRf T a0 1) 0)) ∧ (∀ M6, M6 = jP M (jRf T (jRf T a0 1) 0) ((M (jRf T a0 3) a7.toNatClampNeg).toNatClampNeg) ((M (jRf T a1 0) (M (jRf T a0 3) a7.toNatClampNeg).toNatClampNeg) + ((a6 >>> (a7 &&& 31)) &&& 1)) → jRun X T (d + 1) q_X4_oddsOfLong (32, [.ref a0, .ref a1, .int a2, .int a3, .int a4, .int a5, .int a6, .int (a7 + 1)], [], M6) Q)))) : jRun X T (d + 1) q_X4_oddsOfLong (32, [.ref a0, .ref a1, .int a2, .int a3, .int a4, .int a5, .int a6, .int a7], [], M) Q := by
  refine jRun.cut (k := jk_X4_oddsOfLong) rfl 3 (c' := (if a4 ≤ a7 then 80 else 39, [.ref a0, .ref a1, .int a2, .int a3, .int a4, .int a5, .int a6, .int a7], [], M)) (ob := True ∧ True ∧ True ∧ True) rfl ⟨trivial, trivial, trivial, trivial⟩ ?_
  refine jRun.br (fun g => ?_) (fun g => ?_)
  · have h := h.1 g
    obtain ⟨o1, o2, o3, h⟩ := h
    refine jRun.call (k := jk_X4_oddsOfLong) rfl 8 (f := q_X1_growFrom) (As := [.ref (jRf T a0 2), .ref (jRf T a0 1), .int (M (jRf T a0 1) 1)]) (c1 := (98, [.ref a0, .ref a1, .int a2, .int a3, .int a4, .int a5, .int a6, .int a7], [], M)) (ob := True ∧ jKd T a0 = 4 ∧ True ∧ jKd T a0 = 4 ∧ True ∧ jKd T a0 = 4 ∧ jKd T (jRf T a0 1) = 5 ∧ jKd T (jRf T a0 2) = 1) rfl ⟨trivial, o1, trivial, o1, trivial, o1, o2, o3⟩ h (fun v M1 h => ?_)
    obtain ⟨rfl, h⟩ := h
    show jRun X T (d + 1) q_X4_oddsOfLong (98, [.ref a0, .ref a1, .int a2, .int a3, .int a4, .int a5, .int a6, .int a7], [], M1) Q
    refine jRun.call (k := jk_X4_oddsOfLong) rfl 2 (f := q_J6_bitCount_0f7a4) (As := [.int a6]) (c1 := (103, [.ref a0, .ref a1, .int a2, .int a3, .int a4, .int a5, .int a6, .int a7], [], M1)) (ob := True ∧ True) rfl ⟨trivial, trivial⟩ h (fun v M2 h => ?_)
    obtain ⟨r2, rfl, h⟩ := h
    show jRun X T (d + 1) q_X4_oddsOfLong (103, [.ref a0, .ref a1, .int a2, .int a3, .int a4, .int a5, .int a6, .int a7], [.int r2], M2) Q
    refine jRun.call (k := jk_X4_oddsOfLong) rfl 5 (f := q_X1_isLong) (As := [.ref (jRf T a0 2), .int a2]) (c1 := (113, [.ref a0, .ref a1, .int a2, .int a3, .int a4, .int a5, .int a6, .int r2], [], M2)) (ob := True ∧ True ∧ jKd T a0 = 4 ∧ True ∧ jKd T (jRf T a0 2) = 1) rfl ⟨trivial, trivial, o1, trivial, o3⟩ h (fun v M3 h => ?_)
    obtain ⟨r3, rfl, h⟩ := h
    show jRun X T (d + 1) q_X4_oddsOfLong (113, [.ref a0, .ref a1, .int a2, .int a3, .int a4, .int a5, .int a6, .int r2], [.int r3], M3) Q
    refine jRun.cut (k := jk_X4_oddsOfLong) rfl 1 (c' := (if r3 = 0 then 140 else 116, [.ref a0, .ref a1, .int a2, .int a3, .int a4, .int a5, .int a6, .int r2], [], M3)) (ob := True ∧ True) rfl ⟨trivial, trivial⟩ ?_
    refine jRun.br (fun g => ?_) (fun g => ?_)
    · have h := h.1 g
      refine jRun.cut (k := jk_X4_oddsOfLong) rfl 2 (c' := (20, [.ref a0, .ref a1, .int a2, .int a3, .int a4, .int a5, .int (a6 + 1), .int r2], [], M3)) (ob := True ∧ True ∧ True) rfl ⟨trivial, trivial, trivial⟩ ?_
      exact jRun.weak (by simp [jFew]) h
    · have h := h.2 g
      refine jRun.call (k := jk_X4_oddsOfLong) rfl 4 (f := q_X4_power) (As := [.int a3, .int r2]) (c1 := (124, [.ref a0, .ref a1, .int a2, .int a3, .int a4, .int a5, .int a6, .int r2], [.int a5], M3)) (ob := True ∧ True ∧ True ∧ True) rfl ⟨trivial, trivial, trivial, trivial⟩ h (fun v M4 h => ?_)
      obtain ⟨r4, rfl, h⟩ := h
      show jRun X T (d + 1) q_X4_oddsOfLong (124, [.ref a0, .ref a1, .int a2, .int a3, .int a4, .int a5, .int a6, .int r2], [.int r4, .int a5], M4) Q
      refine jRun.call (k := jk_X4_oddsOfLong) rfl 7 (f := q_X4_power) (As := [.int (10 - a3), .int (a4 - r2)]) (c1 := (136, [.ref a0, .ref a1, .int a2, .int a3, .int a4, .int a5, .int a6, .int r2], [.int r4, .int a5], M4)) (ob := True ∧ True ∧ True ∧ True ∧ True ∧ True ∧ True) rfl ⟨trivial, trivial, trivial, trivial, trivial, trivial, trivial⟩ h (fun v M5 h => ?_)
      obtain ⟨r5, rfl, h⟩ := h
      show jRun X T (d + 1) q_X4_oddsOfLong (136, [.ref a0, .ref a1, .int a2, .int a3, .int a4, .int a5, .int a6, .int r2], [.int r5, .int r4, .int a5], M5) Q
      refine jRun.cut (k := jk_X4_oddsOfLong) rfl 5 (c' := (20, [.ref a0, .ref a1, .int a2, .int a3, .int a4, .int (a5 + (r4 * r5)), .int (a6 + 1), .int r2], [], M5)) (ob := True ∧ True ∧ True ∧ True ∧ True ∧ True) rfl ⟨trivial, trivial, trivial, trivial, trivial, trivial⟩ ?_
      exact jRun.weak (by simp [jFew]) h
  · have h := h.2 g
    obtain ⟨o4, o5, o6, o7, o8, o9, o10, o11, o12, h⟩ := h
    refine jRun.cut (k := jk_X4_oddsOfLong) rfl 21 (c' := (74, [.ref a0, .ref a1, .int a2, .int a3, .int a4, .int a5, .int a6, .int a7], [], (jP M (jRf T (jRf T a0 1) 0) ((M (jRf T a0 3) a7.toNatClampNeg).toNatClampNeg) ((M (jRf T a1 0) (M (jRf T a0 3) a7.toNatClampNeg).toNatClampNeg) + ((a6 >>> (a7 &&& 31)) &&& 1))))) (ob := True ∧ jKd T a0 = 4 ∧ jKd T (jRf T a0 1) = 5 ∧ True ∧ jKd T a0 = 4 ∧ True ∧ (jKd T (jRf T a0 3) = 9 ∧ vp_in a7 (jLn T (jRf T a0 3))) ∧ True ∧ jKd T a1 = 5 ∧ True ∧ jKd T a0 = 4 ∧ True ∧ (jKd T (jRf T a0 3) = 9 ∧ vp_in a7 (jLn T (jRf T a0 3))) ∧ (jKd T (jRf T a1 0) = 9 ∧ vp_in (M (jRf T a0 3) a7.toNatClampNeg) (jLn T (jRf T a1 0))) ∧ True ∧ True ∧ True ∧ True ∧ True ∧ True ∧ (jKd T (jRf T (jRf T a0 1) 0) = 9 ∧ vp_in (M (jRf T a0 3) a7.toNatClampNeg) (jLn T (jRf T (jRf T a0 1) 0))) ∧ True) rfl ⟨trivial, o4, o5, trivial, o4, trivial, ⟨o6, o7⟩, trivial, o8, trivial, o4, trivial, ⟨o6, o7⟩, ⟨o9, o10⟩, trivial, trivial, trivial, trivial, trivial, trivial, ⟨o11, o12⟩, trivial⟩ ?_
    refine jRun.nm (fun M6 eM6 => ?_)
    have h := h M6 eM6
    refine jRun.cut (k := jk_X4_oddsOfLong) rfl 2 (c' := (32, [.ref a0, .ref a1, .int a2, .int a3, .int a4, .int a5, .int a6, .int (a7 + 1)], [], M6)) (ob := True ∧ True ∧ True) rfl ⟨trivial, trivial, trivial⟩ ?_
    exact h
theorem w_X4_leastWith {X : jX} {T : jT} {d : Nat} (hI : jInj X T) (a0 : Nat) (a1 : Int32) (a2 : Int32) (a3 : Int32) (M : jMem) (Q : Option Value → jMem → Prop) (h : ((0 < a3 → jRun X T (d + 1) q_X4_leastWith (22, [.ref a0, .int a1, .int a2, .int a3, .int 0, .null], [], M) Q) ∧ (¬ 0 < a3 → jKd T a0 = 4 ∧ jOk X T d q_X4_servesAllBy [.ref a0, .int a1] M (fun v M1 => ∃ r1, v = some (.int r1) ∧ ((r1 = 0 → Q (some (.int (-9))) M1) ∧ (¬ r1 = 0 → Q (some (.int a1)) M1)))))) : jOk X T (d + 1) q_X4_leastWith [.ref a0, .int a1, .int a2, .int a3] M Q := by
  refine jOk.intro (ml := 6) (ls := [.ref a0, .int a1, .int a2, .int a3, .null, .null]) (jTl (by decide)) rfl (Nat.le_of_ble_eq_true rfl) rfl hI ?_
  refine jRun.cut (k := jk_X4_leastWith) rfl 2 (c' := (if 0 < a3 then 19 else 4, [.ref a0, .int a1, .int a2, .int a3, .null, .null], [], M)) (ob := True ∧ True ∧ True) rfl ⟨trivial, trivial, trivial⟩ ?_
  refine jRun.br (fun g => ?_) (fun g => ?_)
  · have h := h.1 g
    refine jRun.cut (k := jk_X4_leastWith) rfl 2 (c' := (22, [.ref a0, .int a1, .int a2, .int a3, .int 0, .null], [], M)) (ob := True ∧ True ∧ True) rfl ⟨trivial, trivial, trivial⟩ ?_
    exact h
  · have h := h.2 g
    obtain ⟨o1, h⟩ := h
    refine jRun.call (k := jk_X4_leastWith) rfl 3 (f := q_X4_servesAllBy) (As := [.ref a0, .int a1]) (c1 := (9, [.ref a0, .int a1, .int a2, .int a3, .null, .null], [], M)) (ob := True ∧ True ∧ jKd T a0 = 4) rfl ⟨trivial, trivial, o1⟩ h (fun v M1 h => ?_)
    obtain ⟨r1, rfl, h⟩ := h
    show jRun X T (d + 1) q_X4_leastWith (9, [.ref a0, .int a1, .int a2, .int a3, .null, .null], [.int r1], M1) Q
    refine jRun.cut (k := jk_X4_leastWith) rfl 1 (c' := (if r1 = 0 then 16 else 12, [.ref a0, .int a1, .int a2, .int a3, .null, .null], [], M1)) (ob := True ∧ True) rfl ⟨trivial, trivial⟩ ?_
    refine jRun.br (fun g => ?_) (fun g => ?_)
    · have h := h.1 g
      exact jRun.ret (k := jk_X4_leastWith) rfl 2 (v := some (.int (-9))) (M1 := M1) (ob := True ∧ True) rfl ⟨trivial, trivial⟩ h
    · have h := h.2 g
      exact jRun.ret (k := jk_X4_leastWith) rfl 3 (v := some (.int a1)) (M1 := M1) (ob := True ∧ True ∧ True) rfl ⟨trivial, trivial, trivial⟩ h
theorem w_X4_leastWith_22 {X : jX} {T : jT} {d : Nat} (a0 : Nat) (a1 : Int32) (a2 : Int32) (a3 : Int32) (a4 : Int32) (M : jMem) (Q : Option Value → jMem → Prop) (h : ((a2 ≤ a4 → Q (some (.int (-9))) M) ∧ (¬ a2 ≤ a4 → jKd T a0 = 4 ∧ jKd T (jRf T a0 0) = 3 ∧ jOk X T d q_X3_hasLabel [.ref (jRf T a0 0), .int (a4 - a4 / 8 * 8)] M (fun v M1 => ∃ r1, v = some (.int r1) ∧ ((¬ r1 = 0 → jOk X T d q_X4_leastWith [.ref a0, .int (a1 ||| (1 <<< (a4 &&& 31))), .int a4, .int (a3 - 1)] M1 (fun v M2 => ∃ r2, v = some (.int r2) ∧ ((r2 < 0 → jRun X T (d + 1) q_X4_leastWith (22, [.ref a0, .int a1, .int a2, .int a3, .int (a4 + 1), .null], [], M2) Q) ∧ (¬ r2 < 0 → Q (some (.int r2)) M2)))) ∧ (r1 = 0 → jRun X T (d + 1) q_X4_leastWith (22, [.ref a0, .int a1, .int a2, .int a3, .int (a4 + 1), .null], [], M1) Q)))))) : jRun X T (d + 1) q_X4_leastWith (22, [.ref a0, .int a1, .int a2, .int a3, .int a4, .null], [], M) Q := by
  refine jRun.cut (k := jk_X4_leastWith) rfl 3 (c' := (if a2 ≤ a4 then 77 else 28, [.ref a0, .int a1, .int a2, .int a3, .int a4, .null], [], M)) (ob := True ∧ True ∧ True ∧ True) rfl ⟨trivial, trivial, trivial, trivial⟩ ?_
  refine jRun.br (fun g => ?_) (fun g => ?_)
  · have h := h.1 g
    exact jRun.ret (k := jk_X4_leastWith) rfl 2 (v := some (.int (-9))) (M1 := M) (ob := True ∧ True) rfl ⟨trivial, trivial⟩ h
  · have h := h.2 g
    obtain ⟨o1, o2, h⟩ := h
    refine jRun.call (k := jk_X4_leastWith) rfl 6 (f := q_X3_hasLabel) (As := [.ref (jRf T a0 0), .int (a4 - a4 / 8 * 8)]) (c1 := (40, [.ref a0, .int a1, .int a2, .int a3, .int a4, .null], [], M)) (ob := True ∧ jKd T a0 = 4 ∧ True ∧ True ∧ ¬ 8 = 0 ∧ jKd T (jRf T a0 0) = 3) rfl ⟨trivial, o1, trivial, trivial, (by decide), o2⟩ h (fun v M1 h => ?_)
    obtain ⟨r1, rfl, h⟩ := h
    show jRun X T (d + 1) q_X4_leastWith (40, [.ref a0, .int a1, .int a2, .int a3, .int a4, .null], [.int r1], M1) Q
    refine jRun.cut (k := jk_X4_leastWith) rfl 1 (c' := (if ¬ r1 = 0 then 46 else 43, [.ref a0, .int a1, .int a2, .int a3, .int a4, .null], [], M1)) (ob := True ∧ True) rfl ⟨trivial, trivial⟩ ?_
    refine jRun.brn (fun g => ?_) (fun g => ?_)
    · have h := h.1 g
      refine jRun.call (k := jk_X4_leastWith) rfl 11 (f := q_X4_leastWith) (As := [.ref a0, .int (a1 ||| (1 <<< (a4 &&& 31))), .int a4, .int (a3 - 1)]) (c1 := (61, [.ref a0, .int a1, .int a2, .int a3, .int a4, .null], [], M1)) (ob := True ∧ True ∧ True ∧ True ∧ True ∧ True ∧ True ∧ True ∧ True ∧ True ∧ jKd T a0 = 4) rfl ⟨trivial, trivial, trivial, trivial, trivial, trivial, trivial, trivial, trivial, trivial, o1⟩ h (fun v M2 h => ?_)
      obtain ⟨r2, rfl, h⟩ := h
      show jRun X T (d + 1) q_X4_leastWith (61, [.ref a0, .int a1, .int a2, .int a3, .int a4, .null], [.int r2], M2) Q
      refine jRun.cut (k := jk_X4_leastWith) rfl 3 (c' := (if r2 < 0 then 71 else 68, [.ref a0, .int a1, .int a2, .int a3, .int a4, .int r2], [], M2)) (ob := True ∧ True ∧ True ∧ True) rfl ⟨trivial, trivial, trivial, trivial⟩ ?_
      refine jRun.br (fun g => ?_) (fun g => ?_)
      · have h := h.1 g
        refine jRun.cut (k := jk_X4_leastWith) rfl 2 (c' := (22, [.ref a0, .int a1, .int a2, .int a3, .int (a4 + 1), .int r2], [], M2)) (ob := True ∧ True ∧ True) rfl ⟨trivial, trivial, trivial⟩ ?_
        exact jRun.weak (by simp [jFew]) h
      · have h := h.2 g
        exact jRun.ret (k := jk_X4_leastWith) rfl 2 (v := some (.int r2)) (M1 := M2) (ob := True ∧ True) rfl ⟨trivial, trivial⟩ h
    · have h := h.2 g
      refine jRun.cut (k := jk_X4_leastWith) rfl 3 (c' := (22, [.ref a0, .int a1, .int a2, .int a3, .int (a4 + 1), .null], [], M1)) (ob := True ∧ True ∧ True ∧ True) rfl ⟨trivial, trivial, trivial, trivial⟩ ?_
      exact h
theorem w_X4_servesAllBy {X : jX} {T : jT} {d : Nat} (hI : jInj X T) (a0 : Nat) (a1 : Int32) (M : jMem) (Q : Option Value → jMem → Prop) (h : jKd T a0 = 4 ∧ jKd T (jRf T a0 1) = 5 ∧ (∀ M1, M1 = jP M (jRf T a0 1) 2 a1 → jOk X T d q_X5_islandsIn [.ref (jRf T a0 1), .int 0] M1 (fun v M2 => ∃ r1, v = some (.int r1) ∧ jOk X T d q_X5_islandsIn [.ref (jRf T a0 1), .int 1] M2 (fun v M3 => ∃ r2, v = some (.int r2) ∧ jOk X T d q_X5_islandsIn [.ref (jRf T a0 1), .int 2] M3 (fun v M4 => ∃ r3, v = some (.int r3) ∧ ((((r1 ||| (r2 <<< (4 &&& 31))) ||| (r3 <<< (8 &&& 31))) = (M4 a0 4) → jKd T (jRf T a0 2) = 1 ∧ jOk X T d q_X1_servesAll [.ref (jRf T a0 2), .ref (jRf T a0 1)] M4 (fun v M5 => ∃ r4, v = some (.int r4) ∧ (r4 = 0 ∨ r4 = 1) ∧ Q (some (.int r4)) M5)) ∧ (¬ ((r1 ||| (r2 <<< (4 &&& 31))) ||| (r3 <<< (8 &&& 31))) = (M4 a0 4) → jKd T (jRf T a0 2) = 1 ∧ jOk X T d q_X1_growFrom [.ref (jRf T a0 2), .ref (jRf T a0 1), .int (M4 (jRf T a0 1) 1)] M4 (fun v M6 => v = none ∧ (∀ M7, M7 = jP M6 a0 4 ((r1 ||| (r2 <<< (4 &&& 31))) ||| (r3 <<< (8 &&& 31))) → jOk X T d q_X1_servesAll [.ref (jRf T a0 2), .ref (jRf T a0 1)] M7 (fun v M8 => ∃ r6, v = some (.int r6) ∧ (r6 = 0 ∨ r6 = 1) ∧ Q (some (.int r6)) M8)))))))))) : jOk X T (d + 1) q_X4_servesAllBy [.ref a0, .int a1] M Q := by
  refine jOk.intro (ml := 3) (ls := [.ref a0, .int a1, .null]) (jTl (by decide)) rfl (Nat.le_of_ble_eq_true rfl) rfl hI ?_
  obtain ⟨o1, o2, h⟩ := h
  refine jRun.cut (k := jk_X4_servesAllBy) rfl 4 (c' := (8, [.ref a0, .int a1, .null], [], (jP M (jRf T a0 1) 2 a1))) (ob := True ∧ jKd T a0 = 4 ∧ True ∧ jKd T (jRf T a0 1) = 5 ∧ True) rfl ⟨trivial, o1, trivial, o2, trivial⟩ ?_
  refine jRun.nm (fun M1 eM1 => ?_)
  have h := h M1 eM1
  refine jRun.call (k := jk_X4_servesAllBy) rfl 4 (f := q_X5_islandsIn) (As := [.ref (jRf T a0 1), .int 0]) (c1 := (16, [.ref a0, .int a1, .null], [], M1)) (ob := True ∧ jKd T a0 = 4 ∧ True ∧ jKd T (jRf T a0 1) = 5) rfl ⟨trivial, o1, trivial, o2⟩ h (fun v M2 h => ?_)
  obtain ⟨r1, rfl, h⟩ := h
  show jRun X T (d + 1) q_X4_servesAllBy (16, [.ref a0, .int a1, .null], [.int r1], M2) Q
  refine jRun.call (k := jk_X4_servesAllBy) rfl 4 (f := q_X5_islandsIn) (As := [.ref (jRf T a0 1), .int 1]) (c1 := (24, [.ref a0, .int a1, .null], [.int r1], M2)) (ob := True ∧ jKd T a0 = 4 ∧ True ∧ jKd T (jRf T a0 1) = 5) rfl ⟨trivial, o1, trivial, o2⟩ h (fun v M3 h => ?_)
  obtain ⟨r2, rfl, h⟩ := h
  show jRun X T (d + 1) q_X4_servesAllBy (24, [.ref a0, .int a1, .null], [.int r2, .int r1], M3) Q
  refine jRun.call (k := jk_X4_servesAllBy) rfl 7 (f := q_X5_islandsIn) (As := [.ref (jRf T a0 1), .int 2]) (c1 := (35, [.ref a0, .int a1, .null], [.int (r1 ||| (r2 <<< (4 &&& 31)))], M3)) (ob := True ∧ True ∧ True ∧ True ∧ jKd T a0 = 4 ∧ True ∧ jKd T (jRf T a0 1) = 5) rfl ⟨trivial, trivial, trivial, trivial, o1, trivial, o2⟩ h (fun v M4 h => ?_)
  obtain ⟨r3, rfl, h⟩ := h
  show jRun X T (d + 1) q_X4_servesAllBy (35, [.ref a0, .int a1, .null], [.int r3, .int (r1 ||| (r2 <<< (4 &&& 31)))], M4) Q
  refine jRun.cut (k := jk_X4_servesAllBy) rfl 8 (c' := (if ((r1 ||| (r2 <<< (4 &&& 31))) ||| (r3 <<< (8 &&& 31))) = (M4 a0 4) then 71 else 48, [.ref a0, .int a1, .int ((r1 ||| (r2 <<< (4 &&& 31))) ||| (r3 <<< (8 &&& 31)))], [], M4)) (ob := True ∧ True ∧ True ∧ True ∧ True ∧ True ∧ jKd T a0 = 4 ∧ True ∧ True) rfl ⟨trivial, trivial, trivial, trivial, trivial, trivial, o1, trivial, trivial⟩ ?_
  refine jRun.br (fun g => ?_) (fun g => ?_)
  · have h := h.1 g
    obtain ⟨o3, h⟩ := h
    refine jRun.call (k := jk_X4_servesAllBy) rfl 5 (f := q_X1_servesAll) (As := [.ref (jRf T a0 2), .ref (jRf T a0 1)]) (c1 := (82, [.ref a0, .int a1, .int ((r1 ||| (r2 <<< (4 &&& 31))) ||| (r3 <<< (8 &&& 31)))], [], M4)) (ob := True ∧ jKd T a0 = 4 ∧ True ∧ jKd T a0 = 4 ∧ jKd T (jRf T a0 2) = 1) rfl ⟨trivial, o1, trivial, o1, o3⟩ h (fun v M5 h => ?_)
    obtain ⟨r4, rfl, h⟩ := h
    show jRun X T (d + 1) q_X4_servesAllBy (82, [.ref a0, .int a1, .int ((r1 ||| (r2 <<< (4 &&& 31))) ||| (r3 <<< (8 &&& 31)))], [.int r4], M5) Q
    obtain ⟨o4, h⟩ := h
    exact jRun.ret (k := jk_X4_servesAllBy) rfl 1 (v := some (.int r4)) (M1 := M5) (ob := (r4 = 0 ∨ r4 = 1)) rfl o4 h
  · have h := h.2 g
    obtain ⟨o5, h⟩ := h
    refine jRun.call (k := jk_X4_servesAllBy) rfl 8 (f := q_X1_growFrom) (As := [.ref (jRf T a0 2), .ref (jRf T a0 1), .int (M4 (jRf T a0 1) 1)]) (c1 := (66, [.ref a0, .int a1, .int ((r1 ||| (r2 <<< (4 &&& 31))) ||| (r3 <<< (8 &&& 31)))], [], M4)) (ob := True ∧ jKd T a0 = 4 ∧ True ∧ jKd T a0 = 4 ∧ True ∧ jKd T a0 = 4 ∧ jKd T (jRf T a0 1) = 5 ∧ jKd T (jRf T a0 2) = 1) rfl ⟨trivial, o1, trivial, o1, trivial, o1, o2, o5⟩ h (fun v M6 h => ?_)
    obtain ⟨rfl, h⟩ := h
    show jRun X T (d + 1) q_X4_servesAllBy (66, [.ref a0, .int a1, .int ((r1 ||| (r2 <<< (4 &&& 31))) ||| (r3 <<< (8 &&& 31)))], [], M6) Q
    refine jRun.cut (k := jk_X4_servesAllBy) rfl 3 (c' := (71, [.ref a0, .int a1, .int ((r1 ||| (r2 <<< (4 &&& 31))) ||| (r3 <<< (8 &&& 31)))], [], (jP M6 a0 4 ((r1 ||| (r2 <<< (4 &&& 31))) ||| (r3 <<< (8 &&& 31)))))) (ob := True ∧ True ∧ jKd T a0 = 4 ∧ True) rfl ⟨trivial, trivial, o1, trivial⟩ ?_
    refine jRun.nm (fun M7 eM7 => ?_)
    have h := h M7 eM7
    refine jRun.call (k := jk_X4_servesAllBy) rfl 5 (f := q_X1_servesAll) (As := [.ref (jRf T a0 2), .ref (jRf T a0 1)]) (c1 := (82, [.ref a0, .int a1, .int ((r1 ||| (r2 <<< (4 &&& 31))) ||| (r3 <<< (8 &&& 31)))], [], M7)) (ob := True ∧ jKd T a0 = 4 ∧ True ∧ jKd T a0 = 4 ∧ jKd T (jRf T a0 2) = 1) rfl ⟨trivial, o1, trivial, o1, o5⟩ h (fun v M8 h => ?_)
    obtain ⟨r6, rfl, h⟩ := h
    show jRun X T (d + 1) q_X4_servesAllBy (82, [.ref a0, .int a1, .int ((r1 ||| (r2 <<< (4 &&& 31))) ||| (r3 <<< (8 &&& 31)))], [.int r6], M8) Q
    obtain ⟨o6, h⟩ := h
    exact jRun.ret (k := jk_X4_servesAllBy) rfl 1 (v := some (.int r6)) (M1 := M8) (ob := (r6 = 0 ∨ r6 = 1)) rfl o6 h
theorem w_X4_findFirstOps {X : jX} {T : jT} {d : Nat} (hI : jInj X T) (a0 : Nat) (M : jMem) (Q : Option Value → jMem → Prop) (h : jRun X T d q_X4_findFirstOps (4, [.ref a0, .int 0, .int 0], [], M) Q) : jOk X T d q_X4_findFirstOps [.ref a0] M Q := by
  refine jOk.intro (ml := 3) (ls := [.ref a0, .null, .null]) (jTl (by decide)) rfl (Nat.le_of_ble_eq_true rfl) rfl hI ?_
  refine jRun.cut (k := jk_X4_findFirstOps) rfl 4 (c' := (4, [.ref a0, .int 0, .int 0], [], M)) (ob := True ∧ True ∧ True ∧ True ∧ True) rfl ⟨trivial, trivial, trivial, trivial, trivial⟩ ?_
  exact h
theorem w_X4_findFirstOps_4 {X : jX} {T : jT} {d : Nat} (a0 : Nat) (a1 : Int32) (a2 : Int32) (M : jMem) (Q : Option Value → jMem → Prop) (h : jKd T a0 = 4 ∧ jKd T (jRf T a0 0) = 3 ∧ (((M (jRf T a0 0) 8) ≤ a2 → Q (some (.int a1)) M) ∧ (¬ (M (jRf T a0 0) 8) ≤ a2 → ((6 ≤ a1 → Q (some (.int a1)) M) ∧ (¬ 6 ≤ a1 → jKd T (jRf T (jRf T a0 0) 0) = 9 ∧ vp_in a2 (jLn T (jRf T (jRf T a0 0) 0)) ∧ ((¬ (M (jRf T (jRf T a0 0) 0) a2.toNatClampNeg) = 0 → jRun X T d q_X4_findFirstOps (4, [.ref a0, .int a1, .int (a2 + 1)], [], M) Q) ∧ ((M (jRf T (jRf T a0 0) 0) a2.toNatClampNeg) = 0 → jKd T (jRf T a0 3) = 9 ∧ vp_in a1 (jLn T (jRf T a0 3)) ∧ (∀ M1, M1 = jP M (jRf T a0 3) a1.toNatClampNeg a2 → jRun X T d q_X4_findFirstOps (4, [.ref a0, .int (a1 + 1), .int (a2 + 1)], [], M1) Q)))))))) : jRun X T d q_X4_findFirstOps (4, [.ref a0, .int a1, .int a2], [], M) Q := by
  obtain ⟨o1, o2, h⟩ := h
  refine jRun.cut (k := jk_X4_findFirstOps) rfl 5 (c' := (if (M (jRf T a0 0) 8) ≤ a2 then 49 else 15, [.ref a0, .int a1, .int a2], [], M)) (ob := True ∧ True ∧ jKd T a0 = 4 ∧ jKd T (jRf T a0 0) = 3 ∧ True ∧ True) rfl ⟨trivial, trivial, o1, o2, trivial, trivial⟩ ?_
  refine jRun.br (fun g => ?_) (fun g => ?_)
  · have h := h.1 g
    exact jRun.ret (k := jk_X4_findFirstOps) rfl 2 (v := some (.int a1)) (M1 := M) (ob := True ∧ True) rfl ⟨trivial, trivial⟩ h
  · have h := h.2 g
    refine jRun.cut (k := jk_X4_findFirstOps) rfl 3 (c' := (if 6 ≤ a1 then 49 else 21, [.ref a0, .int a1, .int a2], [], M)) (ob := True ∧ True ∧ True ∧ True) rfl ⟨trivial, trivial, trivial, trivial⟩ ?_
    refine jRun.br (fun g => ?_) (fun g => ?_)
    · have h := h.1 g
      exact jRun.ret (k := jk_X4_findFirstOps) rfl 2 (v := some (.int a1)) (M1 := M) (ob := True ∧ True) rfl ⟨trivial, trivial⟩ h
    · have h := h.2 g
      obtain ⟨o3, o4, h⟩ := h
      refine jRun.cut (k := jk_X4_findFirstOps) rfl 6 (c' := (if ¬ (M (jRf T (jRf T a0 0) 0) a2.toNatClampNeg) = 0 then 43 else 33, [.ref a0, .int a1, .int a2], [], M)) (ob := True ∧ jKd T a0 = 4 ∧ jKd T (jRf T a0 0) = 3 ∧ True ∧ (jKd T (jRf T (jRf T a0 0) 0) = 9 ∧ vp_in a2 (jLn T (jRf T (jRf T a0 0) 0))) ∧ True ∧ True) rfl ⟨trivial, o1, o2, trivial, ⟨o3, o4⟩, trivial, trivial⟩ ?_
      refine jRun.brn (fun g => ?_) (fun g => ?_)
      · have h := h.1 g
        refine jRun.cut (k := jk_X4_findFirstOps) rfl 2 (c' := (4, [.ref a0, .int a1, .int (a2 + 1)], [], M)) (ob := True ∧ True ∧ True) rfl ⟨trivial, trivial, trivial⟩ ?_
        exact h
      · have h := h.2 g
        obtain ⟨o5, o6, h⟩ := h
        refine jRun.cut (k := jk_X4_findFirstOps) rfl 6 (c' := (43, [.ref a0, .int (a1 + 1), .int a2], [], (jP M (jRf T a0 3) a1.toNatClampNeg a2))) (ob := True ∧ jKd T a0 = 4 ∧ True ∧ True ∧ True ∧ (jKd T (jRf T a0 3) = 9 ∧ vp_in a1 (jLn T (jRf T a0 3))) ∧ True) rfl ⟨trivial, o1, trivial, trivial, trivial, ⟨o5, o6⟩, trivial⟩ ?_
        refine jRun.nm (fun M1 eM1 => ?_)
        have h := h M1 eM1
        refine jRun.cut (k := jk_X4_findFirstOps) rfl 2 (c' := (4, [.ref a0, .int (a1 + 1), .int (a2 + 1)], [], M1)) (ob := True ∧ True ∧ True) rfl ⟨trivial, trivial, trivial⟩ ?_
        exact h
theorem w_X4_power {X : jX} {T : jT} {d : Nat} (hI : jInj X T) (a0 : Int32) (a1 : Int32) (M : jMem) (Q : Option Value → jMem → Prop) (h : jRun X T d q_X4_power (4, [.int a0, .int a1, .int 1, .int 0], [], M) Q) : jOk X T d q_X4_power [.int a0, .int a1] M Q := by
  refine jOk.intro (ml := 4) (ls := [.int a0, .int a1, .null, .null]) (jTl (by decide)) rfl (Nat.le_of_ble_eq_true rfl) rfl hI ?_
  refine jRun.cut (k := jk_X4_power) rfl 4 (c' := (4, [.int a0, .int a1, .int 1, .int 0], [], M)) (ob := True ∧ True ∧ True ∧ True ∧ True) rfl ⟨trivial, trivial, trivial, trivial, trivial⟩ ?_
  exact h
theorem w_X4_power_4 {X : jX} {T : jT} {d : Nat} (a0 : Int32) (a1 : Int32) (a2 : Int32) (a3 : Int32) (M : jMem) (Q : Option Value → jMem → Prop) (h : ((a1 ≤ a3 → Q (some (.int a2)) M) ∧ (¬ a1 ≤ a3 → jRun X T d q_X4_power (4, [.int a0, .int a1, .int (a2 * a0), .int (a3 + 1)], [], M) Q))) : jRun X T d q_X4_power (4, [.int a0, .int a1, .int a2, .int a3], [], M) Q := by
  refine jRun.cut (k := jk_X4_power) rfl 3 (c' := (if a1 ≤ a3 then 19 else 9, [.int a0, .int a1, .int a2, .int a3], [], M)) (ob := True ∧ True ∧ True ∧ True) rfl ⟨trivial, trivial, trivial, trivial⟩ ?_
  refine jRun.br (fun g => ?_) (fun g => ?_)
  · have h := h.1 g
    exact jRun.ret (k := jk_X4_power) rfl 2 (v := some (.int a2)) (M1 := M) (ob := True ∧ True) rfl ⟨trivial, trivial⟩ h
  · have h := h.2 g
    refine jRun.cut (k := jk_X4_power) rfl 6 (c' := (4, [.int a0, .int a1, .int (a2 * a0), .int (a3 + 1)], [], M)) (ob := True ∧ True ∧ True ∧ True ∧ True ∧ True ∧ True) rfl ⟨trivial, trivial, trivial, trivial, trivial, trivial, trivial⟩ ?_
    exact h
theorem w_X5_startAs {X : jX} {T : jT} {d : Nat} (hI : jInj X T) (a0 : Nat) (a1 : Nat) (M : jMem) (Q : Option Value → jMem → Prop) (h : jKd T a1 = 3 ∧ jKd T a0 = 5 ∧ jKd T (jRf T a1 1) = 9 ∧ jKd T (jRf T a0 0) = 9 ∧ 32 ≤ jLn T (jRf T a1 1) ∧ 32 ≤ jLn T (jRf T a0 0) ∧ (∀ M1, M1 = jSC M (jRf T a0 0) (va_cpy (M (jRf T a1 1)) (M (jRf T a0 0)) 0 0 32) → (∀ M2, M2 = jP M1 a0 1 0 → (∀ M3, M3 = jP M2 a0 2 0 → (∀ M4, M4 = jP M3 a0 3 (M3 a1 13) → Q none M4))))) : jOk X T d q_X5_startAs [.ref a0, .ref a1] M Q := by
  refine jOk.intro (ml := 2) (ls := [.ref a0, .ref a1]) (jTl (by decide)) rfl (Nat.le_of_ble_eq_true rfl) rfl hI ?_
  obtain ⟨o1, o2, o3, o4, o5, o6, h⟩ := h
  refine jRun.cut (k := jk_X5_startAs) rfl 8 (c' := (15, [.ref a0, .ref a1], [], (jSC M (jRf T a0 0) (va_cpy (M (jRf T a1 1)) (M (jRf T a0 0)) 0 0 32)))) (ob := True ∧ jKd T a1 = 3 ∧ True ∧ True ∧ jKd T a0 = 5 ∧ True ∧ True ∧ (jKd T (jRf T a1 1) = 9 ∧ jKd T (jRf T a0 0) = 9 ∧ ¬ (0 : Int32) < 0 ∧ ¬ (0 : Int32) < 0 ∧ ¬ (32 : Int32) < 0 ∧ (0 : Int32).toNatClampNeg + (32 : Int32).toNatClampNeg ≤ jLn T (jRf T a1 1) ∧ (0 : Int32).toNatClampNeg + (32 : Int32).toNatClampNeg ≤ jLn T (jRf T a0 0)) ∧ True) rfl ⟨trivial, o1, trivial, trivial, o2, trivial, trivial, ⟨o3, o4, (by decide), (by decide), (by decide), o5, o6⟩, trivial⟩ ?_
  refine jRun.nm (fun M1 eM1 => ?_)
  have h := h M1 eM1
  refine jRun.cut (k := jk_X5_startAs) rfl 3 (c' := (20, [.ref a0, .ref a1], [], (jP M1 a0 1 0))) (ob := True ∧ True ∧ jKd T a0 = 5 ∧ True) rfl ⟨trivial, trivial, o2, trivial⟩ ?_
  refine jRun.nm (fun M2 eM2 => ?_)
  have h := h M2 eM2
  refine jRun.cut (k := jk_X5_startAs) rfl 3 (c' := (25, [.ref a0, .ref a1], [], (jP M2 a0 2 0))) (ob := True ∧ True ∧ jKd T a0 = 5 ∧ True) rfl ⟨trivial, trivial, o2, trivial⟩ ?_
  refine jRun.nm (fun M3 eM3 => ?_)
  have h := h M3 eM3
  refine jRun.cut (k := jk_X5_startAs) rfl 4 (c' := (33, [.ref a0, .ref a1], [], (jP M3 a0 3 (M3 a1 13)))) (ob := True ∧ True ∧ jKd T a1 = 3 ∧ jKd T a0 = 5 ∧ True) rfl ⟨trivial, trivial, o1, o2, trivial⟩ ?_
  refine jRun.nm (fun M4 eM4 => ?_)
  have h := h M4 eM4
  exact jRun.ret (k := jk_X5_startAs) rfl 1 (v := none) (M1 := M4) (ob := True) rfl trivial h
theorem w_X5_becomeAs {X : jX} {T : jT} {d : Nat} (hI : jInj X T) (a0 : Nat) (a1 : Nat) (M : jMem) (Q : Option Value → jMem → Prop) (h : jKd T a1 = 5 ∧ jKd T a0 = 5 ∧ jKd T (jRf T a1 0) = 9 ∧ jKd T (jRf T a0 0) = 9 ∧ 32 ≤ jLn T (jRf T a1 0) ∧ 32 ≤ jLn T (jRf T a0 0) ∧ (∀ M1, M1 = jSC M (jRf T a0 0) (va_cpy (M (jRf T a1 0)) (M (jRf T a0 0)) 0 0 32) → (∀ M2, M2 = jP M1 a0 1 (M1 a1 1) → (∀ M3, M3 = jP M2 a0 2 (M2 a1 2) → (∀ M4, M4 = jP M3 a0 3 (M3 a1 3) → Q none M4))))) : jOk X T d q_X5_becomeAs [.ref a0, .ref a1] M Q := by
  refine jOk.intro (ml := 2) (ls := [.ref a0, .ref a1]) (jTl (by decide)) rfl (Nat.le_of_ble_eq_true rfl) rfl hI ?_
  obtain ⟨o1, o2, o3, o4, o5, o6, h⟩ := h
  refine jRun.cut (k := jk_X5_becomeAs) rfl 8 (c' := (15, [.ref a0, .ref a1], [], (jSC M (jRf T a0 0) (va_cpy (M (jRf T a1 0)) (M (jRf T a0 0)) 0 0 32)))) (ob := True ∧ jKd T a1 = 5 ∧ True ∧ True ∧ jKd T a0 = 5 ∧ True ∧ True ∧ (jKd T (jRf T a1 0) = 9 ∧ jKd T (jRf T a0 0) = 9 ∧ ¬ (0 : Int32) < 0 ∧ ¬ (0 : Int32) < 0 ∧ ¬ (32 : Int32) < 0 ∧ (0 : Int32).toNatClampNeg + (32 : Int32).toNatClampNeg ≤ jLn T (jRf T a1 0) ∧ (0 : Int32).toNatClampNeg + (32 : Int32).toNatClampNeg ≤ jLn T (jRf T a0 0)) ∧ True) rfl ⟨trivial, o1, trivial, trivial, o2, trivial, trivial, ⟨o3, o4, (by decide), (by decide), (by decide), o5, o6⟩, trivial⟩ ?_
  refine jRun.nm (fun M1 eM1 => ?_)
  have h := h M1 eM1
  refine jRun.cut (k := jk_X5_becomeAs) rfl 4 (c' := (23, [.ref a0, .ref a1], [], (jP M1 a0 1 (M1 a1 1)))) (ob := True ∧ True ∧ jKd T a1 = 5 ∧ jKd T a0 = 5 ∧ True) rfl ⟨trivial, trivial, o1, o2, trivial⟩ ?_
  refine jRun.nm (fun M2 eM2 => ?_)
  have h := h M2 eM2
  refine jRun.cut (k := jk_X5_becomeAs) rfl 4 (c' := (31, [.ref a0, .ref a1], [], (jP M2 a0 2 (M2 a1 2)))) (ob := True ∧ True ∧ jKd T a1 = 5 ∧ jKd T a0 = 5 ∧ True) rfl ⟨trivial, trivial, o1, o2, trivial⟩ ?_
  refine jRun.nm (fun M3 eM3 => ?_)
  have h := h M3 eM3
  refine jRun.cut (k := jk_X5_becomeAs) rfl 4 (c' := (39, [.ref a0, .ref a1], [], (jP M3 a0 3 (M3 a1 3)))) (ob := True ∧ True ∧ jKd T a1 = 5 ∧ jKd T a0 = 5 ∧ True) rfl ⟨trivial, trivial, o1, o2, trivial⟩ ?_
  refine jRun.nm (fun M4 eM4 => ?_)
  have h := h M4 eM4
  exact jRun.ret (k := jk_X5_becomeAs) rfl 1 (v := none) (M1 := M4) (ob := True) rfl trivial h
theorem w_X5_reaches {X : jX} {T : jT} {d : Nat} (hI : jInj X T) (a0 : Nat) (a1 : Int32) (M : jMem) (Q : Option Value → jMem → Prop) (h : jKd T a0 = 5 ∧ ((a1 < ((-(M a0 3)) - 1) → Q (some (.int 0)) M) ∧ (¬ a1 < ((-(M a0 3)) - 1) → (((M a0 3) < a1 → Q (some (.int 0)) M) ∧ (¬ (M a0 3) < a1 → Q (some (.int 1)) M))))) : jOk X T d q_X5_reaches [.ref a0, .int a1] M Q := by
  refine jOk.intro (ml := 2) (ls := [.ref a0, .int a1]) (jTl (by decide)) rfl (Nat.le_of_ble_eq_true rfl) rfl hI ?_
  obtain ⟨o1, h⟩ := h
  refine jRun.cut (k := jk_X5_reaches) rfl 7 (c' := (if a1 < ((-(M a0 3)) - 1) then 23 else 11, [.ref a0, .int a1], [], M)) (ob := True ∧ True ∧ jKd T a0 = 5 ∧ True ∧ True ∧ True ∧ True ∧ True) rfl ⟨trivial, trivial, o1, trivial, trivial, trivial, trivial, trivial⟩ ?_
  refine jRun.br (fun g => ?_) (fun g => ?_)
  · have h := h.1 g
    exact jRun.ret (k := jk_X5_reaches) rfl 2 (v := some (.int 0)) (M1 := M) (ob := True ∧ (0 = 0 ∨ 0 = 1)) rfl ⟨trivial, (Or.inl rfl)⟩ h
  · have h := h.2 g
    refine jRun.cut (k := jk_X5_reaches) rfl 4 (c' := (if (M a0 3) < a1 then 23 else 19, [.ref a0, .int a1], [], M)) (ob := True ∧ True ∧ jKd T a0 = 5 ∧ True ∧ True) rfl ⟨trivial, trivial, o1, trivial, trivial⟩ ?_
    refine jRun.br (fun g => ?_) (fun g => ?_)
    · have h := h.1 g
      exact jRun.ret (k := jk_X5_reaches) rfl 2 (v := some (.int 0)) (M1 := M) (ob := True ∧ (0 = 0 ∨ 0 = 1)) rfl ⟨trivial, (Or.inl rfl)⟩ h
    · have h := h.2 g
      exact jRun.ret (k := jk_X5_reaches) rfl 3 (v := some (.int 1)) (M1 := M) (ob := True ∧ True ∧ (1 = 0 ∨ 1 = 1)) rfl ⟨trivial, trivial, (Or.inr rfl)⟩ h
theorem w_X5_islandCount {X : jX} {T : jT} {d : Nat} (hI : jInj X T) (a0 : Nat) (M : jMem) (Q : Option Value → jMem → Prop) (h : jKd T a0 = 5 ∧ jOk X T d q_J6_bitCount_0f7a4 [.int (M a0 2)] M (fun v M1 => ∃ r1, v = some (.int r1) ∧ Q (some (.int r1)) M1)) : jOk X T (d + 1) q_X5_islandCount [.ref a0] M Q := by
  refine jOk.intro (ml := 1) (ls := [.ref a0]) (jTl (by decide)) rfl (Nat.le_of_ble_eq_true rfl) rfl hI ?_
  obtain ⟨o1, h⟩ := h
  refine jRun.call (k := jk_X5_islandCount) rfl 3 (f := q_J6_bitCount_0f7a4) (As := [.int (M a0 2)]) (c1 := (7, [.ref a0], [], M)) (ob := True ∧ jKd T a0 = 5 ∧ True) rfl ⟨trivial, o1, trivial⟩ h (fun v M1 h => ?_)
  obtain ⟨r1, rfl, h⟩ := h
  show jRun X T (d + 1) q_X5_islandCount (7, [.ref a0], [.int r1], M1) Q
  exact jRun.ret (k := jk_X5_islandCount) rfl 1 (v := some (.int r1)) (M1 := M1) (ob := True) rfl trivial h
theorem w_X5_islandsIn {X : jX} {T : jT} {d : Nat} (hI : jInj X T) (a0 : Nat) (a1 : Int32) (M : jMem) (Q : Option Value → jMem → Prop) (h : jKd T a0 = 5 ∧ jOk X T d q_X5_labelsIn [.ref a0, .int a1] M (fun v M1 => ∃ r1, v = some (.int r1) ∧ jOk X T d q_J6_bitCount_0f7a4 [.int r1] M1 (fun v M2 => ∃ r2, v = some (.int r2) ∧ Q (some (.int r2)) M2))) : jOk X T (d + 1) q_X5_islandsIn [.ref a0, .int a1] M Q := by
  refine jOk.intro (ml := 2) (ls := [.ref a0, .int a1]) (jTl (by decide)) rfl (Nat.le_of_ble_eq_true rfl) rfl hI ?_
  obtain ⟨o1, h⟩ := h
  refine jRun.call (k := jk_X5_islandsIn) rfl 3 (f := q_X5_labelsIn) (As := [.ref a0, .int a1]) (c1 := (5, [.ref a0, .int a1], [], M)) (ob := True ∧ True ∧ jKd T a0 = 5) rfl ⟨trivial, trivial, o1⟩ h (fun v M1 h => ?_)
  obtain ⟨r1, rfl, h⟩ := h
  show jRun X T (d + 1) q_X5_islandsIn (5, [.ref a0, .int a1], [.int r1], M1) Q
  refine jRun.call (k := jk_X5_islandsIn) rfl 1 (f := q_J6_bitCount_0f7a4) (As := [.int r1]) (c1 := (8, [.ref a0, .int a1], [], M1)) (ob := True) rfl trivial h (fun v M2 h => ?_)
  obtain ⟨r2, rfl, h⟩ := h
  show jRun X T (d + 1) q_X5_islandsIn (8, [.ref a0, .int a1], [.int r2], M2) Q
  exact jRun.ret (k := jk_X5_islandsIn) rfl 1 (v := some (.int r2)) (M1 := M2) (ob := True) rfl trivial h
theorem w_X5_labelsIn {X : jX} {T : jT} {d : Nat} (hI : jInj X T) (a0 : Nat) (a1 : Int32) (M : jMem) (Q : Option Value → jMem → Prop) (h : jKd T a0 = 5 ∧ Q (some (.int (((M a0 2) >>> ((8 * a1) &&& 31)) &&& 255))) M) : jOk X T d q_X5_labelsIn [.ref a0, .int a1] M Q := by
  refine jOk.intro (ml := 2) (ls := [.ref a0, .int a1]) (jTl (by decide)) rfl (Nat.le_of_ble_eq_true rfl) rfl hI ?_
  obtain ⟨o1, h⟩ := h
  exact jRun.ret (k := jk_X5_labelsIn) rfl 9 (v := some (.int (((M a0 2) >>> ((8 * a1) &&& 31)) &&& 255))) (M1 := M) (ob := True ∧ jKd T a0 = 5 ∧ True ∧ True ∧ True ∧ True ∧ True ∧ True ∧ True) rfl ⟨trivial, o1, trivial, trivial, trivial, trivial, trivial, trivial, trivial⟩ h
theorem w_X5_hasIsland {X : jX} {T : jT} {d : Nat} (hI : jInj X T) (a0 : Nat) (a1 : Int32) (a2 : Int32) (M : jMem) (Q : Option Value → jMem → Prop) (h : jKd T a0 = 5 ∧ (((((M a0 2) >>> (((8 * a1) + a2) &&& 31)) &&& 1) = 0 → Q (some (.int 0)) M) ∧ (¬ (((M a0 2) >>> (((8 * a1) + a2) &&& 31)) &&& 1) = 0 → Q (some (.int 1)) M))) : jOk X T d q_X5_hasIsland [.ref a0, .int a1, .int a2] M Q := by
  refine jOk.intro (ml := 3) (ls := [.ref a0, .int a1, .int a2]) (jTl (by decide)) rfl (Nat.le_of_ble_eq_true rfl) rfl hI ?_
  obtain ⟨o1, h⟩ := h
  refine jRun.cut (k := jk_X5_hasIsland) rfl 11 (c' := (if (((M a0 2) >>> (((8 * a1) + a2) &&& 31)) &&& 1) = 0 then 20 else 16, [.ref a0, .int a1, .int a2], [], M)) (ob := True ∧ jKd T a0 = 5 ∧ True ∧ True ∧ True ∧ True ∧ True ∧ True ∧ True ∧ True ∧ True ∧ True) rfl ⟨trivial, o1, trivial, trivial, trivial, trivial, trivial, trivial, trivial, trivial, trivial, trivial⟩ ?_
  refine jRun.br (fun g => ?_) (fun g => ?_)
  · have h := h.1 g
    exact jRun.ret (k := jk_X5_hasIsland) rfl 2 (v := some (.int 0)) (M1 := M) (ob := True ∧ (0 = 0 ∨ 0 = 1)) rfl ⟨trivial, (Or.inl rfl)⟩ h
  · have h := h.2 g
    exact jRun.ret (k := jk_X5_hasIsland) rfl 3 (v := some (.int 1)) (M1 := M) (ob := True ∧ True ∧ (1 = 0 ∨ 1 = 1)) rfl ⟨trivial, trivial, (Or.inr rfl)⟩ h
