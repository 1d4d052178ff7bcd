theorem v_X5_reaches {X : jX} {d : Nat} (hI : jInj X T0) {S Z : Nat} (hv : jSZ S Z) (a1 : Int32) (M : jMem) (Q : Option Value → jMem → Prop) (h : ((a1 < ((-(M S 3)) - 1) → Q (some (.int 0)) M) ∧ (¬ a1 < ((-(M S 3)) - 1) → (((M S 3) < a1 → Q (some (.int 0)) M) ∧ (¬ (M S 3) < a1 → Q (some (.int 1)) M))))) : jOk X T0 d q_X5_reaches [.ref S, .int a1] M Q := by
  rcases hv with ⟨rfl, rfl⟩ | ⟨rfl, rfl⟩
  · refine jOk.intro (ml := 2) (ls := [.ref 22, .int a1]) (jTl (by decide)) rfl (Nat.le_of_ble_eq_true rfl) rfl hI ?_
    refine jRun.cut (k := jk_X5_reaches) rfl 7 (c' := (if a1 < ((-(M 22 3)) - 1) then 23 else 11, [.ref 22, .int a1], [], M)) (ob := True ∧ True ∧ jKd T0 22 = 5 ∧ True ∧ True ∧ True ∧ True ∧ True) rfl ⟨trivial, trivial, rfl, trivial, trivial, trivial, trivial, trivial⟩ ?_
    refine jRun.br (fun g => ?_) (fun g => ?_)
    · have h := h.1 g
      exact jRun.ret (k := jk_X5_reaches) rfl 2 (v := some (.int 0)) (M1 := M) (ob := True ∧ (0 = 0 ∨ 0 = 1)) rfl ⟨trivial, (Or.inl rfl)⟩ h
    · have h := h.2 g
      refine jRun.cut (k := jk_X5_reaches) rfl 4 (c' := (if (M 22 3) < a1 then 23 else 19, [.ref 22, .int a1], [], M)) (ob := True ∧ True ∧ jKd T0 22 = 5 ∧ True ∧ True) rfl ⟨trivial, trivial, rfl, trivial, trivial⟩ ?_
      refine jRun.br (fun g => ?_) (fun g => ?_)
      · have h := h.1 g
        exact jRun.ret (k := jk_X5_reaches) rfl 2 (v := some (.int 0)) (M1 := M) (ob := True ∧ (0 = 0 ∨ 0 = 1)) rfl ⟨trivial, (Or.inl rfl)⟩ h
      · have h := h.2 g
        exact jRun.ret (k := jk_X5_reaches) rfl 3 (v := some (.int 1)) (M1 := M) (ob := True ∧ True ∧ (1 = 0 ∨ 1 = 1)) rfl ⟨trivial, trivial, (Or.inr rfl)⟩ h
  · refine jOk.intro (ml := 2) (ls := [.ref 49, .int a1]) (jTl (by decide)) rfl (Nat.le_of_ble_eq_true rfl) rfl hI ?_
    refine jRun.cut (k := jk_X5_reaches) rfl 7 (c' := (if a1 < ((-(M 49 3)) - 1) then 23 else 11, [.ref 49, .int a1], [], M)) (ob := True ∧ True ∧ jKd T0 49 = 5 ∧ True ∧ True ∧ True ∧ True ∧ True) rfl ⟨trivial, trivial, rfl, trivial, trivial, trivial, trivial, trivial⟩ ?_
    refine jRun.br (fun g => ?_) (fun g => ?_)
    · have h := h.1 g
      exact jRun.ret (k := jk_X5_reaches) rfl 2 (v := some (.int 0)) (M1 := M) (ob := True ∧ (0 = 0 ∨ 0 = 1)) rfl ⟨trivial, (Or.inl rfl)⟩ h
    · have h := h.2 g
      refine jRun.cut (k := jk_X5_reaches) rfl 4 (c' := (if (M 49 3) < a1 then 23 else 19, [.ref 49, .int a1], [], M)) (ob := True ∧ True ∧ jKd T0 49 = 5 ∧ True ∧ True) rfl ⟨trivial, trivial, rfl, trivial, trivial⟩ ?_
      refine jRun.br (fun g => ?_) (fun g => ?_)
      · have h := h.1 g
        exact jRun.ret (k := jk_X5_reaches) rfl 2 (v := some (.int 0)) (M1 := M) (ob := True ∧ (0 = 0 ∨ 0 = 1)) rfl ⟨trivial, (Or.inl rfl)⟩ h
      · have h := h.2 g
        exact jRun.ret (k := jk_X5_reaches) rfl 3 (v := some (.int 1)) (M1 := M) (ob := True ∧ True ∧ (1 = 0 ∨ 1 = 1)) rfl ⟨trivial, trivial, (Or.inr rfl)⟩ h
theorem v_X5_islandCount {X : jX} {d : Nat} (hI : jInj X T0) {S Z : Nat} (hv : jSZ S Z)  (M : jMem) (Q : Option Value → jMem → Prop) (h : jOk X T0 d q_J6_bitCount_0f7a4 [.int (M S 2)] M (fun v M1 => ∃ r1, v = some (.int r1) ∧ Q (some (.int r1)) M1)) : jOk X T0 (d + 1) q_X5_islandCount [.ref S] M Q := by
  rcases hv with ⟨rfl, rfl⟩ | ⟨rfl, rfl⟩
  · refine jOk.intro (ml := 1) (ls := [.ref 22]) (jTl (by decide)) rfl (Nat.le_of_ble_eq_true rfl) rfl hI ?_
    refine jRun.call (k := jk_X5_islandCount) rfl 3 (f := q_J6_bitCount_0f7a4) (As := [.int (M 22 2)]) (c1 := (7, [.ref 22], [], M)) (ob := True ∧ jKd T0 22 = 5 ∧ True) rfl ⟨trivial, rfl, trivial⟩ h (fun v M1 h => ?_)
    obtain ⟨r1, rfl, h⟩ := h
    show jRun X T0 (d + 1) q_X5_islandCount (7, [.ref 22], [.int r1], M1) Q
    exact jRun.ret (k := jk_X5_islandCount) rfl 1 (v := some (.int r1)) (M1 := M1) (ob := True) rfl trivial h
  · refine jOk.intro (ml := 1) (ls := [.ref 49]) (jTl (by decide)) rfl (Nat.le_of_ble_eq_true rfl) rfl hI ?_
    refine jRun.call (k := jk_X5_islandCount) rfl 3 (f := q_J6_bitCount_0f7a4) (As := [.int (M 49 2)]) (c1 := (7, [.ref 49], [], M)) (ob := True ∧ jKd T0 49 = 5 ∧ True) rfl ⟨trivial, rfl, trivial⟩ h (fun v M1 h => ?_)
    obtain ⟨r1, rfl, h⟩ := h
    show jRun X T0 (d + 1) q_X5_islandCount (7, [.ref 49], [.int r1], M1) Q
    exact jRun.ret (k := jk_X5_islandCount) rfl 1 (v := some (.int r1)) (M1 := M1) (ob := True) rfl trivial h
theorem v_X5_islandsIn {X : jX} {d : Nat} (hI : jInj X T0) {S Z : Nat} (hv : jSZ S Z) (a1 : Int32) (M : jMem) (Q : Option Value → jMem → Prop) (h : jOk X T0 d q_X5_labelsIn [.ref S, .int a1] M (fun v M1 => ∃ r1, v = some (.int r1) ∧ jOk X T0 d q_J6_bitCount_0f7a4 [.int r1] M1 (fun v M2 => ∃ r2, v = some (.int r2) ∧ Q (some (.int r2)) M2))) : jOk X T0 (d + 1) q_X5_islandsIn [.ref S, .int a1] M Q := by
  rcases hv with ⟨rfl, rfl⟩ | ⟨rfl, rfl⟩
  · refine jOk.intro (ml := 2) (ls := [.ref 22, .int a1]) (jTl (by decide)) rfl (Nat.le_of_ble_eq_true rfl) rfl hI ?_
    refine jRun.call (k := jk_X5_islandsIn) rfl 3 (f := q_X5_labelsIn) (As := [.ref 22, .int a1]) (c1 := (5, [.ref 22, .int a1], [], M)) (ob := True ∧ True ∧ jKd T0 22 = 5) rfl ⟨trivial, trivial, rfl⟩ h (fun v M1 h => ?_)
    obtain ⟨r1, rfl, h⟩ := h
    show jRun X T0 (d + 1) q_X5_islandsIn (5, [.ref 22, .int a1], [.int r1], M1) Q
    refine jRun.call (k := jk_X5_islandsIn) rfl 1 (f := q_J6_bitCount_0f7a4) (As := [.int r1]) (c1 := (8, [.ref 22, .int a1], [], M1)) (ob := True) rfl trivial h (fun v M2 h => ?_)
    obtain ⟨r2, rfl, h⟩ := h
    show jRun X T0 (d + 1) q_X5_islandsIn (8, [.ref 22, .int a1], [.int r2], M2) Q
    exact jRun.ret (k := jk_X5_islandsIn) rfl 1 (v := some (.int r2)) (M1 := M2) (ob := True) rfl trivial h
  · refine jOk.intro (ml := 2) (ls := [.ref 49, .int a1]) (jTl (by decide)) rfl (Nat.le_of_ble_eq_true rfl) rfl hI ?_
    refine jRun.call (k := jk_X5_islandsIn) rfl 3 (f := q_X5_labelsIn) (As := [.ref 49, .int a1]) (c1 := (5, [.ref 49, .int a1], [], M)) (ob := True ∧ True ∧ jKd T0 49 = 5) rfl ⟨trivial, trivial, rfl⟩ h (fun v M1 h => ?_)
    obtain ⟨r1, rfl, h⟩ := h
    show jRun X T0 (d + 1) q_X5_islandsIn (5, [.ref 49, .int a1], [.int r1], M1) Q
    refine jRun.call (k := jk_X5_islandsIn) rfl 1 (f := q_J6_bitCount_0f7a4) (As := [.int r1]) (c1 := (8, [.ref 49, .int a1], [], M1)) (ob := True) rfl trivial h (fun v M2 h => ?_)
    obtain ⟨r2, rfl, h⟩ := h
    show jRun X T0 (d + 1) q_X5_islandsIn (8, [.ref 49, .int a1], [.int r2], M2) Q
    exact jRun.ret (k := jk_X5_islandsIn) rfl 1 (v := some (.int r2)) (M1 := M2) (ob := True) rfl trivial h
theorem v_X5_labelsIn {X : jX} {d : Nat} (hI : jInj X T0) {S Z : Nat} (hv : jSZ S Z) (a1 : Int32) (M : jMem) (Q : Option Value → jMem → Prop) (h : Q (some (.int (((M S 2) >>> ((8 * a1) &&& 31)) &&& 255))) M) : jOk X T0 d q_X5_labelsIn [.ref S, .int a1] M Q := by
  rcases hv with ⟨rfl, rfl⟩ | ⟨rfl, rfl⟩
  · refine jOk.intro (ml := 2) (ls := [.ref 22, .int a1]) (jTl (by decide)) rfl (Nat.le_of_ble_eq_true rfl) rfl hI ?_
    exact jRun.ret (k := jk_X5_labelsIn) rfl 9 (v := some (.int (((M 22 2) >>> ((8 * a1) &&& 31)) &&& 255))) (M1 := M) (ob := True ∧ jKd T0 22 = 5 ∧ True ∧ True ∧ True ∧ True ∧ True ∧ True ∧ True) rfl ⟨trivial, rfl, trivial, trivial, trivial, trivial, trivial, trivial, trivial⟩ h
  · refine jOk.intro (ml := 2) (ls := [.ref 49, .int a1]) (jTl (by decide)) rfl (Nat.le_of_ble_eq_true rfl) rfl hI ?_
    exact jRun.ret (k := jk_X5_labelsIn) rfl 9 (v := some (.int (((M 49 2) >>> ((8 * a1) &&& 31)) &&& 255))) (M1 := M) (ob := True ∧ jKd T0 49 = 5 ∧ True ∧ True ∧ True ∧ True ∧ True ∧ True ∧ True) rfl ⟨trivial, rfl, trivial, trivial, trivial, trivial, trivial, trivial, trivial⟩ h
theorem v_X5_hasIsland {X : jX} {d : Nat} (hI : jInj X T0) {S Z : Nat} (hv : jSZ S Z) (a1 : Int32) (a2 : Int32) (M : jMem) (Q : Option Value → jMem → Prop) (h : (((((M S 2) >>> (((8 * a1) + a2) &&& 31)) &&& 1) = 0 → Q (some (.int 0)) M) ∧ (¬ (((M S 2) >>> (((8 * a1) + a2) &&& 31)) &&& 1) = 0 → Q (some (.int 1)) M))) : jOk X T0 d q_X5_hasIsland [.ref S, .int a1, .int a2] M Q := by
  rcases hv with ⟨rfl, rfl⟩ | ⟨rfl, rfl⟩
  · refine jOk.intro (ml := 3) (ls := [.ref 22, .int a1, .int a2]) (jTl (by decide)) rfl (Nat.le_of_ble_eq_true rfl) rfl hI ?_
    refine jRun.cut (k := jk_X5_hasIsland) rfl 11 (c' := (if (((M 22 2) >>> (((8 * a1) + a2) &&& 31)) &&& 1) = 0 then 20 else 16, [.ref 22, .int a1, .int a2], [], M)) (ob := True ∧ jKd T0 22 = 5 ∧ True ∧ True ∧ True ∧ True ∧ True ∧ True ∧ True ∧ True ∧ True ∧ True) rfl ⟨trivial, rfl, trivial, trivial, trivial, trivial, trivial, trivial, trivial, trivial, trivial, trivial⟩ ?_
    refine jRun.br (fun g => ?_) (fun g => ?_)
    · have h := h.1 g
      exact jRun.ret (k := jk_X5_hasIsland) rfl 2 (v := some (.int 0)) (M1 := M) (ob := True ∧ (0 = 0 ∨ 0 = 1)) rfl ⟨trivial, (Or.inl rfl)⟩ h
    · have h := h.2 g
      exact jRun.ret (k := jk_X5_hasIsland) rfl 3 (v := some (.int 1)) (M1 := M) (ob := True ∧ True ∧ (1 = 0 ∨ 1 = 1)) rfl ⟨trivial, trivial, (Or.inr rfl)⟩ h
  · refine jOk.intro (ml := 3) (ls := [.ref 49, .int a1, .int a2]) (jTl (by decide)) rfl (Nat.le_of_ble_eq_true rfl) rfl hI ?_
    refine jRun.cut (k := jk_X5_hasIsland) rfl 11 (c' := (if (((M 49 2) >>> (((8 * a1) + a2) &&& 31)) &&& 1) = 0 then 20 else 16, [.ref 49, .int a1, .int a2], [], M)) (ob := True ∧ jKd T0 49 = 5 ∧ True ∧ True ∧ True ∧ True ∧ True ∧ True ∧ True ∧ True ∧ True ∧ True) rfl ⟨trivial, rfl, trivial, trivial, trivial, trivial, trivial, trivial, trivial, trivial, trivial, trivial⟩ ?_
    refine jRun.br (fun g => ?_) (fun g => ?_)
    · have h := h.1 g
      exact jRun.ret (k := jk_X5_hasIsland) rfl 2 (v := some (.int 0)) (M1 := M) (ob := True ∧ (0 = 0 ∨ 0 = 1)) rfl ⟨trivial, (Or.inl rfl)⟩ h
    · have h := h.2 g
      exact jRun.ret (k := jk_X5_hasIsland) rfl 3 (v := some (.int 1)) (M1 := M) (ob := True ∧ True ∧ (1 = 0 ∨ 1 = 1)) rfl ⟨trivial, trivial, (Or.inr rfl)⟩ h
theorem v_X5_startAs {X : jX} {d : Nat} (hI : jInj X T0)  (M : jMem) (Q : Option Value → jMem → Prop) (h : (∀ M1, M1 = jSC M 23 (va_cpy (M 14) (M 23) 0 0 32) → (∀ M2, M2 = jP M1 22 1 0 → (∀ M3, M3 = jP M2 22 2 0 → (∀ M4, M4 = jP M3 22 3 (M3 12 13) → Q none M4))))) : jOk X T0 d q_X5_startAs [.ref 22, .ref 12] M Q := by
  refine jOk.intro (ml := 2) (ls := [.ref 22, .ref 12]) (jTl (by decide)) rfl (Nat.le_of_ble_eq_true rfl) rfl hI ?_
  refine jRun.cut (k := jk_X5_startAs) rfl 8 (c' := (15, [.ref 22, .ref 12], [], (jSC M 23 (va_cpy (M 14) (M 23) 0 0 32)))) (ob := True ∧ jKd T0 12 = 3 ∧ True ∧ True ∧ jKd T0 22 = 5 ∧ True ∧ True ∧ (jKd T0 14 = 9 ∧ jKd T0 23 = 9 ∧ ¬ (0 : Int32) < 0 ∧ ¬ (0 : Int32) < 0 ∧ ¬ (32 : Int32) < 0 ∧ (0 : Int32).toNatClampNeg + (32 : Int32).toNatClampNeg ≤ jLn T0 14 ∧ (0 : Int32).toNatClampNeg + (32 : Int32).toNatClampNeg ≤ jLn T0 23) ∧ True) rfl ⟨trivial, rfl, trivial, trivial, rfl, trivial, trivial, ⟨rfl, rfl, (by decide), (by decide), (by decide), (by decide), (by decide)⟩, trivial⟩ ?_
  refine jRun.nm (fun M1 eM1 => ?_)
  have h := h M1 eM1
  refine jRun.cut (k := jk_X5_startAs) rfl 3 (c' := (20, [.ref 22, .ref 12], [], (jP M1 22 1 0))) (ob := True ∧ True ∧ jKd T0 22 = 5 ∧ True) rfl ⟨trivial, trivial, rfl, trivial⟩ ?_
  refine jRun.nm (fun M2 eM2 => ?_)
  have h := h M2 eM2
  refine jRun.cut (k := jk_X5_startAs) rfl 3 (c' := (25, [.ref 22, .ref 12], [], (jP M2 22 2 0))) (ob := True ∧ True ∧ jKd T0 22 = 5 ∧ True) rfl ⟨trivial, trivial, rfl, trivial⟩ ?_
  refine jRun.nm (fun M3 eM3 => ?_)
  have h := h M3 eM3
  refine jRun.cut (k := jk_X5_startAs) rfl 4 (c' := (33, [.ref 22, .ref 12], [], (jP M3 22 3 (M3 12 13)))) (ob := True ∧ True ∧ jKd T0 12 = 3 ∧ jKd T0 22 = 5 ∧ True) rfl ⟨trivial, trivial, rfl, rfl, trivial⟩ ?_
  refine jRun.nm (fun M4 eM4 => ?_)
  have h := h M4 eM4
  exact jRun.ret (k := jk_X5_startAs) rfl 1 (v := none) (M1 := M4) (ob := True) rfl trivial h
theorem v29_22_X5_becomeAs {X : jX} {d : Nat} (hI : jInj X T0)  (M : jMem) (Q : Option Value → jMem → Prop) (h : (∀ M1, M1 = jSC M 30 (va_cpy (M 23) (M 30) 0 0 32) → (∀ M2, M2 = jP M1 29 1 (M1 22 1) → (∀ M3, M3 = jP M2 29 2 (M2 22 2) → (∀ M4, M4 = jP M3 29 3 (M3 22 3) → Q none M4))))) : jOk X T0 d q_X5_becomeAs [.ref 29, .ref 22] M Q := by
  refine jOk.intro (ml := 2) (ls := [.ref 29, .ref 22]) (jTl (by decide)) rfl (Nat.le_of_ble_eq_true rfl) rfl hI ?_
  refine jRun.cut (k := jk_X5_becomeAs) rfl 8 (c' := (15, [.ref 29, .ref 22], [], (jSC M 30 (va_cpy (M 23) (M 30) 0 0 32)))) (ob := True ∧ jKd T0 22 = 5 ∧ True ∧ True ∧ jKd T0 29 = 5 ∧ True ∧ True ∧ (jKd T0 23 = 9 ∧ jKd T0 30 = 9 ∧ ¬ (0 : Int32) < 0 ∧ ¬ (0 : Int32) < 0 ∧ ¬ (32 : Int32) < 0 ∧ (0 : Int32).toNatClampNeg + (32 : Int32).toNatClampNeg ≤ jLn T0 23 ∧ (0 : Int32).toNatClampNeg + (32 : Int32).toNatClampNeg ≤ jLn T0 30) ∧ True) rfl ⟨trivial, rfl, trivial, trivial, rfl, trivial, trivial, ⟨rfl, rfl, (by decide), (by decide), (by decide), (by decide), (by decide)⟩, trivial⟩ ?_
  refine jRun.nm (fun M1 eM1 => ?_)
  have h := h M1 eM1
  refine jRun.cut (k := jk_X5_becomeAs) rfl 4 (c' := (23, [.ref 29, .ref 22], [], (jP M1 29 1 (M1 22 1)))) (ob := True ∧ True ∧ jKd T0 22 = 5 ∧ jKd T0 29 = 5 ∧ True) rfl ⟨trivial, trivial, rfl, rfl, trivial⟩ ?_
  refine jRun.nm (fun M2 eM2 => ?_)
  have h := h M2 eM2
  refine jRun.cut (k := jk_X5_becomeAs) rfl 4 (c' := (31, [.ref 29, .ref 22], [], (jP M2 29 2 (M2 22 2)))) (ob := True ∧ True ∧ jKd T0 22 = 5 ∧ jKd T0 29 = 5 ∧ True) rfl ⟨trivial, trivial, rfl, rfl, trivial⟩ ?_
  refine jRun.nm (fun M3 eM3 => ?_)
  have h := h M3 eM3
  refine jRun.cut (k := jk_X5_becomeAs) rfl 4 (c' := (39, [.ref 29, .ref 22], [], (jP M3 29 3 (M3 22 3)))) (ob := True ∧ True ∧ jKd T0 22 = 5 ∧ jKd T0 29 = 5 ∧ True) rfl ⟨trivial, trivial, rfl, rfl, trivial⟩ ?_
  refine jRun.nm (fun M4 eM4 => ?_)
  have h := h M4 eM4
  exact jRun.ret (k := jk_X5_becomeAs) rfl 1 (v := none) (M1 := M4) (ob := True) rfl trivial h
theorem v36_22_X5_becomeAs {X : jX} {d : Nat} (hI : jInj X T0)  (M : jMem) (Q : Option Value → jMem → Prop) (h : (∀ M1, M1 = jSC M 37 (va_cpy (M 23) (M 37) 0 0 32) → (∀ M2, M2 = jP M1 36 1 (M1 22 1) → (∀ M3, M3 = jP M2 36 2 (M2 22 2) → (∀ M4, M4 = jP M3 36 3 (M3 22 3) → Q none M4))))) : jOk X T0 d q_X5_becomeAs [.ref 36, .ref 22] M Q := by
  refine jOk.intro (ml := 2) (ls := [.ref 36, .ref 22]) (jTl (by decide)) rfl (Nat.le_of_ble_eq_true rfl) rfl hI ?_
  refine jRun.cut (k := jk_X5_becomeAs) rfl 8 (c' := (15, [.ref 36, .ref 22], [], (jSC M 37 (va_cpy (M 23) (M 37) 0 0 32)))) (ob := True ∧ jKd T0 22 = 5 ∧ True ∧ True ∧ jKd T0 36 = 5 ∧ True ∧ True ∧ (jKd T0 23 = 9 ∧ jKd T0 37 = 9 ∧ ¬ (0 : Int32) < 0 ∧ ¬ (0 : Int32) < 0 ∧ ¬ (32 : Int32) < 0 ∧ (0 : Int32).toNatClampNeg + (32 : Int32).toNatClampNeg ≤ jLn T0 23 ∧ (0 : Int32).toNatClampNeg + (32 : Int32).toNatClampNeg ≤ jLn T0 37) ∧ True) rfl ⟨trivial, rfl, trivial, trivial, rfl, trivial, trivial, ⟨rfl, rfl, (by decide), (by decide), (by decide), (by decide), (by decide)⟩, trivial⟩ ?_
  refine jRun.nm (fun M1 eM1 => ?_)
  have h := h M1 eM1
  refine jRun.cut (k := jk_X5_becomeAs) rfl 4 (c' := (23, [.ref 36, .ref 22], [], (jP M1 36 1 (M1 22 1)))) (ob := True ∧ True ∧ jKd T0 22 = 5 ∧ jKd T0 36 = 5 ∧ True) rfl ⟨trivial, trivial, rfl, rfl, trivial⟩ ?_
  refine jRun.nm (fun M2 eM2 => ?_)
  have h := h M2 eM2
  refine jRun.cut (k := jk_X5_becomeAs) rfl 4 (c' := (31, [.ref 36, .ref 22], [], (jP M2 36 2 (M2 22 2)))) (ob := True ∧ True ∧ jKd T0 22 = 5 ∧ jKd T0 36 = 5 ∧ True) rfl ⟨trivial, trivial, rfl, rfl, trivial⟩ ?_
  refine jRun.nm (fun M3 eM3 => ?_)
  have h := h M3 eM3
  refine jRun.cut (k := jk_X5_becomeAs) rfl 4 (c' := (39, [.ref 36, .ref 22], [], (jP M3 36 3 (M3 22 3)))) (ob := True ∧ True ∧ jKd T0 22 = 5 ∧ jKd T0 36 = 5 ∧ True) rfl ⟨trivial, trivial, rfl, rfl, trivial⟩ ?_
  refine jRun.nm (fun M4 eM4 => ?_)
  have h := h M4 eM4
  exact jRun.ret (k := jk_X5_becomeAs) rfl 1 (v := none) (M1 := M4) (ob := True) rfl trivial h
theorem v22_29_X5_becomeAs {X : jX} {d : Nat} (hI : jInj X T0)  (M : jMem) (Q : Option Value → jMem → Prop) (h : (∀ M1, M1 = jSC M 23 (va_cpy (M 30) (M 23) 0 0 32) → (∀ M2, M2 = jP M1 22 1 (M1 29 1) → (∀ M3, M3 = jP M2 22 2 (M2 29 2) → (∀ M4, M4 = jP M3 22 3 (M3 29 3) → Q none M4))))) : jOk X T0 d q_X5_becomeAs [.ref 22, .ref 29] M Q := by
  refine jOk.intro (ml := 2) (ls := [.ref 22, .ref 29]) (jTl (by decide)) rfl (Nat.le_of_ble_eq_true rfl) rfl hI ?_
  refine jRun.cut (k := jk_X5_becomeAs) rfl 8 (c' := (15, [.ref 22, .ref 29], [], (jSC M 23 (va_cpy (M 30) (M 23) 0 0 32)))) (ob := True ∧ jKd T0 29 = 5 ∧ True ∧ True ∧ jKd T0 22 = 5 ∧ True ∧ True ∧ (jKd T0 30 = 9 ∧ jKd T0 23 = 9 ∧ ¬ (0 : Int32) < 0 ∧ ¬ (0 : Int32) < 0 ∧ ¬ (32 : Int32) < 0 ∧ (0 : Int32).toNatClampNeg + (32 : Int32).toNatClampNeg ≤ jLn T0 30 ∧ (0 : Int32).toNatClampNeg + (32 : Int32).toNatClampNeg ≤ jLn T0 23) ∧ True) rfl ⟨trivial, rfl, trivial, trivial, rfl, trivial, trivial, ⟨rfl, rfl, (by decide), (by decide), (by decide), (by decide), (by decide)⟩, trivial⟩ ?_
  refine jRun.nm (fun M1 eM1 => ?_)
  have h := h M1 eM1
  refine jRun.cut (k := jk_X5_becomeAs) rfl 4 (c' := (23, [.ref 22, .ref 29], [], (jP M1 22 1 (M1 29 1)))) (ob := True ∧ True ∧ jKd T0 29 = 5 ∧ jKd T0 22 = 5 ∧ True) rfl ⟨trivial, trivial, rfl, rfl, trivial⟩ ?_
  refine jRun.nm (fun M2 eM2 => ?_)
  have h := h M2 eM2
  refine jRun.cut (k := jk_X5_becomeAs) rfl 4 (c' := (31, [.ref 22, .ref 29], [], (jP M2 22 2 (M2 29 2)))) (ob := True ∧ True ∧ jKd T0 29 = 5 ∧ jKd T0 22 = 5 ∧ True) rfl ⟨trivial, trivial, rfl, rfl, trivial⟩ ?_
  refine jRun.nm (fun M3 eM3 => ?_)
  have h := h M3 eM3
  refine jRun.cut (k := jk_X5_becomeAs) rfl 4 (c' := (39, [.ref 22, .ref 29], [], (jP M3 22 3 (M3 29 3)))) (ob := True ∧ True ∧ jKd T0 29 = 5 ∧ jKd T0 22 = 5 ∧ True) rfl ⟨trivial, trivial, rfl, rfl, trivial⟩ ?_
  refine jRun.nm (fun M4 eM4 => ?_)
  have h := h M4 eM4
  exact jRun.ret (k := jk_X5_becomeAs) rfl 1 (v := none) (M1 := M4) (ob := True) rfl trivial h
theorem v22_36_X5_becomeAs {X : jX} {d : Nat} (hI : jInj X T0)  (M : jMem) (Q : Option Value → jMem → Prop) (h : (∀ M1, M1 = jSC M 23 (va_cpy (M 37) (M 23) 0 0 32) → (∀ M2, M2 = jP M1 22 1 (M1 36 1) → (∀ M3, M3 = jP M2 22 2 (M2 36 2) → (∀ M4, M4 = jP M3 22 3 (M3 36 3) → Q none M4))))) : jOk X T0 d q_X5_becomeAs [.ref 22, .ref 36] M Q := by
  refine jOk.intro (ml := 2) (ls := [.ref 22, .ref 36]) (jTl (by decide)) rfl (Nat.le_of_ble_eq_true rfl) rfl hI ?_
  refine jRun.cut (k := jk_X5_becomeAs) rfl 8 (c' := (15, [.ref 22, .ref 36], [], (jSC M 23 (va_cpy (M 37) (M 23) 0 0 32)))) (ob := True ∧ jKd T0 36 = 5 ∧ True ∧ True ∧ jKd T0 22 = 5 ∧ True ∧ True ∧ (jKd T0 37 = 9 ∧ jKd T0 23 = 9 ∧ ¬ (0 : Int32) < 0 ∧ ¬ (0 : Int32) < 0 ∧ ¬ (32 : Int32) < 0 ∧ (0 : Int32).toNatClampNeg + (32 : Int32).toNatClampNeg ≤ jLn T0 37 ∧ (0 : Int32).toNatClampNeg + (32 : Int32).toNatClampNeg ≤ jLn T0 23) ∧ True) rfl ⟨trivial, rfl, trivial, trivial, rfl, trivial, trivial, ⟨rfl, rfl, (by decide), (by decide), (by decide), (by decide), (by decide)⟩, trivial⟩ ?_
  refine jRun.nm (fun M1 eM1 => ?_)
  have h := h M1 eM1
  refine jRun.cut (k := jk_X5_becomeAs) rfl 4 (c' := (23, [.ref 22, .ref 36], [], (jP M1 22 1 (M1 36 1)))) (ob := True ∧ True ∧ jKd T0 36 = 5 ∧ jKd T0 22 = 5 ∧ True) rfl ⟨trivial, trivial, rfl, rfl, trivial⟩ ?_
  refine jRun.nm (fun M2 eM2 => ?_)
  have h := h M2 eM2
  refine jRun.cut (k := jk_X5_becomeAs) rfl 4 (c' := (31, [.ref 22, .ref 36], [], (jP M2 22 2 (M2 36 2)))) (ob := True ∧ True ∧ jKd T0 36 = 5 ∧ jKd T0 22 = 5 ∧ True) rfl ⟨trivial, trivial, rfl, rfl, trivial⟩ ?_
  refine jRun.nm (fun M3 eM3 => ?_)
  have h := h M3 eM3
  refine jRun.cut (k := jk_X5_becomeAs) rfl 4 (c' := (39, [.ref 22, .ref 36], [], (jP M3 22 3 (M3 36 3)))) (ob := True ∧ True ∧ jKd T0 36 = 5 ∧ jKd T0 22 = 5 ∧ True) rfl ⟨trivial, trivial, rfl, rfl, trivial⟩ ?_
  refine jRun.nm (fun M4 eM4 => ?_)
  have h := h M4 eM4
  exact jRun.ret (k := jk_X5_becomeAs) rfl 1 (v := none) (M1 := M4) (ob := True) rfl trivial h
theorem v49_22_X5_becomeAs {X : jX} {d : Nat} (hI : jInj X T0)  (M : jMem) (Q : Option Value → jMem → Prop) (h : (∀ M1, M1 = jSC M 50 (va_cpy (M 23) (M 50) 0 0 32) → (∀ M2, M2 = jP M1 49 1 (M1 22 1) → (∀ M3, M3 = jP M2 49 2 (M2 22 2) → (∀ M4, M4 = jP M3 49 3 (M3 22 3) → Q none M4))))) : jOk X T0 d q_X5_becomeAs [.ref 49, .ref 22] M Q := by
  refine jOk.intro (ml := 2) (ls := [.ref 49, .ref 22]) (jTl (by decide)) rfl (Nat.le_of_ble_eq_true rfl) rfl hI ?_
  refine jRun.cut (k := jk_X5_becomeAs) rfl 8 (c' := (15, [.ref 49, .ref 22], [], (jSC M 50 (va_cpy (M 23) (M 50) 0 0 32)))) (ob := True ∧ jKd T0 22 = 5 ∧ True ∧ True ∧ jKd T0 49 = 5 ∧ True ∧ True ∧ (jKd T0 23 = 9 ∧ jKd T0 50 = 9 ∧ ¬ (0 : Int32) < 0 ∧ ¬ (0 : Int32) < 0 ∧ ¬ (32 : Int32) < 0 ∧ (0 : Int32).toNatClampNeg + (32 : Int32).toNatClampNeg ≤ jLn T0 23 ∧ (0 : Int32).toNatClampNeg + (32 : Int32).toNatClampNeg ≤ jLn T0 50) ∧ True) rfl ⟨trivial, rfl, trivial, trivial, rfl, trivial, trivial, ⟨rfl, rfl, (by decide), (by decide), (by decide), (by decide), (by decide)⟩, trivial⟩ ?_
  refine jRun.nm (fun M1 eM1 => ?_)
  have h := h M1 eM1
  refine jRun.cut (k := jk_X5_becomeAs) rfl 4 (c' := (23, [.ref 49, .ref 22], [], (jP M1 49 1 (M1 22 1)))) (ob := True ∧ True ∧ jKd T0 22 = 5 ∧ jKd T0 49 = 5 ∧ True) rfl ⟨trivial, trivial, rfl, rfl, trivial⟩ ?_
  refine jRun.nm (fun M2 eM2 => ?_)
  have h := h M2 eM2
  refine jRun.cut (k := jk_X5_becomeAs) rfl 4 (c' := (31, [.ref 49, .ref 22], [], (jP M2 49 2 (M2 22 2)))) (ob := True ∧ True ∧ jKd T0 22 = 5 ∧ jKd T0 49 = 5 ∧ True) rfl ⟨trivial, trivial, rfl, rfl, trivial⟩ ?_
  refine jRun.nm (fun M3 eM3 => ?_)
  have h := h M3 eM3
  refine jRun.cut (k := jk_X5_becomeAs) rfl 4 (c' := (39, [.ref 49, .ref 22], [], (jP M3 49 3 (M3 22 3)))) (ob := True ∧ True ∧ jKd T0 22 = 5 ∧ jKd T0 49 = 5 ∧ True) rfl ⟨trivial, trivial, rfl, rfl, trivial⟩ ?_
  refine jRun.nm (fun M4 eM4 => ?_)
  have h := h M4 eM4
  exact jRun.ret (k := jk_X5_becomeAs) rfl 1 (v := none) (M1 := M4) (ob := True) rfl trivial h
theorem v31_24_X2_becomeAs {X : jX} {d : Nat} (hI : jInj X T0)  (M : jMem) (Q : Option Value → jMem → Prop) (h : (∀ M1, M1 = jSC M 32 (va_cpy (M 25) (M 32) 0 0 10) → (∀ M2, M2 = jSC M1 33 (va_cpy (M1 26) (M1 33) 0 0 10) → (∀ M3, M3 = jSC M2 34 (va_cpy (M2 27) (M2 34) 0 0 10) → (∀ M4, M4 = jP M3 31 3 (M3 24 3) → Q none M4))))) : jOk X T0 d q_X2_becomeAs [.ref 31, .ref 24] M Q := by
  refine jOk.intro (ml := 2) (ls := [.ref 31, .ref 24]) (jTl (by decide)) rfl (Nat.le_of_ble_eq_true rfl) rfl hI ?_
  refine jRun.cut (k := jk_X2_becomeAs) rfl 8 (c' := (15, [.ref 31, .ref 24], [], (jSC M 32 (va_cpy (M 25) (M 32) 0 0 10)))) (ob := True ∧ jKd T0 24 = 2 ∧ True ∧ True ∧ jKd T0 31 = 2 ∧ True ∧ True ∧ (jKd T0 25 = 9 ∧ jKd T0 32 = 9 ∧ ¬ (0 : Int32) < 0 ∧ ¬ (0 : Int32) < 0 ∧ ¬ (10 : Int32) < 0 ∧ (0 : Int32).toNatClampNeg + (10 : Int32).toNatClampNeg ≤ jLn T0 25 ∧ (0 : Int32).toNatClampNeg + (10 : Int32).toNatClampNeg ≤ jLn T0 32) ∧ True) rfl ⟨trivial, rfl, trivial, trivial, rfl, trivial, trivial, ⟨rfl, rfl, (by decide), (by decide), (by decide), (by decide), (by decide)⟩, trivial⟩ ?_
  refine jRun.nm (fun M1 eM1 => ?_)
  have h := h M1 eM1
  refine jRun.cut (k := jk_X2_becomeAs) rfl 8 (c' := (30, [.ref 31, .ref 24], [], (jSC M1 33 (va_cpy (M1 26) (M1 33) 0 0 10)))) (ob := True ∧ jKd T0 24 = 2 ∧ True ∧ True ∧ jKd T0 31 = 2 ∧ True ∧ True ∧ (jKd T0 26 = 9 ∧ jKd T0 33 = 9 ∧ ¬ (0 : Int32) < 0 ∧ ¬ (0 : Int32) < 0 ∧ ¬ (10 : Int32) < 0 ∧ (0 : Int32).toNatClampNeg + (10 : Int32).toNatClampNeg ≤ jLn T0 26 ∧ (0 : Int32).toNatClampNeg + (10 : Int32).toNatClampNeg ≤ jLn T0 33) ∧ True) rfl ⟨trivial, rfl, trivial, trivial, rfl, trivial, trivial, ⟨rfl, rfl, (by decide), (by decide), (by decide), (by decide), (by decide)⟩, trivial⟩ ?_
  refine jRun.nm (fun M2 eM2 => ?_)
  have h := h M2 eM2
  refine jRun.cut (k := jk_X2_becomeAs) rfl 8 (c' := (45, [.ref 31, .ref 24], [], (jSC M2 34 (va_cpy (M2 27) (M2 34) 0 0 10)))) (ob := True ∧ jKd T0 24 = 2 ∧ True ∧ True ∧ jKd T0 31 = 2 ∧ True ∧ True ∧ (jKd T0 27 = 9 ∧ jKd T0 34 = 9 ∧ ¬ (0 : Int32) < 0 ∧ ¬ (0 : Int32) < 0 ∧ ¬ (10 : Int32) < 0 ∧ (0 : Int32).toNatClampNeg + (10 : Int32).toNatClampNeg ≤ jLn T0 27 ∧ (0 : Int32).toNatClampNeg + (10 : Int32).toNatClampNeg ≤ jLn T0 34) ∧ True) rfl ⟨trivial, rfl, trivial, trivial, rfl, trivial, trivial, ⟨rfl, rfl, (by decide), (by decide), (by decide), (by decide), (by decide)⟩, trivial⟩ ?_
  refine jRun.nm (fun M3 eM3 => ?_)
  have h := h M3 eM3
  refine jRun.cut (k := jk_X2_becomeAs) rfl 4 (c' := (53, [.ref 31, .ref 24], [], (jP M3 31 3 (M3 24 3)))) (ob := True ∧ True ∧ jKd T0 24 = 2 ∧ jKd T0 31 = 2 ∧ True) rfl ⟨trivial, trivial, rfl, rfl, trivial⟩ ?_
  refine jRun.nm (fun M4 eM4 => ?_)
  have h := h M4 eM4
  exact jRun.ret (k := jk_X2_becomeAs) rfl 1 (v := none) (M1 := M4) (ob := True) rfl trivial h
theorem v38_24_X2_becomeAs {X : jX} {d : Nat} (hI : jInj X T0)  (M : jMem) (Q : Option Value → jMem → Prop) (h : (∀ M1, M1 = jSC M 39 (va_cpy (M 25) (M 39) 0 0 10) → (∀ M2, M2 = jSC M1 40 (va_cpy (M1 26) (M1 40) 0 0 10) → (∀ M3, M3 = jSC M2 41 (va_cpy (M2 27) (M2 41) 0 0 10) → (∀ M4, M4 = jP M3 38 3 (M3 24 3) → Q none M4))))) : jOk X T0 d q_X2_becomeAs [.ref 38, .ref 24] M Q := by
  refine jOk.intro (ml := 2) (ls := [.ref 38, .ref 24]) (jTl (by decide)) rfl (Nat.le_of_ble_eq_true rfl) rfl hI ?_
  refine jRun.cut (k := jk_X2_becomeAs) rfl 8 (c' := (15, [.ref 38, .ref 24], [], (jSC M 39 (va_cpy (M 25) (M 39) 0 0 10)))) (ob := True ∧ jKd T0 24 = 2 ∧ True ∧ True ∧ jKd T0 38 = 2 ∧ True ∧ True ∧ (jKd T0 25 = 9 ∧ jKd T0 39 = 9 ∧ ¬ (0 : Int32) < 0 ∧ ¬ (0 : Int32) < 0 ∧ ¬ (10 : Int32) < 0 ∧ (0 : Int32).toNatClampNeg + (10 : Int32).toNatClampNeg ≤ jLn T0 25 ∧ (0 : Int32).toNatClampNeg + (10 : Int32).toNatClampNeg ≤ jLn T0 39) ∧ True) rfl ⟨trivial, rfl, trivial, trivial, rfl, trivial, trivial, ⟨rfl, rfl, (by decide), (by decide), (by decide), (by decide), (by decide)⟩, trivial⟩ ?_
  refine jRun.nm (fun M1 eM1 => ?_)
  have h := h M1 eM1
  refine jRun.cut (k := jk_X2_becomeAs) rfl 8 (c' := (30, [.ref 38, .ref 24], [], (jSC M1 40 (va_cpy (M1 26) (M1 40) 0 0 10)))) (ob := True ∧ jKd T0 24 = 2 ∧ True ∧ True ∧ jKd T0 38 = 2 ∧ True ∧ True ∧ (jKd T0 26 = 9 ∧ jKd T0 40 = 9 ∧ ¬ (0 : Int32) < 0 ∧ ¬ (0 : Int32) < 0 ∧ ¬ (10 : Int32) < 0 ∧ (0 : Int32).toNatClampNeg + (10 : Int32).toNatClampNeg ≤ jLn T0 26 ∧ (0 : Int32).toNatClampNeg + (10 : Int32).toNatClampNeg ≤ jLn T0 40) ∧ True) rfl ⟨trivial, rfl, trivial, trivial, rfl, trivial, trivial, ⟨rfl, rfl, (by decide), (by decide), (by decide), (by decide), (by decide)⟩, trivial⟩ ?_
  refine jRun.nm (fun M2 eM2 => ?_)
  have h := h M2 eM2
  refine jRun.cut (k := jk_X2_becomeAs) rfl 8 (c' := (45, [.ref 38, .ref 24], [], (jSC M2 41 (va_cpy (M2 27) (M2 41) 0 0 10)))) (ob := True ∧ jKd T0 24 = 2 ∧ True ∧ True ∧ jKd T0 38 = 2 ∧ True ∧ True ∧ (jKd T0 27 = 9 ∧ jKd T0 41 = 9 ∧ ¬ (0 : Int32) < 0 ∧ ¬ (0 : Int32) < 0 ∧ ¬ (10 : Int32) < 0 ∧ (0 : Int32).toNatClampNeg + (10 : Int32).toNatClampNeg ≤ jLn T0 27 ∧ (0 : Int32).toNatClampNeg + (10 : Int32).toNatClampNeg ≤ jLn T0 41) ∧ True) rfl ⟨trivial, rfl, trivial, trivial, rfl, trivial, trivial, ⟨rfl, rfl, (by decide), (by decide), (by decide), (by decide), (by decide)⟩, trivial⟩ ?_
  refine jRun.nm (fun M3 eM3 => ?_)
  have h := h M3 eM3
  refine jRun.cut (k := jk_X2_becomeAs) rfl 4 (c' := (53, [.ref 38, .ref 24], [], (jP M3 38 3 (M3 24 3)))) (ob := True ∧ True ∧ jKd T0 24 = 2 ∧ jKd T0 38 = 2 ∧ True) rfl ⟨trivial, trivial, rfl, rfl, trivial⟩ ?_
  refine jRun.nm (fun M4 eM4 => ?_)
  have h := h M4 eM4
  exact jRun.ret (k := jk_X2_becomeAs) rfl 1 (v := none) (M1 := M4) (ob := True) rfl trivial h
theorem v24_31_X2_becomeAs {X : jX} {d : Nat} (hI : jInj X T0)  (M : jMem) (Q : Option Value → jMem → Prop) (h : (∀ M1, M1 = jSC M 25 (va_cpy (M 32) (M 25) 0 0 10) → (∀ M2, M2 = jSC M1 26 (va_cpy (M1 33) (M1 26) 0 0 10) → (∀ M3, M3 = jSC M2 27 (va_cpy (M2 34) (M2 27) 0 0 10) → (∀ M4, M4 = jP M3 24 3 (M3 31 3) → Q none M4))))) : jOk X T0 d q_X2_becomeAs [.ref 24, .ref 31] M Q := by
  refine jOk.intro (ml := 2) (ls := [.ref 24, .ref 31]) (jTl (by decide)) rfl (Nat.le_of_ble_eq_true rfl) rfl hI ?_
  refine jRun.cut (k := jk_X2_becomeAs) rfl 8 (c' := (15, [.ref 24, .ref 31], [], (jSC M 25 (va_cpy (M 32) (M 25) 0 0 10)))) (ob := True ∧ jKd T0 31 = 2 ∧ True ∧ True ∧ jKd T0 24 = 2 ∧ True ∧ True ∧ (jKd T0 32 = 9 ∧ jKd T0 25 = 9 ∧ ¬ (0 : Int32) < 0 ∧ ¬ (0 : Int32) < 0 ∧ ¬ (10 : Int32) < 0 ∧ (0 : Int32).toNatClampNeg + (10 : Int32).toNatClampNeg ≤ jLn T0 32 ∧ (0 : Int32).toNatClampNeg + (10 : Int32).toNatClampNeg ≤ jLn T0 25) ∧ True) rfl ⟨trivial, rfl, trivial, trivial, rfl, trivial, trivial, ⟨rfl, rfl, (by decide), (by decide), (by decide), (by decide), (by decide)⟩, trivial⟩ ?_
  refine jRun.nm (fun M1 eM1 => ?_)
  have h := h M1 eM1
  refine jRun.cut (k := jk_X2_becomeAs) rfl 8 (c' := (30, [.ref 24, .ref 31], [], (jSC M1 26 (va_cpy (M1 33) (M1 26) 0 0 10)))) (ob := True ∧ jKd T0 31 = 2 ∧ True ∧ True ∧ jKd T0 24 = 2 ∧ True ∧ True ∧ (jKd T0 33 = 9 ∧ jKd T0 26 = 9 ∧ ¬ (0 : Int32) < 0 ∧ ¬ (0 : Int32) < 0 ∧ ¬ (10 : Int32) < 0 ∧ (0 : Int32).toNatClampNeg + (10 : Int32).toNatClampNeg ≤ jLn T0 33 ∧ (0 : Int32).toNatClampNeg + (10 : Int32).toNatClampNeg ≤ jLn T0 26) ∧ True) rfl ⟨trivial, rfl, trivial, trivial, rfl, trivial, trivial, ⟨rfl, rfl, (by decide), (by decide), (by decide), (by decide), (by decide)⟩, trivial⟩ ?_
  refine jRun.nm (fun M2 eM2 => ?_)
  have h := h M2 eM2
  refine jRun.cut (k := jk_X2_becomeAs) rfl 8 (c' := (45, [.ref 24, .ref 31], [], (jSC M2 27 (va_cpy (M2 34) (M2 27) 0 0 10)))) (ob := True ∧ jKd T0 31 = 2 ∧ True ∧ True ∧ jKd T0 24 = 2 ∧ True ∧ True ∧ (jKd T0 34 = 9 ∧ jKd T0 27 = 9 ∧ ¬ (0 : Int32) < 0 ∧ ¬ (0 : Int32) < 0 ∧ ¬ (10 : Int32) < 0 ∧ (0 : Int32).toNatClampNeg + (10 : Int32).toNatClampNeg ≤ jLn T0 34 ∧ (0 : Int32).toNatClampNeg + (10 : Int32).toNatClampNeg ≤ jLn T0 27) ∧ True) rfl ⟨trivial, rfl, trivial, trivial, rfl, trivial, trivial, ⟨rfl, rfl, (by decide), (by decide), (by decide), (by decide), (by decide)⟩, trivial⟩ ?_
  refine jRun.nm (fun M3 eM3 => ?_)
  have h := h M3 eM3
  refine jRun.cut (k := jk_X2_becomeAs) rfl 4 (c' := (53, [.ref 24, .ref 31], [], (jP M3 24 3 (M3 31 3)))) (ob := True ∧ True ∧ jKd T0 31 = 2 ∧ jKd T0 24 = 2 ∧ True) rfl ⟨trivial, trivial, rfl, rfl, trivial⟩ ?_
  refine jRun.nm (fun M4 eM4 => ?_)
  have h := h M4 eM4
  exact jRun.ret (k := jk_X2_becomeAs) rfl 1 (v := none) (M1 := M4) (ob := True) rfl trivial h
theorem v24_38_X2_becomeAs {X : jX} {d : Nat} (hI : jInj X T0)  (M : jMem) (Q : Option Value → jMem → Prop) (h : (∀ M1, M1 = jSC M 25 (va_cpy (M 39) (M 25) 0 0 10) → (∀ M2, M2 = jSC M1 26 (va_cpy (M1 40) (M1 26) 0 0 10) → (∀ M3, M3 = jSC M2 27 (va_cpy (M2 41) (M2 27) 0 0 10) → (∀ M4, M4 = jP M3 24 3 (M3 38 3) → Q none M4))))) : jOk X T0 d q_X2_becomeAs [.ref 24, .ref 38] M Q := by
  refine jOk.intro (ml := 2) (ls := [.ref 24, .ref 38]) (jTl (by decide)) rfl (Nat.le_of_ble_eq_true rfl) rfl hI ?_
  refine jRun.cut (k := jk_X2_becomeAs) rfl 8 (c' := (15, [.ref 24, .ref 38], [], (jSC M 25 (va_cpy (M 39) (M 25) 0 0 10)))) (ob := True ∧ jKd T0 38 = 2 ∧ True ∧ True ∧ jKd T0 24 = 2 ∧ True ∧ True ∧ (jKd T0 39 = 9 ∧ jKd T0 25 = 9 ∧ ¬ (0 : Int32) < 0 ∧ ¬ (0 : Int32) < 0 ∧ ¬ (10 : Int32) < 0 ∧ (0 : Int32).toNatClampNeg + (10 : Int32).toNatClampNeg ≤ jLn T0 39 ∧ (0 : Int32).toNatClampNeg + (10 : Int32).toNatClampNeg ≤ jLn T0 25) ∧ True) rfl ⟨trivial, rfl, trivial, trivial, rfl, trivial, trivial, ⟨rfl, rfl, (by decide), (by decide), (by decide), (by decide), (by decide)⟩, trivial⟩ ?_
  refine jRun.nm (fun M1 eM1 => ?_)
  have h := h M1 eM1
  refine jRun.cut (k := jk_X2_becomeAs) rfl 8 (c' := (30, [.ref 24, .ref 38], [], (jSC M1 26 (va_cpy (M1 40) (M1 26) 0 0 10)))) (ob := True ∧ jKd T0 38 = 2 ∧ True ∧ True ∧ jKd T0 24 = 2 ∧ True ∧ True ∧ (jKd T0 40 = 9 ∧ jKd T0 26 = 9 ∧ ¬ (0 : Int32) < 0 ∧ ¬ (0 : Int32) < 0 ∧ ¬ (10 : Int32) < 0 ∧ (0 : Int32).toNatClampNeg + (10 : Int32).toNatClampNeg ≤ jLn T0 40 ∧ (0 : Int32).toNatClampNeg + (10 : Int32).toNatClampNeg ≤ jLn T0 26) ∧ True) rfl ⟨trivial, rfl, trivial, trivial, rfl, trivial, trivial, ⟨rfl, rfl, (by decide), (by decide), (by decide), (by decide), (by decide)⟩, trivial⟩ ?_
  refine jRun.nm (fun M2 eM2 => ?_)
  have h := h M2 eM2
  refine jRun.cut (k := jk_X2_becomeAs) rfl 8 (c' := (45, [.ref 24, .ref 38], [], (jSC M2 27 (va_cpy (M2 41) (M2 27) 0 0 10)))) (ob := True ∧ jKd T0 38 = 2 ∧ True ∧ True ∧ jKd T0 24 = 2 ∧ True ∧ True ∧ (jKd T0 41 = 9 ∧ jKd T0 27 = 9 ∧ ¬ (0 : Int32) < 0 ∧ ¬ (0 : Int32) < 0 ∧ ¬ (10 : Int32) < 0 ∧ (0 : Int32).toNatClampNeg + (10 : Int32).toNatClampNeg ≤ jLn T0 41 ∧ (0 : Int32).toNatClampNeg + (10 : Int32).toNatClampNeg ≤ jLn T0 27) ∧ True) rfl ⟨trivial, rfl, trivial, trivial, rfl, trivial, trivial, ⟨rfl, rfl, (by decide), (by decide), (by decide), (by decide), (by decide)⟩, trivial⟩ ?_
  refine jRun.nm (fun M3 eM3 => ?_)
  have h := h M3 eM3
  refine jRun.cut (k := jk_X2_becomeAs) rfl 4 (c' := (53, [.ref 24, .ref 38], [], (jP M3 24 3 (M3 38 3)))) (ob := True ∧ True ∧ jKd T0 38 = 2 ∧ jKd T0 24 = 2 ∧ True) rfl ⟨trivial, trivial, rfl, rfl, trivial⟩ ?_
  refine jRun.nm (fun M4 eM4 => ?_)
  have h := h M4 eM4
  exact jRun.ret (k := jk_X2_becomeAs) rfl 1 (v := none) (M1 := M4) (ob := True) rfl trivial h
theorem v28_21_X0_becomeAs {X : jX} {d : Nat} (hI : jInj X T0)  (M : jMem) (Q : Option Value → jMem → Prop) (h : jOk X T0 d q_X5_becomeAs [.ref 29, .ref 22] M (fun v M1 => v = none ∧ jOk X T0 d q_X2_becomeAs [.ref 31, .ref 24] M1 (fun v M2 => v = none ∧ (∀ M3, M3 = jP M2 28 2 1 → Q none M3)))) : jOk X T0 (d + 1) q_X0_becomeAs [.ref 28, .ref 21] M Q := by
  refine jOk.intro (ml := 2) (ls := [.ref 28, .ref 21]) (jTl (by decide)) rfl (Nat.le_of_ble_eq_true rfl) rfl hI ?_
  refine jRun.call (k := jk_X0_becomeAs) rfl 5 (f := q_X5_becomeAs) (As := [.ref 29, .ref 22]) (c1 := (11, [.ref 28, .ref 21], [], M)) (ob := True ∧ jKd T0 28 = 0 ∧ True ∧ jKd T0 21 = 0 ∧ jKd T0 29 = 5) rfl ⟨trivial, rfl, trivial, rfl, rfl⟩ h (fun v M1 h => ?_)
  obtain ⟨rfl, h⟩ := h
  show jRun X T0 (d + 1) q_X0_becomeAs (11, [.ref 28, .ref 21], [], M1) Q
  refine jRun.call (k := jk_X0_becomeAs) rfl 5 (f := q_X2_becomeAs) (As := [.ref 31, .ref 24]) (c1 := (22, [.ref 28, .ref 21], [], M1)) (ob := True ∧ jKd T0 28 = 0 ∧ True ∧ jKd T0 21 = 0 ∧ jKd T0 31 = 2) rfl ⟨trivial, rfl, trivial, rfl, rfl⟩ h (fun v M2 h => ?_)
  obtain ⟨rfl, h⟩ := h
  show jRun X T0 (d + 1) q_X0_becomeAs (22, [.ref 28, .ref 21], [], M2) Q
  refine jRun.cut (k := jk_X0_becomeAs) rfl 3 (c' := (27, [.ref 28, .ref 21], [], (jP M2 28 2 1))) (ob := True ∧ True ∧ (jKd T0 28 = 0 ∧ (1 = 0 ∨ 1 = 1)) ∧ True) rfl ⟨trivial, trivial, ⟨rfl, (Or.inr rfl)⟩, trivial⟩ ?_
  refine jRun.nm (fun M3 eM3 => ?_)
  have h := h M3 eM3
  exact jRun.ret (k := jk_X0_becomeAs) rfl 1 (v := none) (M1 := M3) (ob := True) rfl trivial h
theorem v35_21_X0_becomeAs {X : jX} {d : Nat} (hI : jInj X T0)  (M : jMem) (Q : Option Value → jMem → Prop) (h : jOk X T0 d q_X5_becomeAs [.ref 36, .ref 22] M (fun v M1 => v = none ∧ jOk X T0 d q_X2_becomeAs [.ref 38, .ref 24] M1 (fun v M2 => v = none ∧ (∀ M3, M3 = jP M2 35 2 1 → Q none M3)))) : jOk X T0 (d + 1) q_X0_becomeAs [.ref 35, .ref 21] M Q := by
  refine jOk.intro (ml := 2) (ls := [.ref 35, .ref 21]) (jTl (by decide)) rfl (Nat.le_of_ble_eq_true rfl) rfl hI ?_
  refine jRun.call (k := jk_X0_becomeAs) rfl 5 (f := q_X5_becomeAs) (As := [.ref 36, .ref 22]) (c1 := (11, [.ref 35, .ref 21], [], M)) (ob := True ∧ jKd T0 35 = 0 ∧ True ∧ jKd T0 21 = 0 ∧ jKd T0 36 = 5) rfl ⟨trivial, rfl, trivial, rfl, rfl⟩ h (fun v M1 h => ?_)
  obtain ⟨rfl, h⟩ := h
  show jRun X T0 (d + 1) q_X0_becomeAs (11, [.ref 35, .ref 21], [], M1) Q
  refine jRun.call (k := jk_X0_becomeAs) rfl 5 (f := q_X2_becomeAs) (As := [.ref 38, .ref 24]) (c1 := (22, [.ref 35, .ref 21], [], M1)) (ob := True ∧ jKd T0 35 = 0 ∧ True ∧ jKd T0 21 = 0 ∧ jKd T0 38 = 2) rfl ⟨trivial, rfl, trivial, rfl, rfl⟩ h (fun v M2 h => ?_)
  obtain ⟨rfl, h⟩ := h
  show jRun X T0 (d + 1) q_X0_becomeAs (22, [.ref 35, .ref 21], [], M2) Q
  refine jRun.cut (k := jk_X0_becomeAs) rfl 3 (c' := (27, [.ref 35, .ref 21], [], (jP M2 35 2 1))) (ob := True ∧ True ∧ (jKd T0 35 = 0 ∧ (1 = 0 ∨ 1 = 1)) ∧ True) rfl ⟨trivial, trivial, ⟨rfl, (Or.inr rfl)⟩, trivial⟩ ?_
  refine jRun.nm (fun M3 eM3 => ?_)
  have h := h M3 eM3
  exact jRun.ret (k := jk_X0_becomeAs) rfl 1 (v := none) (M1 := M3) (ob := True) rfl trivial h
theorem v21_28_X0_becomeAs {X : jX} {d : Nat} (hI : jInj X T0)  (M : jMem) (Q : Option Value → jMem → Prop) (h : jOk X T0 d q_X5_becomeAs [.ref 22, .ref 29] M (fun v M1 => v = none ∧ jOk X T0 d q_X2_becomeAs [.ref 24, .ref 31] M1 (fun v M2 => v = none ∧ (∀ M3, M3 = jP M2 21 2 1 → Q none M3)))) : jOk X T0 (d + 1) q_X0_becomeAs [.ref 21, .ref 28] M Q := by
  refine jOk.intro (ml := 2) (ls := [.ref 21, .ref 28]) (jTl (by decide)) rfl (Nat.le_of_ble_eq_true rfl) rfl hI ?_
  refine jRun.call (k := jk_X0_becomeAs) rfl 5 (f := q_X5_becomeAs) (As := [.ref 22, .ref 29]) (c1 := (11, [.ref 21, .ref 28], [], M)) (ob := True ∧ jKd T0 21 = 0 ∧ True ∧ jKd T0 28 = 0 ∧ jKd T0 22 = 5) rfl ⟨trivial, rfl, trivial, rfl, rfl⟩ h (fun v M1 h => ?_)
  obtain ⟨rfl, h⟩ := h
  show jRun X T0 (d + 1) q_X0_becomeAs (11, [.ref 21, .ref 28], [], M1) Q
  refine jRun.call (k := jk_X0_becomeAs) rfl 5 (f := q_X2_becomeAs) (As := [.ref 24, .ref 31]) (c1 := (22, [.ref 21, .ref 28], [], M1)) (ob := True ∧ jKd T0 21 = 0 ∧ True ∧ jKd T0 28 = 0 ∧ jKd T0 24 = 2) rfl ⟨trivial, rfl, trivial, rfl, rfl⟩ h (fun v M2 h => ?_)
  obtain ⟨rfl, h⟩ := h
  show jRun X T0 (d + 1) q_X0_becomeAs (22, [.ref 21, .ref 28], [], M2) Q
  refine jRun.cut (k := jk_X0_becomeAs) rfl 3 (c' := (27, [.ref 21, .ref 28], [], (jP M2 21 2 1))) (ob := True ∧ True ∧ (jKd T0 21 = 0 ∧ (1 = 0 ∨ 1 = 1)) ∧ True) rfl ⟨trivial, trivial, ⟨rfl, (Or.inr rfl)⟩, trivial⟩ ?_
  refine jRun.nm (fun M3 eM3 => ?_)
  have h := h M3 eM3
  exact jRun.ret (k := jk_X0_becomeAs) rfl 1 (v := none) (M1 := M3) (ob := True) rfl trivial h
theorem v21_35_X0_becomeAs {X : jX} {d : Nat} (hI : jInj X T0)  (M : jMem) (Q : Option Value → jMem → Prop) (h : jOk X T0 d q_X5_becomeAs [.ref 22, .ref 36] M (fun v M1 => v = none ∧ jOk X T0 d q_X2_becomeAs [.ref 24, .ref 38] M1 (fun v M2 => v = none ∧ (∀ M3, M3 = jP M2 21 2 1 → Q none M3)))) : jOk X T0 (d + 1) q_X0_becomeAs [.ref 21, .ref 35] M Q := by
  refine jOk.intro (ml := 2) (ls := [.ref 21, .ref 35]) (jTl (by decide)) rfl (Nat.le_of_ble_eq_true rfl) rfl hI ?_
  refine jRun.call (k := jk_X0_becomeAs) rfl 5 (f := q_X5_becomeAs) (As := [.ref 22, .ref 36]) (c1 := (11, [.ref 21, .ref 35], [], M)) (ob := True ∧ jKd T0 21 = 0 ∧ True ∧ jKd T0 35 = 0 ∧ jKd T0 22 = 5) rfl ⟨trivial, rfl, trivial, rfl, rfl⟩ h (fun v M1 h => ?_)
  obtain ⟨rfl, h⟩ := h
  show jRun X T0 (d + 1) q_X0_becomeAs (11, [.ref 21, .ref 35], [], M1) Q
  refine jRun.call (k := jk_X0_becomeAs) rfl 5 (f := q_X2_becomeAs) (As := [.ref 24, .ref 38]) (c1 := (22, [.ref 21, .ref 35], [], M1)) (ob := True ∧ jKd T0 21 = 0 ∧ True ∧ jKd T0 35 = 0 ∧ jKd T0 24 = 2) rfl ⟨trivial, rfl, trivial, rfl, rfl⟩ h (fun v M2 h => ?_)
  obtain ⟨rfl, h⟩ := h
  show jRun X T0 (d + 1) q_X0_becomeAs (22, [.ref 21, .ref 35], [], M2) Q
  refine jRun.cut (k := jk_X0_becomeAs) rfl 3 (c' := (27, [.ref 21, .ref 35], [], (jP M2 21 2 1))) (ob := True ∧ True ∧ (jKd T0 21 = 0 ∧ (1 = 0 ∨ 1 = 1)) ∧ True) rfl ⟨trivial, trivial, ⟨rfl, (Or.inr rfl)⟩, trivial⟩ ?_
  refine jRun.nm (fun M3 eM3 => ?_)
  have h := h M3 eM3
  exact jRun.ret (k := jk_X0_becomeAs) rfl 1 (v := none) (M1 := M3) (ob := True) rfl trivial h
theorem v_X2_remember {X : jX} {d : Nat} (hI : jInj X T0) (a1 : Int32) (a2 : Int32) (a3 : Int32) (M : jMem) (Q : Option Value → jMem → Prop) (h : (((M 24 3) < 10 → vp_in (M 24 3) 10 ∧ (∀ M1, M1 = jP M 25 ((M 24 3).toNatClampNeg) a1 → vp_in (M1 24 3) 10 ∧ (∀ M2, M2 = jP M1 26 ((M1 24 3).toNatClampNeg) a2 → vp_in (M2 24 3) 10 ∧ (∀ M3, M3 = jP M2 27 ((M2 24 3).toNatClampNeg) a3 → (∀ M4, M4 = jP M3 24 3 ((M3 24 3) + 1) → Q none M4))))) ∧ (¬ (M 24 3) < 10 → jOk X T0 d q_X2_loseOldest [.ref 24] M (fun v M5 => v = none ∧ vp_in (M5 24 3) 10 ∧ (∀ M6, M6 = jP M5 25 ((M5 24 3).toNatClampNeg) a1 → vp_in (M6 24 3) 10 ∧ (∀ M7, M7 = jP M6 26 ((M6 24 3).toNatClampNeg) a2 → vp_in (M7 24 3) 10 ∧ (∀ M8, M8 = jP M7 27 ((M7 24 3).toNatClampNeg) a3 → (∀ M9, M9 = jP M8 24 3 ((M8 24 3) + 1) → Q none M9)))))))) : jOk X T0 (d + 1) q_X2_remember [.ref 24, .int a1, .int a2, .int a3] M Q := by
  refine jOk.intro (ml := 4) (ls := [.ref 24, .int a1, .int a2, .int a3]) (jTl (by decide)) rfl (Nat.le_of_ble_eq_true rfl) rfl hI ?_
  refine jRun.cut (k := jk_X2_remember) rfl 4 (c' := (if (M 24 3) < 10 then 13 else 9, [.ref 24, .int a1, .int a2, .int a3], [], M)) (ob := True ∧ jKd T0 24 = 2 ∧ True ∧ True ∧ True) rfl ⟨trivial, rfl, trivial, trivial, trivial⟩ ?_
  refine jRun.br (fun g => ?_) (fun g => ?_)
  · have h := h.1 g
    obtain ⟨o1, h⟩ := h
    refine jRun.cut (k := jk_X2_remember) rfl 6 (c' := (23, [.ref 24, .int a1, .int a2, .int a3], [], (jP M 25 ((M 24 3).toNatClampNeg) a1))) (ob := True ∧ jKd T0 24 = 2 ∧ True ∧ jKd T0 24 = 2 ∧ True ∧ (jKd T0 25 = 9 ∧ vp_in (M 24 3) 10) ∧ True) rfl ⟨trivial, rfl, trivial, rfl, trivial, ⟨rfl, o1⟩, trivial⟩ ?_
    refine jRun.nm (fun M1 eM1 => ?_)
    have h := h M1 eM1
    obtain ⟨o2, h⟩ := h
    refine jRun.cut (k := jk_X2_remember) rfl 6 (c' := (33, [.ref 24, .int a1, .int a2, .int a3], [], (jP M1 26 ((M1 24 3).toNatClampNeg) a2))) (ob := True ∧ jKd T0 24 = 2 ∧ True ∧ jKd T0 24 = 2 ∧ True ∧ (jKd T0 26 = 9 ∧ vp_in (M1 24 3) 10) ∧ True) rfl ⟨trivial, rfl, trivial, rfl, trivial, ⟨rfl, o2⟩, trivial⟩ ?_
    refine jRun.nm (fun M2 eM2 => ?_)
    have h := h M2 eM2
    obtain ⟨o3, h⟩ := h
    refine jRun.cut (k := jk_X2_remember) rfl 6 (c' := (43, [.ref 24, .int a1, .int a2, .int a3], [], (jP M2 27 ((M2 24 3).toNatClampNeg) a3))) (ob := True ∧ jKd T0 24 = 2 ∧ True ∧ jKd T0 24 = 2 ∧ True ∧ (jKd T0 27 = 9 ∧ vp_in (M2 24 3) 10) ∧ True) rfl ⟨trivial, rfl, trivial, rfl, trivial, ⟨rfl, o3⟩, trivial⟩ ?_
    refine jRun.nm (fun M3 eM3 => ?_)
    have h := h M3 eM3
    refine jRun.cut (k := jk_X2_remember) rfl 6 (c' := (53, [.ref 24, .int a1, .int a2, .int a3], [], (jP M3 24 3 ((M3 24 3) + 1)))) (ob := True ∧ True ∧ jKd T0 24 = 2 ∧ True ∧ True ∧ jKd T0 24 = 2 ∧ True) rfl ⟨trivial, trivial, rfl, trivial, trivial, rfl, trivial⟩ ?_
    refine jRun.nm (fun M4 eM4 => ?_)
    have h := h M4 eM4
    exact jRun.ret (k := jk_X2_remember) rfl 1 (v := none) (M1 := M4) (ob := True) rfl trivial h
  · have h := h.2 g
    refine jRun.call (k := jk_X2_remember) rfl 2 (f := q_X2_loseOldest) (As := [.ref 24]) (c1 := (13, [.ref 24, .int a1, .int a2, .int a3], [], M)) (ob := True ∧ jKd T0 24 = 2) rfl ⟨trivial, rfl⟩ h (fun v M5 h => ?_)
    obtain ⟨rfl, h⟩ := h
    show jRun X T0 (d + 1) q_X2_remember (13, [.ref 24, .int a1, .int a2, .int a3], [], M5) Q
    obtain ⟨o4, h⟩ := h
    refine jRun.cut (k := jk_X2_remember) rfl 6 (c' := (23, [.ref 24, .int a1, .int a2, .int a3], [], (jP M5 25 ((M5 24 3).toNatClampNeg) a1))) (ob := True ∧ jKd T0 24 = 2 ∧ True ∧ jKd T0 24 = 2 ∧ True ∧ (jKd T0 25 = 9 ∧ vp_in (M5 24 3) 10) ∧ True) rfl ⟨trivial, rfl, trivial, rfl, trivial, ⟨rfl, o4⟩, trivial⟩ ?_
    refine jRun.nm (fun M6 eM6 => ?_)
    have h := h M6 eM6
    obtain ⟨o5, h⟩ := h
    refine jRun.cut (k := jk_X2_remember) rfl 6 (c' := (33, [.ref 24, .int a1, .int a2, .int a3], [], (jP M6 26 ((M6 24 3).toNatClampNeg) a2))) (ob := True ∧ jKd T0 24 = 2 ∧ True ∧ jKd T0 24 = 2 ∧ True ∧ (jKd T0 26 = 9 ∧ vp_in (M6 24 3) 10) ∧ True) rfl ⟨trivial, rfl, trivial, rfl, trivial, ⟨rfl, o5⟩, trivial⟩ ?_
    refine jRun.nm (fun M7 eM7 => ?_)
    have h := h M7 eM7
    obtain ⟨o6, h⟩ := h
    refine jRun.cut (k := jk_X2_remember) rfl 6 (c' := (43, [.ref 24, .int a1, .int a2, .int a3], [], (jP M7 27 ((M7 24 3).toNatClampNeg) a3))) (ob := True ∧ jKd T0 24 = 2 ∧ True ∧ jKd T0 24 = 2 ∧ True ∧ (jKd T0 27 = 9 ∧ vp_in (M7 24 3) 10) ∧ True) rfl ⟨trivial, rfl, trivial, rfl, trivial, ⟨rfl, o6⟩, trivial⟩ ?_
    refine jRun.nm (fun M8 eM8 => ?_)
    have h := h M8 eM8
    refine jRun.cut (k := jk_X2_remember) rfl 6 (c' := (53, [.ref 24, .int a1, .int a2, .int a3], [], (jP M8 24 3 ((M8 24 3) + 1)))) (ob := True ∧ True ∧ jKd T0 24 = 2 ∧ True ∧ True ∧ jKd T0 24 = 2 ∧ True) rfl ⟨trivial, trivial, rfl, trivial, trivial, rfl, trivial⟩ ?_
    refine jRun.nm (fun M9 eM9 => ?_)
    have h := h M9 eM9
    exact jRun.ret (k := jk_X2_remember) rfl 1 (v := none) (M1 := M9) (ob := True) rfl trivial h
theorem v_X2_takeBack {X : jX} {d : Nat} (hI : jInj X T0)  (M : jMem) (Q : Option Value → jMem → Prop) (h : ((0 < (M 24 3) → (∀ M1, M1 = jP M 24 3 ((M 24 3) - 1) → vp_in (M1 24 3) 10 ∧ ((¬ (M1 25 (M1 24 3).toNatClampNeg) = 0 → ((¬ (M1 25 (M1 24 3).toNatClampNeg) = 1 → (∀ M2, M2 = jP M1 22 2 (M1 27 (M1 24 3).toNatClampNeg) → Q none M2)) ∧ ((M1 25 (M1 24 3).toNatClampNeg) = 1 → (∀ M3, M3 = jP M1 22 1 (M1 27 (M1 24 3).toNatClampNeg) → Q none M3)))) ∧ ((M1 25 (M1 24 3).toNatClampNeg) = 0 → vp_in (M1 26 (M1 24 3).toNatClampNeg) 32 ∧ (∀ M4, M4 = jP M1 23 ((M1 26 (M1 24 3).toNatClampNeg).toNatClampNeg) (M1 27 (M1 24 3).toNatClampNeg) → Q none M4))))) ∧ (¬ 0 < (M 24 3) → Q none M))) : jOk X T0 d q_X2_takeBack [.ref 24, .ref 22] M Q := by
  refine jOk.intro (ml := 2) (ls := [.ref 24, .ref 22]) (jTl (by decide)) rfl (Nat.le_of_ble_eq_true rfl) rfl hI ?_
  refine jRun.cut (k := jk_X2_takeBack) rfl 3 (c' := (if 0 < (M 24 3) then 8 else 7, [.ref 24, .ref 22], [], M)) (ob := True ∧ jKd T0 24 = 2 ∧ True ∧ True) rfl ⟨trivial, rfl, trivial, trivial⟩ ?_
  refine jRun.br (fun g => ?_) (fun g => ?_)
  · have h := h.1 g
    refine jRun.cut (k := jk_X2_takeBack) rfl 6 (c' := (18, [.ref 24, .ref 22], [], (jP M 24 3 ((M 24 3) - 1)))) (ob := True ∧ True ∧ jKd T0 24 = 2 ∧ True ∧ True ∧ jKd T0 24 = 2 ∧ True) rfl ⟨trivial, trivial, rfl, trivial, trivial, rfl, trivial⟩ ?_
    refine jRun.nm (fun M1 eM1 => ?_)
    have h := h M1 eM1
    obtain ⟨o1, h⟩ := h
    refine jRun.cut (k := jk_X2_takeBack) rfl 6 (c' := (if ¬ (M1 25 (M1 24 3).toNatClampNeg) = 0 then 56 else 30, [.ref 24, .ref 22], [], M1)) (ob := True ∧ jKd T0 24 = 2 ∧ True ∧ jKd T0 24 = 2 ∧ (jKd T0 25 = 9 ∧ vp_in (M1 24 3) 10) ∧ True ∧ True) rfl ⟨trivial, rfl, trivial, rfl, ⟨rfl, o1⟩, trivial, trivial⟩ ?_
    refine jRun.brn (fun g => ?_) (fun g => ?_)
    · have h := h.1 g
      refine jRun.cut (k := jk_X2_takeBack) rfl 7 (c' := (if ¬ (M1 25 (M1 24 3).toNatClampNeg) = 1 then 85 else 69, [.ref 24, .ref 22], [], M1)) (ob := True ∧ jKd T0 24 = 2 ∧ True ∧ jKd T0 24 = 2 ∧ (jKd T0 25 = 9 ∧ vp_in (M1 24 3) 10) ∧ True ∧ True ∧ True) rfl ⟨trivial, rfl, trivial, rfl, ⟨rfl, o1⟩, trivial, trivial, trivial⟩ ?_
      refine jRun.brn (fun g => ?_) (fun g => ?_)
      · have h := h.1 g
        refine jRun.cut (k := jk_X2_takeBack) rfl 7 (c' := (98, [.ref 24, .ref 22], [], (jP M1 22 2 (M1 27 (M1 24 3).toNatClampNeg)))) (ob := True ∧ True ∧ jKd T0 24 = 2 ∧ True ∧ jKd T0 24 = 2 ∧ (jKd T0 27 = 9 ∧ vp_in (M1 24 3) 10) ∧ jKd T0 22 = 5 ∧ True) rfl ⟨trivial, trivial, rfl, trivial, rfl, ⟨rfl, o1⟩, rfl, trivial⟩ ?_
        refine jRun.nm (fun M2 eM2 => ?_)
        have h := h M2 eM2
        exact jRun.ret (k := jk_X2_takeBack) rfl 1 (v := none) (M1 := M2) (ob := True) rfl trivial h
      · have h := h.2 g
        refine jRun.cut (k := jk_X2_takeBack) rfl 7 (c' := (82, [.ref 24, .ref 22], [], (jP M1 22 1 (M1 27 (M1 24 3).toNatClampNeg)))) (ob := True ∧ True ∧ jKd T0 24 = 2 ∧ True ∧ jKd T0 24 = 2 ∧ (jKd T0 27 = 9 ∧ vp_in (M1 24 3) 10) ∧ jKd T0 22 = 5 ∧ True) rfl ⟨trivial, trivial, rfl, trivial, rfl, ⟨rfl, o1⟩, rfl, trivial⟩ ?_
        refine jRun.nm (fun M3 eM3 => ?_)
        have h := h M3 eM3
        exact jRun.ret (k := jk_X2_takeBack) rfl 2 (v := none) (M1 := M3) (ob := True ∧ True) rfl ⟨trivial, trivial⟩ h
    · have h := h.2 g
      obtain ⟨o2, h⟩ := h
      refine jRun.cut (k := jk_X2_takeBack) rfl 13 (c' := (53, [.ref 24, .ref 22], [], (jP M1 23 ((M1 26 (M1 24 3).toNatClampNeg).toNatClampNeg) (M1 27 (M1 24 3).toNatClampNeg)))) (ob := True ∧ jKd T0 22 = 5 ∧ True ∧ jKd T0 24 = 2 ∧ True ∧ jKd T0 24 = 2 ∧ (jKd T0 26 = 9 ∧ vp_in (M1 24 3) 10) ∧ True ∧ jKd T0 24 = 2 ∧ True ∧ jKd T0 24 = 2 ∧ (jKd T0 27 = 9 ∧ vp_in (M1 24 3) 10) ∧ (jKd T0 23 = 9 ∧ vp_in (M1 26 (M1 24 3).toNatClampNeg) 32) ∧ True) rfl ⟨trivial, rfl, trivial, rfl, trivial, rfl, ⟨rfl, o1⟩, trivial, rfl, trivial, rfl, ⟨rfl, o1⟩, ⟨rfl, o2⟩, trivial⟩ ?_
      refine jRun.nm (fun M4 eM4 => ?_)
      have h := h M4 eM4
      exact jRun.ret (k := jk_X2_takeBack) rfl 2 (v := none) (M1 := M4) (ob := True ∧ True) rfl ⟨trivial, trivial⟩ h
  · have h := h.2 g
    exact jRun.ret (k := jk_X2_takeBack) rfl 1 (v := none) (M1 := M) (ob := True) rfl trivial h
theorem v_X2_loseOldest {X : jX} {d : Nat} (hI : jInj X T0)  (M : jMem) (Q : Option Value → jMem → Prop) (h : (∀ M1, M1 = jSC M 25 (va_cpy (M 25) (M 25) 1 0 9) → (∀ M2, M2 = jSC M1 26 (va_cpy (M1 26) (M1 26) 1 0 9) → (∀ M3, M3 = jSC M2 27 (va_cpy (M2 27) (M2 27) 1 0 9) → (∀ M4, M4 = jP M3 24 3 9 → Q none M4))))) : jOk X T0 d q_X2_loseOldest [.ref 24] M Q := by
  refine jOk.intro (ml := 1) (ls := [.ref 24]) (jTl (by decide)) rfl (Nat.le_of_ble_eq_true rfl) rfl hI ?_
  refine jRun.cut (k := jk_X2_loseOldest) rfl 8 (c' := (15, [.ref 24], [], (jSC M 25 (va_cpy (M 25) (M 25) 1 0 9)))) (ob := True ∧ jKd T0 24 = 2 ∧ True ∧ True ∧ jKd T0 24 = 2 ∧ True ∧ True ∧ (jKd T0 25 = 9 ∧ jKd T0 25 = 9 ∧ ¬ (1 : Int32) < 0 ∧ ¬ (0 : Int32) < 0 ∧ ¬ (9 : Int32) < 0 ∧ (1 : Int32).toNatClampNeg + (9 : Int32).toNatClampNeg ≤ jLn T0 25 ∧ (0 : Int32).toNatClampNeg + (9 : Int32).toNatClampNeg ≤ jLn T0 25) ∧ True) rfl ⟨trivial, rfl, trivial, trivial, rfl, trivial, trivial, ⟨rfl, rfl, (by decide), (by decide), (by decide), (by decide), (by decide)⟩, trivial⟩ ?_
  refine jRun.nm (fun M1 eM1 => ?_)
  have h := h M1 eM1
  refine jRun.cut (k := jk_X2_loseOldest) rfl 8 (c' := (30, [.ref 24], [], (jSC M1 26 (va_cpy (M1 26) (M1 26) 1 0 9)))) (ob := True ∧ jKd T0 24 = 2 ∧ True ∧ True ∧ jKd T0 24 = 2 ∧ True ∧ True ∧ (jKd T0 26 = 9 ∧ jKd T0 26 = 9 ∧ ¬ (1 : Int32) < 0 ∧ ¬ (0 : Int32) < 0 ∧ ¬ (9 : Int32) < 0 ∧ (1 : Int32).toNatClampNeg + (9 : Int32).toNatClampNeg ≤ jLn T0 26 ∧ (0 : Int32).toNatClampNeg + (9 : Int32).toNatClampNeg ≤ jLn T0 26) ∧ True) rfl ⟨trivial, rfl, trivial, trivial, rfl, trivial, trivial, ⟨rfl, rfl, (by decide), (by decide), (by decide), (by decide), (by decide)⟩, trivial⟩ ?_
  refine jRun.nm (fun M2 eM2 => ?_)
  have h := h M2 eM2
  refine jRun.cut (k := jk_X2_loseOldest) rfl 8 (c' := (45, [.ref 24], [], (jSC M2 27 (va_cpy (M2 27) (M2 27) 1 0 9)))) (ob := True ∧ jKd T0 24 = 2 ∧ True ∧ True ∧ jKd T0 24 = 2 ∧ True ∧ True ∧ (jKd T0 27 = 9 ∧ jKd T0 27 = 9 ∧ ¬ (1 : Int32) < 0 ∧ ¬ (0 : Int32) < 0 ∧ ¬ (9 : Int32) < 0 ∧ (1 : Int32).toNatClampNeg + (9 : Int32).toNatClampNeg ≤ jLn T0 27 ∧ (0 : Int32).toNatClampNeg + (9 : Int32).toNatClampNeg ≤ jLn T0 27) ∧ True) rfl ⟨trivial, rfl, trivial, trivial, rfl, trivial, trivial, ⟨rfl, rfl, (by decide), (by decide), (by decide), (by decide), (by decide)⟩, trivial⟩ ?_
  refine jRun.nm (fun M3 eM3 => ?_)
  have h := h M3 eM3
  refine jRun.cut (k := jk_X2_loseOldest) rfl 3 (c' := (51, [.ref 24], [], (jP M3 24 3 9))) (ob := True ∧ True ∧ jKd T0 24 = 2 ∧ True) rfl ⟨trivial, trivial, rfl, trivial⟩ ?_
  refine jRun.nm (fun M4 eM4 => ?_)
  have h := h M4 eM4
  exact jRun.ret (k := jk_X2_loseOldest) rfl 1 (v := none) (M1 := M4) (ob := True) rfl trivial h
theorem v_X4_leastReach {X : jX} {d : Nat} (hI : jInj X T0)  (M : jMem) (Q : Option Value → jMem → Prop) (h : jOk X T0 d q_X5_becomeAs [.ref 49, .ref 22] M (fun v M1 => v = none ∧ jRun X T0 (d + 1) q_X4_leastReach (10, [.ref 48, .ref 22, .int 4], [], M1) Q)) : jOk X T0 (d + 1) q_X4_leastReach [.ref 48, .ref 22] M Q := by
  refine jOk.intro (ml := 3) (ls := [.ref 48, .ref 22, .null]) (jTl (by decide)) rfl (Nat.le_of_ble_eq_true rfl) rfl hI ?_
  refine jRun.call (k := jk_X4_leastReach) rfl 4 (f := q_X5_becomeAs) (As := [.ref 49, .ref 22]) (c1 := (8, [.ref 48, .ref 22, .null], [], M)) (ob := True ∧ jKd T0 48 = 4 ∧ True ∧ jKd T0 49 = 5) rfl ⟨trivial, rfl, trivial, rfl⟩ h (fun v M1 h => ?_)
  obtain ⟨rfl, h⟩ := h
  show jRun X T0 (d + 1) q_X4_leastReach (8, [.ref 48, .ref 22, .null], [], M1) Q
  refine jRun.cut (k := jk_X4_leastReach) rfl 2 (c' := (10, [.ref 48, .ref 22, .int 4], [], M1)) (ob := True ∧ True ∧ True) rfl ⟨trivial, trivial, trivial⟩ ?_
  exact h
theorem v_X4_leastReach_10 {X : jX} {d : Nat} (a2 : Int32) (M : jMem) (Q : Option Value → jMem → Prop) (h : ((127 < a2 → Q (some (.int (-9))) M) ∧ (¬ 127 < a2 → (∀ M1, M1 = jP M 49 3 a2 → jOk X T0 d q_X1_growFrom [.ref 51, .ref 49, .int (M1 49 1)] M1 (fun v M2 => v = none ∧ ((¬ (M2 51 2) = (M2 22 1) → jRun X T0 (d + 1) q_X4_leastReach (10, [.ref 48, .ref 22, .int (a2 + 1)], [], M2) Q) ∧ ((M2 51 2) = (M2 22 1) → Q (some (.int a2)) M2))))))) : jRun X T0 (d + 1) q_X4_leastReach (10, [.ref 48, .ref 22, .int a2], [], M) Q := by
  refine jRun.cut (k := jk_X4_leastReach) rfl 3 (c' := (if 127 < a2 then 64 else 16, [.ref 48, .ref 22, .int a2], [], M)) (ob := True ∧ True ∧ True ∧ True) rfl ⟨trivial, trivial, trivial, trivial⟩ ?_
  refine jRun.br (fun g => ?_) (fun g => ?_)
  · have h := h.1 g
    exact jRun.ret (k := jk_X4_leastReach) rfl 2 (v := some (.int (-9))) (M1 := M) (ob := True ∧ True) rfl ⟨trivial, trivial⟩ h
  · have h := h.2 g
    refine jRun.cut (k := jk_X4_leastReach) rfl 4 (c' := (24, [.ref 48, .ref 22, .int a2], [], (jP M 49 3 a2))) (ob := True ∧ jKd T0 48 = 4 ∧ True ∧ jKd T0 49 = 5 ∧ True) rfl ⟨trivial, rfl, trivial, rfl, trivial⟩ ?_
    refine jRun.nm (fun M1 eM1 => ?_)
    have h := h M1 eM1
    refine jRun.call (k := jk_X4_leastReach) rfl 8 (f := q_X1_growFrom) (As := [.ref 51, .ref 49, .int (M1 49 1)]) (c1 := (42, [.ref 48, .ref 22, .int a2], [], M1)) (ob := True ∧ jKd T0 48 = 4 ∧ True ∧ jKd T0 48 = 4 ∧ True ∧ jKd T0 48 = 4 ∧ jKd T0 49 = 5 ∧ jKd T0 51 = 1) rfl ⟨trivial, rfl, trivial, rfl, trivial, rfl, rfl, rfl⟩ h (fun v M2 h => ?_)
    obtain ⟨rfl, h⟩ := h
    show jRun X T0 (d + 1) q_X4_leastReach (42, [.ref 48, .ref 22, .int a2], [], M2) Q
    refine jRun.cut (k := jk_X4_leastReach) rfl 6 (c' := (if ¬ (M2 51 2) = (M2 22 1) then 58 else 56, [.ref 48, .ref 22, .int a2], [], M2)) (ob := True ∧ jKd T0 48 = 4 ∧ jKd T0 51 = 1 ∧ True ∧ jKd T0 22 = 5 ∧ True ∧ True) rfl ⟨trivial, rfl, rfl, trivial, rfl, trivial, trivial⟩ ?_
    refine jRun.brn (fun g => ?_) (fun g => ?_)
    · have h := h.1 g
      refine jRun.cut (k := jk_X4_leastReach) rfl 2 (c' := (10, [.ref 48, .ref 22, .int (a2 + 1)], [], M2)) (ob := True ∧ True ∧ True) rfl ⟨trivial, trivial, trivial⟩ ?_
      exact h
    · have h := h.2 g
      exact jRun.ret (k := jk_X4_leastReach) rfl 2 (v := some (.int a2)) (M1 := M2) (ob := True ∧ True) rfl ⟨trivial, trivial⟩ h
theorem v_X4_fewestIslands {X : jX} {d : Nat} (hI : jInj X T0)  (M : jMem) (Q : Option Value → jMem → Prop) (h : jOk X T0 d q_X5_becomeAs [.ref 49, .ref 22] M (fun v M1 => v = none ∧ (∀ M2, M2 = jP M1 48 4 (-1) → jRun X T0 (d + 1) q_X4_fewestIslands (15, [.ref 48, .ref 22, .int 0, .null], [], M2) Q))) : jOk X T0 (d + 1) q_X4_fewestIslands [.ref 48, .ref 22] M Q := by
  refine jOk.intro (ml := 4) (ls := [.ref 48, .ref 22, .null, .null]) (jTl (by decide)) rfl (Nat.le_of_ble_eq_true rfl) rfl hI ?_
  refine jRun.call (k := jk_X4_fewestIslands) rfl 4 (f := q_X5_becomeAs) (As := [.ref 49, .ref 22]) (c1 := (8, [.ref 48, .ref 22, .null, .null], [], M)) (ob := True ∧ jKd T0 48 = 4 ∧ True ∧ jKd T0 49 = 5) rfl ⟨trivial, rfl, trivial, rfl⟩ h (fun v M1 h => ?_)
  obtain ⟨rfl, h⟩ := h
  show jRun X T0 (d + 1) q_X4_fewestIslands (8, [.ref 48, .ref 22, .null, .null], [], M1) Q
  refine jRun.cut (k := jk_X4_fewestIslands) rfl 3 (c' := (13, [.ref 48, .ref 22, .null, .null], [], (jP M1 48 4 (-1)))) (ob := True ∧ True ∧ jKd T0 48 = 4 ∧ True) rfl ⟨trivial, trivial, rfl, trivial⟩ ?_
  refine jRun.nm (fun M2 eM2 => ?_)
  have h := h M2 eM2
  refine jRun.cut (k := jk_X4_fewestIslands) rfl 2 (c' := (15, [.ref 48, .ref 22, .int 0, .null], [], M2)) (ob := True ∧ True ∧ True) rfl ⟨trivial, trivial, trivial⟩ ?_
  exact h
theorem v_X4_fewestIslands_15 {X : jX} {d : Nat} (a2 : Int32) (M : jMem) (Q : Option Value → jMem → Prop) (h : ((3 < a2 → Q (some (.int (-9))) M) ∧ (¬ 3 < a2 → jOk X T0 d q_X4_leastWith [.ref 48, .int 0, .int (8 * (M 12 12)), .int a2] M (fun v M1 => ∃ r1, v = some (.int r1) ∧ ((r1 < 0 → jRun X T0 (d + 1) q_X4_fewestIslands (15, [.ref 48, .ref 22, .int (a2 + 1), .null], [], M1) Q) ∧ (¬ r1 < 0 → Q (some (.int r1)) M1)))))) : jRun X T0 (d + 1) q_X4_fewestIslands (15, [.ref 48, .ref 22, .int a2, .null], [], M) Q := by
  refine jRun.cut (k := jk_X4_fewestIslands) rfl 3 (c' := (if 3 < a2 then 49 else 20, [.ref 48, .ref 22, .int a2, .null], [], M)) (ob := True ∧ True ∧ True ∧ True) rfl ⟨trivial, trivial, trivial, trivial⟩ ?_
  refine jRun.br (fun g => ?_) (fun g => ?_)
  · have h := h.1 g
    exact jRun.ret (k := jk_X4_fewestIslands) rfl 2 (v := some (.int (-9))) (M1 := M) (ob := True ∧ True) rfl ⟨trivial, trivial⟩ h
  · have h := h.2 g
    refine jRun.call (k := jk_X4_fewestIslands) rfl 9 (f := q_X4_leastWith) (As := [.ref 48, .int 0, .int (8 * (M 12 12)), .int a2]) (c1 := (36, [.ref 48, .ref 22, .int a2, .null], [], M)) (ob := True ∧ True ∧ True ∧ True ∧ jKd T0 48 = 4 ∧ jKd T0 12 = 3 ∧ True ∧ True ∧ True) rfl ⟨trivial, trivial, trivial, trivial, rfl, rfl, trivial, trivial, trivial⟩ h (fun v M1 h => ?_)
    obtain ⟨r1, rfl, h⟩ := h
    show jRun X T0 (d + 1) q_X4_fewestIslands (36, [.ref 48, .ref 22, .int a2, .null], [.int r1], M1) Q
    refine jRun.cut (k := jk_X4_fewestIslands) rfl 3 (c' := (if r1 < 0 then 43 else 41, [.ref 48, .ref 22, .int a2, .int r1], [], M1)) (ob := True ∧ True ∧ True ∧ True) rfl ⟨trivial, trivial, trivial, trivial⟩ ?_
    refine jRun.br (fun g => ?_) (fun g => ?_)
    · have h := h.1 g
      refine jRun.cut (k := jk_X4_fewestIslands) rfl 2 (c' := (15, [.ref 48, .ref 22, .int (a2 + 1), .int r1], [], M1)) (ob := True ∧ True ∧ True) rfl ⟨trivial, trivial, trivial⟩ ?_
      exact jRun.weak (by simp [jFew]) h
    · have h := h.2 g
      exact jRun.ret (k := jk_X4_fewestIslands) rfl 2 (v := some (.int r1)) (M1 := M1) (ob := True ∧ True) rfl ⟨trivial, trivial⟩ h
theorem v_X4_allOdds {X : jX} {d : Nat} (hI : jInj X T0)  (M : jMem) (Q : Option Value → jMem → Prop) (h : jOk X T0 d q_X4_power [.int 10, .int (if 6 < (M 12 9) then 6 else (M 12 9))] M (fun v M1 => ∃ r1, v = some (.int r1) ∧ Q (some (.int r1)) M1)) : jOk X T0 (d + 1) q_X4_allOdds [.ref 48] M Q := by
  refine jOk.intro (ml := 1) (ls := [.ref 48]) (jTl (by decide)) rfl (Nat.le_of_ble_eq_true rfl) rfl hI ?_
  refine jRun.call (k := jk_X4_allOdds) rfl 7 (f := q_X4_power) (As := [.int 10, .int (if 6 < (M 12 9) then 6 else (M 12 9))]) (c1 := (17, [.ref 48], [], M)) (ob := True ∧ True ∧ jKd T0 48 = 4 ∧ jKd T0 12 = 3 ∧ True ∧ True ∧ True) rfl ⟨trivial, trivial, rfl, rfl, trivial, trivial, trivial⟩ h (fun v M1 h => ?_)
  obtain ⟨r1, rfl, h⟩ := h
  show jRun X T0 (d + 1) q_X4_allOdds (17, [.ref 48], [.int r1], M1) Q
  exact jRun.ret (k := jk_X4_allOdds) rfl 1 (v := some (.int r1)) (M1 := M1) (ob := True) rfl trivial h
theorem v_X4_oddsOfLong {X : jX} {d : Nat} (hI : jInj X T0) (a2 : Int32) (a3 : Int32) (M : jMem) (Q : Option Value → jMem → Prop) (h : jOk X T0 d q_X5_becomeAs [.ref 49, .ref 22] M (fun v M1 => v = none ∧ jOk X T0 d q_X4_findFirstOps [.ref 48] M1 (fun v M2 => ∃ r2, v = some (.int r2) ∧ jRun X T0 (d + 1) q_X4_oddsOfLong (20, [.ref 48, .ref 22, .int a2, .int a3, .int r2, .int 0, .int 0, .null], [], M2) Q))) : jOk X T0 (d + 1) q_X4_oddsOfLong [.ref 48, .ref 22, .int a2, .int a3] M Q := by
  refine jOk.intro (ml := 8) (ls := [.ref 48, .ref 22, .int a2, .int a3, .null, .null, .null, .null]) (jTl (by decide)) rfl (Nat.le_of_ble_eq_true rfl) rfl hI ?_
  refine jRun.call (k := jk_X4_oddsOfLong) rfl 4 (f := q_X5_becomeAs) (As := [.ref 49, .ref 22]) (c1 := (8, [.ref 48, .ref 22, .int a2, .int a3, .null, .null, .null, .null], [], M)) (ob := True ∧ jKd T0 48 = 4 ∧ True ∧ jKd T0 49 = 5) rfl ⟨trivial, rfl, trivial, rfl⟩ h (fun v M1 h => ?_)
  obtain ⟨rfl, h⟩ := h
  show jRun X T0 (d + 1) q_X4_oddsOfLong (8, [.ref 48, .ref 22, .int a2, .int a3, .null, .null, .null, .null], [], M1) Q
  refine jRun.call (k := jk_X4_oddsOfLong) rfl 2 (f := q_X4_findFirstOps) (As := [.ref 48]) (c1 := (12, [.ref 48, .ref 22, .int a2, .int a3, .null, .null, .null, .null], [], M1)) (ob := True ∧ jKd T0 48 = 4) rfl ⟨trivial, rfl⟩ h (fun v M2 h => ?_)
  obtain ⟨r2, rfl, h⟩ := h
  show jRun X T0 (d + 1) q_X4_oddsOfLong (12, [.ref 48, .ref 22, .int a2, .int a3, .null, .null, .null, .null], [.int r2], M2) Q
  refine jRun.cut (k := jk_X4_oddsOfLong) rfl 5 (c' := (20, [.ref 48, .ref 22, .int a2, .int a3, .int r2, .int 0, .int 0, .null], [], M2)) (ob := True ∧ True ∧ True ∧ True ∧ True ∧ True) rfl ⟨trivial, trivial, trivial, trivial, trivial, trivial⟩ ?_
  exact h
theorem v_X4_oddsOfLong_20 {X : jX} {d : Nat} (a2 : Int32) (a3 : Int32) (a4 : Int32) (a5 : Int32) (a6 : Int32) (M : jMem) (Q : Option Value → jMem → Prop) (h : (((1 <<< (a4 &&& 31)) ≤ a6 → Q (some (.int a5)) M) ∧ (¬ (1 <<< (a4 &&& 31)) ≤ a6 → jRun X T0 (d + 1) q_X4_oddsOfLong (32, [.ref 48, .ref 22, .int a2, .int a3, .int a4, .int a5, .int a6, .int 0], [], M) Q))) : jRun X T0 (d + 1) q_X4_oddsOfLong (20, [.ref 48, .ref 22, .int a2, .int a3, .int a4, .int a5, .int a6, .null], [], M) Q := by
  refine jRun.cut (k := jk_X4_oddsOfLong) rfl 5 (c' := (if (1 <<< (a4 &&& 31)) ≤ a6 then 146 else 29, [.ref 48, .ref 22, .int a2, .int a3, .int a4, .int a5, .int a6, .null], [], M)) (ob := True ∧ True ∧ True ∧ True ∧ True ∧ True) rfl ⟨trivial, trivial, trivial, trivial, trivial, trivial⟩ ?_
  refine jRun.br (fun g => ?_) (fun g => ?_)
  · have h := h.1 g
    exact jRun.ret (k := jk_X4_oddsOfLong) rfl 2 (v := some (.int a5)) (M1 := M) (ob := True ∧ True) rfl ⟨trivial, trivial⟩ h
  · have h := h.2 g
    refine jRun.cut (k := jk_X4_oddsOfLong) rfl 2 (c' := (32, [.ref 48, .ref 22, .int a2, .int a3, .int a4, .int a5, .int a6, .int 0], [], M)) (ob := True ∧ True ∧ True) rfl ⟨trivial, trivial, trivial⟩ ?_
    exact h
theorem v_X4_oddsOfLong_32 {X : jX} {d : Nat} (a2 : Int32) (a3 : Int32) (a4 : Int32) (a5 : Int32) (a6 : Int32) (a7 : Int32) (M : jMem) (Q : Option Value → jMem → Prop) (h : ((a4 ≤ a7 → jOk X T0 d q_X1_growFrom [.ref 51, .ref 49, .int (M 49 1)] M (fun v M1 => v = none ∧ jOk X T0 d q_J6_bitCount_0f7a4 [.int a6] M1 (fun v M2 => ∃ r2, v = some (.int r2) ∧ jOk X T0 d q_X1_isLong [.ref 51, .int a2] M2 (fun v M3 => ∃ r3, v = some (.int r3) ∧ ((r3 = 0 → jRun X T0 (d + 1) q_X4_oddsOfLong (20, [.ref 48, .ref 22, .int a2, .int a3, .int a4, .int a5, .int (a6 + 1), .null], [], M3) Q) ∧ (¬ r3 = 0 → jOk X T0 d q_X4_power [.int a3, .int r2] M3 (fun v M4 => ∃ r4, v = some (.int r4) ∧ jOk X T0 d q_X4_power [.int (10 - a3), .int (a4 - r2)] M4 (fun v M5 => ∃ r5, v = some (.int r5) ∧ jRun X T0 (d + 1) q_X4_oddsOfLong (20, [.ref 48, .ref 22, .int a2, .int a3, .int a4, .int (a5 + (r4 * r5)), .int (a6 + 1), .null], [], M5) Q)))))))) ∧ (¬ a4 ≤ a7 → vp_in a7 6 ∧ vp_in (M 53 a7.toNatClampNeg) 32 ∧ (∀ M6, M6 = jP M 50 ((M 53 a7.toNatClampNeg).toNatClampNeg) ((M 23 (M 53 a7.toNatClampNeg).toNatClampNeg) + ((a6 >>> (a7 &&& 31)) &&& 1)) → jRun X T0 (d + 1) q_X4_oddsOfLong (32, [.ref 48, .ref 22, .int a2, .int a3, .int a4, .int a5, .int a6, .int (a7 + 1)], [], M6) Q)))) : jRun X T0 (d + 1) q_X4_oddsOfLong (32, [.ref 48, .ref 22, .int a2, .int a3, .int a4, .int a5, .int a6, .int a7], [], M) Q := by
  refine jRun.cut (k := jk_X4_oddsOfLong) rfl 3 (c' := (if a4 ≤ a7 then 80 else 39, [.ref 48, .ref 22, .int a2, .int a3, .int a4, .int a5, .int a6, .int a7], [], M)) (ob := True ∧ True ∧ True ∧ True) rfl ⟨trivial, trivial, trivial, trivial⟩ ?_
  refine jRun.br (fun g => ?_) (fun g => ?_)
  · have h := h.1 g
    refine jRun.call (k := jk_X4_oddsOfLong) rfl 8 (f := q_X1_growFrom) (As := [.ref 51, .ref 49, .int (M 49 1)]) (c1 := (98, [.ref 48, .ref 22, .int a2, .int a3, .int a4, .int a5, .int a6, .int a7], [], M)) (ob := True ∧ jKd T0 48 = 4 ∧ True ∧ jKd T0 48 = 4 ∧ True ∧ jKd T0 48 = 4 ∧ jKd T0 49 = 5 ∧ jKd T0 51 = 1) rfl ⟨trivial, rfl, trivial, rfl, trivial, rfl, rfl, rfl⟩ h (fun v M1 h => ?_)
    obtain ⟨rfl, h⟩ := h
    show jRun X T0 (d + 1) q_X4_oddsOfLong (98, [.ref 48, .ref 22, .int a2, .int a3, .int a4, .int a5, .int a6, .int a7], [], M1) Q
    refine jRun.call (k := jk_X4_oddsOfLong) rfl 2 (f := q_J6_bitCount_0f7a4) (As := [.int a6]) (c1 := (103, [.ref 48, .ref 22, .int a2, .int a3, .int a4, .int a5, .int a6, .int a7], [], M1)) (ob := True ∧ True) rfl ⟨trivial, trivial⟩ h (fun v M2 h => ?_)
    obtain ⟨r2, rfl, h⟩ := h
    show jRun X T0 (d + 1) q_X4_oddsOfLong (103, [.ref 48, .ref 22, .int a2, .int a3, .int a4, .int a5, .int a6, .int a7], [.int r2], M2) Q
    refine jRun.call (k := jk_X4_oddsOfLong) rfl 5 (f := q_X1_isLong) (As := [.ref 51, .int a2]) (c1 := (113, [.ref 48, .ref 22, .int a2, .int a3, .int a4, .int a5, .int a6, .int r2], [], M2)) (ob := True ∧ True ∧ jKd T0 48 = 4 ∧ True ∧ jKd T0 51 = 1) rfl ⟨trivial, trivial, rfl, trivial, rfl⟩ h (fun v M3 h => ?_)
    obtain ⟨r3, rfl, h⟩ := h
    show jRun X T0 (d + 1) q_X4_oddsOfLong (113, [.ref 48, .ref 22, .int a2, .int a3, .int a4, .int a5, .int a6, .int r2], [.int r3], M3) Q
    refine jRun.cut (k := jk_X4_oddsOfLong) rfl 1 (c' := (if r3 = 0 then 140 else 116, [.ref 48, .ref 22, .int a2, .int a3, .int a4, .int a5, .int a6, .int r2], [], M3)) (ob := True ∧ True) rfl ⟨trivial, trivial⟩ ?_
    refine jRun.br (fun g => ?_) (fun g => ?_)
    · have h := h.1 g
      refine jRun.cut (k := jk_X4_oddsOfLong) rfl 2 (c' := (20, [.ref 48, .ref 22, .int a2, .int a3, .int a4, .int a5, .int (a6 + 1), .int r2], [], M3)) (ob := True ∧ True ∧ True) rfl ⟨trivial, trivial, trivial⟩ ?_
      exact jRun.weak (by simp [jFew]) h
    · have h := h.2 g
      refine jRun.call (k := jk_X4_oddsOfLong) rfl 4 (f := q_X4_power) (As := [.int a3, .int r2]) (c1 := (124, [.ref 48, .ref 22, .int a2, .int a3, .int a4, .int a5, .int a6, .int r2], [.int a5], M3)) (ob := True ∧ True ∧ True ∧ True) rfl ⟨trivial, trivial, trivial, trivial⟩ h (fun v M4 h => ?_)
      obtain ⟨r4, rfl, h⟩ := h
      show jRun X T0 (d + 1) q_X4_oddsOfLong (124, [.ref 48, .ref 22, .int a2, .int a3, .int a4, .int a5, .int a6, .int r2], [.int r4, .int a5], M4) Q
      refine jRun.call (k := jk_X4_oddsOfLong) rfl 7 (f := q_X4_power) (As := [.int (10 - a3), .int (a4 - r2)]) (c1 := (136, [.ref 48, .ref 22, .int a2, .int a3, .int a4, .int a5, .int a6, .int r2], [.int r4, .int a5], M4)) (ob := True ∧ True ∧ True ∧ True ∧ True ∧ True ∧ True) rfl ⟨trivial, trivial, trivial, trivial, trivial, trivial, trivial⟩ h (fun v M5 h => ?_)
      obtain ⟨r5, rfl, h⟩ := h
      show jRun X T0 (d + 1) q_X4_oddsOfLong (136, [.ref 48, .ref 22, .int a2, .int a3, .int a4, .int a5, .int a6, .int r2], [.int r5, .int r4, .int a5], M5) Q
      refine jRun.cut (k := jk_X4_oddsOfLong) rfl 5 (c' := (20, [.ref 48, .ref 22, .int a2, .int a3, .int a4, .int (a5 + (r4 * r5)), .int (a6 + 1), .int r2], [], M5)) (ob := True ∧ True ∧ True ∧ True ∧ True ∧ True) rfl ⟨trivial, trivial, trivial, trivial, trivial, trivial⟩ ?_
      exact jRun.weak (by simp [jFew]) h
  · have h := h.2 g
    obtain ⟨o1, o2, h⟩ := h
    refine jRun.cut (k := jk_X4_oddsOfLong) rfl 21 (c' := (74, [.ref 48, .ref 22, .int a2, .int a3, .int a4, .int a5, .int a6, .int a7], [], (jP M 50 ((M 53 a7.toNatClampNeg).toNatClampNeg) ((M 23 (M 53 a7.toNatClampNeg).toNatClampNeg) + ((a6 >>> (a7 &&& 31)) &&& 1))))) (ob := True ∧ jKd T0 48 = 4 ∧ jKd T0 49 = 5 ∧ True ∧ jKd T0 48 = 4 ∧ True ∧ (jKd T0 53 = 9 ∧ vp_in a7 6) ∧ True ∧ jKd T0 22 = 5 ∧ True ∧ jKd T0 48 = 4 ∧ True ∧ (jKd T0 53 = 9 ∧ vp_in a7 6) ∧ (jKd T0 23 = 9 ∧ vp_in (M 53 a7.toNatClampNeg) 32) ∧ True ∧ True ∧ True ∧ True ∧ True ∧ True ∧ (jKd T0 50 = 9 ∧ vp_in (M 53 a7.toNatClampNeg) 32) ∧ True) rfl ⟨trivial, rfl, rfl, trivial, rfl, trivial, ⟨rfl, o1⟩, trivial, rfl, trivial, rfl, trivial, ⟨rfl, o1⟩, ⟨rfl, o2⟩, trivial, trivial, trivial, trivial, trivial, trivial, ⟨rfl, o2⟩, trivial⟩ ?_
    refine jRun.nm (fun M6 eM6 => ?_)
    have h := h M6 eM6
    refine jRun.cut (k := jk_X4_oddsOfLong) rfl 2 (c' := (32, [.ref 48, .ref 22, .int a2, .int a3, .int a4, .int a5, .int a6, .int (a7 + 1)], [], M6)) (ob := True ∧ True ∧ True) rfl ⟨trivial, trivial, trivial⟩ ?_
    exact h
theorem v_X4_leastWith {X : jX} {d : Nat} (hI : jInj X T0) (a1 : Int32) (a2 : Int32) (a3 : Int32) (M : jMem) (Q : Option Value → jMem → Prop) (h : ((0 < a3 → jRun X T0 (d + 1) q_X4_leastWith (22, [.ref 48, .int a1, .int a2, .int a3, .int 0, .null], [], M) Q) ∧ (¬ 0 < a3 → jOk X T0 d q_X4_servesAllBy [.ref 48, .int a1] M (fun v M1 => ∃ r1, v = some (.int r1) ∧ ((r1 = 0 → Q (some (.int (-9))) M1) ∧ (¬ r1 = 0 → Q (some (.int a1)) M1)))))) : jOk X T0 (d + 1) q_X4_leastWith [.ref 48, .int a1, .int a2, .int a3] M Q := by
  refine jOk.intro (ml := 6) (ls := [.ref 48, .int a1, .int a2, .int a3, .null, .null]) (jTl (by decide)) rfl (Nat.le_of_ble_eq_true rfl) rfl hI ?_
  refine jRun.cut (k := jk_X4_leastWith) rfl 2 (c' := (if 0 < a3 then 19 else 4, [.ref 48, .int a1, .int a2, .int a3, .null, .null], [], M)) (ob := True ∧ True ∧ True) rfl ⟨trivial, trivial, trivial⟩ ?_
  refine jRun.br (fun g => ?_) (fun g => ?_)
  · have h := h.1 g
    refine jRun.cut (k := jk_X4_leastWith) rfl 2 (c' := (22, [.ref 48, .int a1, .int a2, .int a3, .int 0, .null], [], M)) (ob := True ∧ True ∧ True) rfl ⟨trivial, trivial, trivial⟩ ?_
    exact h
  · have h := h.2 g
    refine jRun.call (k := jk_X4_leastWith) rfl 3 (f := q_X4_servesAllBy) (As := [.ref 48, .int a1]) (c1 := (9, [.ref 48, .int a1, .int a2, .int a3, .null, .null], [], M)) (ob := True ∧ True ∧ jKd T0 48 = 4) rfl ⟨trivial, trivial, rfl⟩ h (fun v M1 h => ?_)
    obtain ⟨r1, rfl, h⟩ := h
    show jRun X T0 (d + 1) q_X4_leastWith (9, [.ref 48, .int a1, .int a2, .int a3, .null, .null], [.int r1], M1) Q
    refine jRun.cut (k := jk_X4_leastWith) rfl 1 (c' := (if r1 = 0 then 16 else 12, [.ref 48, .int a1, .int a2, .int a3, .null, .null], [], M1)) (ob := True ∧ True) rfl ⟨trivial, trivial⟩ ?_
    refine jRun.br (fun g => ?_) (fun g => ?_)
    · have h := h.1 g
      exact jRun.ret (k := jk_X4_leastWith) rfl 2 (v := some (.int (-9))) (M1 := M1) (ob := True ∧ True) rfl ⟨trivial, trivial⟩ h
    · have h := h.2 g
      exact jRun.ret (k := jk_X4_leastWith) rfl 3 (v := some (.int a1)) (M1 := M1) (ob := True ∧ True ∧ True) rfl ⟨trivial, trivial, trivial⟩ h
theorem v_X4_leastWith_22 {X : jX} {d : Nat} (a1 : Int32) (a2 : Int32) (a3 : Int32) (a4 : Int32) (M : jMem) (Q : Option Value → jMem → Prop) (h : ((a2 ≤ a4 → Q (some (.int (-9))) M) ∧ (¬ a2 ≤ a4 → jOk X T0 d q_X3_hasLabel [.ref 12, .int (a4 - a4 / 8 * 8)] M (fun v M1 => ∃ r1, v = some (.int r1) ∧ ((¬ r1 = 0 → jOk X T0 d q_X4_leastWith [.ref 48, .int (a1 ||| (1 <<< (a4 &&& 31))), .int a4, .int (a3 - 1)] M1 (fun v M2 => ∃ r2, v = some (.int r2) ∧ ((r2 < 0 → jRun X T0 (d + 1) q_X4_leastWith (22, [.ref 48, .int a1, .int a2, .int a3, .int (a4 + 1), .null], [], M2) Q) ∧ (¬ r2 < 0 → Q (some (.int r2)) M2)))) ∧ (r1 = 0 → jRun X T0 (d + 1) q_X4_leastWith (22, [.ref 48, .int a1, .int a2, .int a3, .int (a4 + 1), .null], [], M1) Q)))))) : jRun X T0 (d + 1) q_X4_leastWith (22, [.ref 48, .int a1, .int a2, .int a3, .int a4, .null], [], M) Q := by
  refine jRun.cut (k := jk_X4_leastWith) rfl 3 (c' := (if a2 ≤ a4 then 77 else 28, [.ref 48, .int a1, .int a2, .int a3, .int a4, .null], [], M)) (ob := True ∧ True ∧ True ∧ True) rfl ⟨trivial, trivial, trivial, trivial⟩ ?_
  refine jRun.br (fun g => ?_) (fun g => ?_)
  · have h := h.1 g
    exact jRun.ret (k := jk_X4_leastWith) rfl 2 (v := some (.int (-9))) (M1 := M) (ob := True ∧ True) rfl ⟨trivial, trivial⟩ h
  · have h := h.2 g
    refine jRun.call (k := jk_X4_leastWith) rfl 6 (f := q_X3_hasLabel) (As := [.ref 12, .int (a4 - a4 / 8 * 8)]) (c1 := (40, [.ref 48, .int a1, .int a2, .int a3, .int a4, .null], [], M)) (ob := True ∧ jKd T0 48 = 4 ∧ True ∧ True ∧ ¬ 8 = 0 ∧ jKd T0 12 = 3) rfl ⟨trivial, rfl, trivial, trivial, (by decide), rfl⟩ h (fun v M1 h => ?_)
    obtain ⟨r1, rfl, h⟩ := h
    show jRun X T0 (d + 1) q_X4_leastWith (40, [.ref 48, .int a1, .int a2, .int a3, .int a4, .null], [.int r1], M1) Q
    refine jRun.cut (k := jk_X4_leastWith) rfl 1 (c' := (if ¬ r1 = 0 then 46 else 43, [.ref 48, .int a1, .int a2, .int a3, .int a4, .null], [], M1)) (ob := True ∧ True) rfl ⟨trivial, trivial⟩ ?_
    refine jRun.brn (fun g => ?_) (fun g => ?_)
    · have h := h.1 g
      refine jRun.call (k := jk_X4_leastWith) rfl 11 (f := q_X4_leastWith) (As := [.ref 48, .int (a1 ||| (1 <<< (a4 &&& 31))), .int a4, .int (a3 - 1)]) (c1 := (61, [.ref 48, .int a1, .int a2, .int a3, .int a4, .null], [], M1)) (ob := True ∧ True ∧ True ∧ True ∧ True ∧ True ∧ True ∧ True ∧ True ∧ True ∧ True) rfl ⟨trivial, trivial, trivial, trivial, trivial, trivial, trivial, trivial, trivial, trivial, trivial⟩ h (fun v M2 h => ?_)
      obtain ⟨r2, rfl, h⟩ := h
      show jRun X T0 (d + 1) q_X4_leastWith (61, [.ref 48, .int a1, .int a2, .int a3, .int a4, .null], [.int r2], M2) Q
      refine jRun.cut (k := jk_X4_leastWith) rfl 3 (c' := (if r2 < 0 then 71 else 68, [.ref 48, .int a1, .int a2, .int a3, .int a4, .int r2], [], M2)) (ob := True ∧ True ∧ True ∧ True) rfl ⟨trivial, trivial, trivial, trivial⟩ ?_
      refine jRun.br (fun g => ?_) (fun g => ?_)
      · have h := h.1 g
        refine jRun.cut (k := jk_X4_leastWith) rfl 2 (c' := (22, [.ref 48, .int a1, .int a2, .int a3, .int (a4 + 1), .int r2], [], M2)) (ob := True ∧ True ∧ True) rfl ⟨trivial, trivial, trivial⟩ ?_
        exact jRun.weak (by simp [jFew]) h
      · have h := h.2 g
        exact jRun.ret (k := jk_X4_leastWith) rfl 2 (v := some (.int r2)) (M1 := M2) (ob := True ∧ True) rfl ⟨trivial, trivial⟩ h
    · have h := h.2 g
      refine jRun.cut (k := jk_X4_leastWith) rfl 3 (c' := (22, [.ref 48, .int a1, .int a2, .int a3, .int (a4 + 1), .null], [], M1)) (ob := True ∧ True ∧ True ∧ True) rfl ⟨trivial, trivial, trivial, trivial⟩ ?_
      exact h
theorem v_X4_servesAllBy {X : jX} {d : Nat} (hI : jInj X T0) (a1 : Int32) (M : jMem) (Q : Option Value → jMem → Prop) (h : (∀ M1, M1 = jP M 49 2 a1 → jOk X T0 d q_X5_islandsIn [.ref 49, .int 0] M1 (fun v M2 => ∃ r1, v = some (.int r1) ∧ jOk X T0 d q_X5_islandsIn [.ref 49, .int 1] M2 (fun v M3 => ∃ r2, v = some (.int r2) ∧ jOk X T0 d q_X5_islandsIn [.ref 49, .int 2] M3 (fun v M4 => ∃ r3, v = some (.int r3) ∧ ((((r1 ||| (r2 <<< (4 &&& 31))) ||| (r3 <<< (8 &&& 31))) = (M4 48 4) → jOk X T0 d q_X1_servesAll [.ref 51, .ref 49] M4 (fun v M5 => ∃ r4, v = some (.int r4) ∧ (r4 = 0 ∨ r4 = 1) ∧ Q (some (.int r4)) M5)) ∧ (¬ ((r1 ||| (r2 <<< (4 &&& 31))) ||| (r3 <<< (8 &&& 31))) = (M4 48 4) → jOk X T0 d q_X1_growFrom [.ref 51, .ref 49, .int (M4 49 1)] M4 (fun v M6 => v = none ∧ (∀ M7, M7 = jP M6 48 4 ((r1 ||| (r2 <<< (4 &&& 31))) ||| (r3 <<< (8 &&& 31))) → jOk X T0 d q_X1_servesAll [.ref 51, .ref 49] M7 (fun v M8 => ∃ r6, v = some (.int r6) ∧ (r6 = 0 ∨ r6 = 1) ∧ Q (some (.int r6)) M8)))))))))) : jOk X T0 (d + 1) q_X4_servesAllBy [.ref 48, .int a1] M Q := by
  refine jOk.intro (ml := 3) (ls := [.ref 48, .int a1, .null]) (jTl (by decide)) rfl (Nat.le_of_ble_eq_true rfl) rfl hI ?_
  refine jRun.cut (k := jk_X4_servesAllBy) rfl 4 (c' := (8, [.ref 48, .int a1, .null], [], (jP M 49 2 a1))) (ob := True ∧ jKd T0 48 = 4 ∧ True ∧ jKd T0 49 = 5 ∧ True) rfl ⟨trivial, rfl, trivial, rfl, trivial⟩ ?_
  refine jRun.nm (fun M1 eM1 => ?_)
  have h := h M1 eM1
  refine jRun.call (k := jk_X4_servesAllBy) rfl 4 (f := q_X5_islandsIn) (As := [.ref 49, .int 0]) (c1 := (16, [.ref 48, .int a1, .null], [], M1)) (ob := True ∧ jKd T0 48 = 4 ∧ True ∧ jKd T0 49 = 5) rfl ⟨trivial, rfl, trivial, rfl⟩ h (fun v M2 h => ?_)
  obtain ⟨r1, rfl, h⟩ := h
  show jRun X T0 (d + 1) q_X4_servesAllBy (16, [.ref 48, .int a1, .null], [.int r1], M2) Q
  refine jRun.call (k := jk_X4_servesAllBy) rfl 4 (f := q_X5_islandsIn) (As := [.ref 49, .int 1]) (c1 := (24, [.ref 48, .int a1, .null], [.int r1], M2)) (ob := True ∧ jKd T0 48 = 4 ∧ True ∧ jKd T0 49 = 5) rfl ⟨trivial, rfl, trivial, rfl⟩ h (fun v M3 h => ?_)
  obtain ⟨r2, rfl, h⟩ := h
  show jRun X T0 (d + 1) q_X4_servesAllBy (24, [.ref 48, .int a1, .null], [.int r2, .int r1], M3) Q
  refine jRun.call (k := jk_X4_servesAllBy) rfl 7 (f := q_X5_islandsIn) (As := [.ref 49, .int 2]) (c1 := (35, [.ref 48, .int a1, .null], [.int (r1 ||| (r2 <<< (4 &&& 31)))], M3)) (ob := True ∧ True ∧ True ∧ True ∧ jKd T0 48 = 4 ∧ True ∧ jKd T0 49 = 5) rfl ⟨trivial, trivial, trivial, trivial, rfl, trivial, rfl⟩ h (fun v M4 h => ?_)
  obtain ⟨r3, rfl, h⟩ := h
  show jRun X T0 (d + 1) q_X4_servesAllBy (35, [.ref 48, .int a1, .null], [.int r3, .int (r1 ||| (r2 <<< (4 &&& 31)))], M4) Q
  refine jRun.cut (k := jk_X4_servesAllBy) rfl 8 (c' := (if ((r1 ||| (r2 <<< (4 &&& 31))) ||| (r3 <<< (8 &&& 31))) = (M4 48 4) then 71 else 48, [.ref 48, .int a1, .int ((r1 ||| (r2 <<< (4 &&& 31))) ||| (r3 <<< (8 &&& 31)))], [], M4)) (ob := True ∧ True ∧ True ∧ True ∧ True ∧ True ∧ jKd T0 48 = 4 ∧ True ∧ True) rfl ⟨trivial, trivial, trivial, trivial, trivial, trivial, rfl, trivial, trivial⟩ ?_
  refine jRun.br (fun g => ?_) (fun g => ?_)
  · have h := h.1 g
    refine jRun.call (k := jk_X4_servesAllBy) rfl 5 (f := q_X1_servesAll) (As := [.ref 51, .ref 49]) (c1 := (82, [.ref 48, .int a1, .int ((r1 ||| (r2 <<< (4 &&& 31))) ||| (r3 <<< (8 &&& 31)))], [], M4)) (ob := True ∧ jKd T0 48 = 4 ∧ True ∧ jKd T0 48 = 4 ∧ jKd T0 51 = 1) rfl ⟨trivial, rfl, trivial, rfl, rfl⟩ h (fun v M5 h => ?_)
    obtain ⟨r4, rfl, h⟩ := h
    show jRun X T0 (d + 1) q_X4_servesAllBy (82, [.ref 48, .int a1, .int ((r1 ||| (r2 <<< (4 &&& 31))) ||| (r3 <<< (8 &&& 31)))], [.int r4], M5) Q
    obtain ⟨o1, h⟩ := h
    exact jRun.ret (k := jk_X4_servesAllBy) rfl 1 (v := some (.int r4)) (M1 := M5) (ob := (r4 = 0 ∨ r4 = 1)) rfl o1 h
  · have h := h.2 g
    refine jRun.call (k := jk_X4_servesAllBy) rfl 8 (f := q_X1_growFrom) (As := [.ref 51, .ref 49, .int (M4 49 1)]) (c1 := (66, [.ref 48, .int a1, .int ((r1 ||| (r2 <<< (4 &&& 31))) ||| (r3 <<< (8 &&& 31)))], [], M4)) (ob := True ∧ jKd T0 48 = 4 ∧ True ∧ jKd T0 48 = 4 ∧ True ∧ jKd T0 48 = 4 ∧ jKd T0 49 = 5 ∧ jKd T0 51 = 1) rfl ⟨trivial, rfl, trivial, rfl, trivial, rfl, rfl, rfl⟩ h (fun v M6 h => ?_)
    obtain ⟨rfl, h⟩ := h
    show jRun X T0 (d + 1) q_X4_servesAllBy (66, [.ref 48, .int a1, .int ((r1 ||| (r2 <<< (4 &&& 31))) ||| (r3 <<< (8 &&& 31)))], [], M6) Q
    refine jRun.cut (k := jk_X4_servesAllBy) rfl 3 (c' := (71, [.ref 48, .int a1, .int ((r1 ||| (r2 <<< (4 &&& 31))) ||| (r3 <<< (8 &&& 31)))], [], (jP M6 48 4 ((r1 ||| (r2 <<< (4 &&& 31))) ||| (r3 <<< (8 &&& 31)))))) (ob := True ∧ True ∧ jKd T0 48 = 4 ∧ True) rfl ⟨trivial, trivial, rfl, trivial⟩ ?_
    refine jRun.nm (fun M7 eM7 => ?_)
    have h := h M7 eM7
    refine jRun.call (k := jk_X4_servesAllBy) rfl 5 (f := q_X1_servesAll) (As := [.ref 51, .ref 49]) (c1 := (82, [.ref 48, .int a1, .int ((r1 ||| (r2 <<< (4 &&& 31))) ||| (r3 <<< (8 &&& 31)))], [], M7)) (ob := True ∧ jKd T0 48 = 4 ∧ True ∧ jKd T0 48 = 4 ∧ jKd T0 51 = 1) rfl ⟨trivial, rfl, trivial, rfl, rfl⟩ h (fun v M8 h => ?_)
    obtain ⟨r6, rfl, h⟩ := h
    show jRun X T0 (d + 1) q_X4_servesAllBy (82, [.ref 48, .int a1, .int ((r1 ||| (r2 <<< (4 &&& 31))) ||| (r3 <<< (8 &&& 31)))], [.int r6], M8) Q
    obtain ⟨o2, h⟩ := h
    exact jRun.ret (k := jk_X4_servesAllBy) rfl 1 (v := some (.int r6)) (M1 := M8) (ob := (r6 = 0 ∨ r6 = 1)) rfl o2 h
theorem v_X4_findFirstOps {X : jX} {d : Nat} (hI : jInj X T0)  (M : jMem) (Q : Option Value → jMem → Prop) (h : jRun X T0 d q_X4_findFirstOps (4, [.ref 48, .int 0, .int 0], [], M) Q) : jOk X T0 d q_X4_findFirstOps [.ref 48] M Q := by
  refine jOk.intro (ml := 3) (ls := [.ref 48, .null, .null]) (jTl (by decide)) rfl (Nat.le_of_ble_eq_true rfl) rfl hI ?_
  refine jRun.cut (k := jk_X4_findFirstOps) rfl 4 (c' := (4, [.ref 48, .int 0, .int 0], [], M)) (ob := True ∧ True ∧ True ∧ True ∧ True) rfl ⟨trivial, trivial, trivial, trivial, trivial⟩ ?_
  exact h
theorem v_X4_findFirstOps_4 {X : jX} {d : Nat} (a1 : Int32) (a2 : Int32) (M : jMem) (Q : Option Value → jMem → Prop) (h : (((M 12 8) ≤ a2 → Q (some (.int a1)) M) ∧ (¬ (M 12 8) ≤ a2 → ((6 ≤ a1 → Q (some (.int a1)) M) ∧ (¬ 6 ≤ a1 → vp_in a2 32 ∧ ((¬ (M 13 a2.toNatClampNeg) = 0 → jRun X T0 d q_X4_findFirstOps (4, [.ref 48, .int a1, .int (a2 + 1)], [], M) Q) ∧ ((M 13 a2.toNatClampNeg) = 0 → vp_in a1 6 ∧ (∀ M1, M1 = jP M 53 a1.toNatClampNeg a2 → jRun X T0 d q_X4_findFirstOps (4, [.ref 48, .int (a1 + 1), .int (a2 + 1)], [], M1) Q)))))))) : jRun X T0 d q_X4_findFirstOps (4, [.ref 48, .int a1, .int a2], [], M) Q := by
  refine jRun.cut (k := jk_X4_findFirstOps) rfl 5 (c' := (if (M 12 8) ≤ a2 then 49 else 15, [.ref 48, .int a1, .int a2], [], M)) (ob := True ∧ True ∧ jKd T0 48 = 4 ∧ jKd T0 12 = 3 ∧ True ∧ True) rfl ⟨trivial, trivial, rfl, rfl, trivial, trivial⟩ ?_
  refine jRun.br (fun g => ?_) (fun g => ?_)
  · have h := h.1 g
    exact jRun.ret (k := jk_X4_findFirstOps) rfl 2 (v := some (.int a1)) (M1 := M) (ob := True ∧ True) rfl ⟨trivial, trivial⟩ h
  · have h := h.2 g
    refine jRun.cut (k := jk_X4_findFirstOps) rfl 3 (c' := (if 6 ≤ a1 then 49 else 21, [.ref 48, .int a1, .int a2], [], M)) (ob := True ∧ True ∧ True ∧ True) rfl ⟨trivial, trivial, trivial, trivial⟩ ?_
    refine jRun.br (fun g => ?_) (fun g => ?_)
    · have h := h.1 g
      exact jRun.ret (k := jk_X4_findFirstOps) rfl 2 (v := some (.int a1)) (M1 := M) (ob := True ∧ True) rfl ⟨trivial, trivial⟩ h
    · have h := h.2 g
      obtain ⟨o1, h⟩ := h
      refine jRun.cut (k := jk_X4_findFirstOps) rfl 6 (c' := (if ¬ (M 13 a2.toNatClampNeg) = 0 then 43 else 33, [.ref 48, .int a1, .int a2], [], M)) (ob := True ∧ jKd T0 48 = 4 ∧ jKd T0 12 = 3 ∧ True ∧ (jKd T0 13 = 9 ∧ vp_in a2 32) ∧ True ∧ True) rfl ⟨trivial, rfl, rfl, trivial, ⟨rfl, o1⟩, trivial, trivial⟩ ?_
      refine jRun.brn (fun g => ?_) (fun g => ?_)
      · have h := h.1 g
        refine jRun.cut (k := jk_X4_findFirstOps) rfl 2 (c' := (4, [.ref 48, .int a1, .int (a2 + 1)], [], M)) (ob := True ∧ True ∧ True) rfl ⟨trivial, trivial, trivial⟩ ?_
        exact h
      · have h := h.2 g
        obtain ⟨o2, h⟩ := h
        refine jRun.cut (k := jk_X4_findFirstOps) rfl 6 (c' := (43, [.ref 48, .int (a1 + 1), .int a2], [], (jP M 53 a1.toNatClampNeg a2))) (ob := True ∧ jKd T0 48 = 4 ∧ True ∧ True ∧ True ∧ (jKd T0 53 = 9 ∧ vp_in a1 6) ∧ True) rfl ⟨trivial, rfl, trivial, trivial, trivial, ⟨rfl, o2⟩, trivial⟩ ?_
        refine jRun.nm (fun M1 eM1 => ?_)
        have h := h M1 eM1
        refine jRun.cut (k := jk_X4_findFirstOps) rfl 2 (c' := (4, [.ref 48, .int (a1 + 1), .int (a2 + 1)], [], M1)) (ob := True ∧ True ∧ True) rfl ⟨trivial, trivial, trivial⟩ ?_
        exact h
theorem v_X4_power {X : jX} {d : Nat} (hI : jInj X T0) (a0 : Int32) (a1 : Int32) (M : jMem) (Q : Option Value → jMem → Prop) (h : jRun X T0 d q_X4_power (4, [.int a0, .int a1, .int 1, .int 0], [], M) Q) : jOk X T0 d q_X4_power [.int a0, .int a1] M Q := by
  refine jOk.intro (ml := 4) (ls := [.int a0, .int a1, .null, .null]) (jTl (by decide)) rfl (Nat.le_of_ble_eq_true rfl) rfl hI ?_
  refine jRun.cut (k := jk_X4_power) rfl 4 (c' := (4, [.int a0, .int a1, .int 1, .int 0], [], M)) (ob := True ∧ True ∧ True ∧ True ∧ True) rfl ⟨trivial, trivial, trivial, trivial, trivial⟩ ?_
  exact h
theorem v_X4_power_4 {X : jX} {d : Nat} (a0 : Int32) (a1 : Int32) (a2 : Int32) (a3 : Int32) (M : jMem) (Q : Option Value → jMem → Prop) (h : ((a1 ≤ a3 → Q (some (.int a2)) M) ∧ (¬ a1 ≤ a3 → jRun X T0 d q_X4_power (4, [.int a0, .int a1, .int (a2 * a0), .int (a3 + 1)], [], M) Q))) : jRun X T0 d q_X4_power (4, [.int a0, .int a1, .int a2, .int a3], [], M) Q := by
  refine jRun.cut (k := jk_X4_power) rfl 3 (c' := (if a1 ≤ a3 then 19 else 9, [.int a0, .int a1, .int a2, .int a3], [], M)) (ob := True ∧ True ∧ True ∧ True) rfl ⟨trivial, trivial, trivial, trivial⟩ ?_
  refine jRun.br (fun g => ?_) (fun g => ?_)
  · have h := h.1 g
    exact jRun.ret (k := jk_X4_power) rfl 2 (v := some (.int a2)) (M1 := M) (ob := True ∧ True) rfl ⟨trivial, trivial⟩ h
  · have h := h.2 g
    refine jRun.cut (k := jk_X4_power) rfl 6 (c' := (4, [.int a0, .int a1, .int (a2 * a0), .int (a3 + 1)], [], M)) (ob := True ∧ True ∧ True ∧ True ∧ True ∧ True ∧ True) rfl ⟨trivial, trivial, trivial, trivial, trivial, trivial, trivial⟩ ?_
    exact h
