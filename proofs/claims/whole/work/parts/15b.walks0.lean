def T0 : jT := [(7, 0, [1, 3, 12, 21, 28, 35, 42, 44, 46, 48]), (6, 0, [2]), (9, 150, []), (3, 0, [4, 5, 6, 7, 8, 9, 10, 11]), (9, 32, []), (9, 32, []), (9, 32, []), (9, 32, []), (9, 8, []), (9, 10, []), (9, 6, []), (9, 3, []), (3, 0, [13, 14, 15, 16, 17, 18, 19, 20]), (9, 32, []), (9, 32, []), (9, 32, []), (9, 32, []), (9, 8, []), (9, 10, []), (9, 6, []), (9, 3, []), (0, 0, [22, 24]), (5, 0, [23]), (9, 32, []), (2, 0, [25, 26, 27]), (9, 10, []), (9, 10, []), (9, 10, []), (0, 0, [29, 31]), (5, 0, [30]), (9, 32, []), (2, 0, [32, 33, 34]), (9, 10, []), (9, 10, []), (9, 10, []), (0, 0, [36, 38]), (5, 0, [37]), (9, 32, []), (2, 0, [39, 40, 41]), (9, 10, []), (9, 10, []), (9, 10, []), (1, 0, [12, 43]), (9, 33, []), (1, 0, [12, 45]), (9, 33, []), (1, 0, [12, 47]), (9, 33, []), (4, 0, [12, 49, 51, 53]), (5, 0, [50]), (9, 32, []), (1, 0, [12, 52]), (9, 33, []), (9, 6, []), (8, 0, [0, 55, 0, 0, 0, 0, 0, 0, 0, 56, 57, 58, 0, 59, 0, 60, 0, 61, 0, 62, 0, 63, 64, 65, 66, 67, 68, 0, 0, 69, 0, 0, 70]), (9, 150, []), (9, 32, []), (9, 36, []), (9, 10, []), (9, 6, []), (9, 3, []), (9, 8, []), (9, 360, []), (10, 2, []), (9, 72, []), (9, 720, []), (9, 2, []), (9, 32, []), (9, 32, []), (9, 33, []), (9, 3, [])]
def jLS (L A S Z : Nat) : Prop := (L = 42 ∧ A = 43 ∧ S = 22 ∧ Z = 23) ∨ (L = 44 ∧ A = 45 ∧ S = 22 ∧ Z = 23) ∨ (L = 46 ∧ A = 47 ∧ S = 22 ∧ Z = 23) ∨ (L = 51 ∧ A = 52 ∧ S = 49 ∧ Z = 50)
def jSZ (S Z : Nat) : Prop := (S = 22 ∧ Z = 23) ∨ (S = 49 ∧ Z = 50)
theorem v_X1_size {X : jX} {d : Nat} (hI : jInj X T0) {L A S Z : Nat} (hv : jLS L A S Z)  (M : jMem) (Q : Option Value → jMem → Prop) (h : vp_in (M 12 8) 33 ∧ Q (some (.int (M A (M 12 8).toNatClampNeg))) M) : jOk X T0 d q_X1_size [.ref L] M Q := by
  rcases hv with ⟨rfl, rfl, rfl, rfl⟩ | ⟨rfl, rfl, rfl, rfl⟩ | ⟨rfl, rfl, rfl, rfl⟩ | ⟨rfl, rfl, rfl, rfl⟩
  · refine jOk.intro (ml := 1) (ls := [.ref 42]) (jTl (by decide)) rfl (Nat.le_of_ble_eq_true rfl) rfl hI ?_
    obtain ⟨o1, h⟩ := h
    exact jRun.ret (k := jk_X1_size) rfl 7 (v := some (.int (M 43 (M 12 8).toNatClampNeg))) (M1 := M) (ob := True ∧ jKd T0 42 = 1 ∧ True ∧ jKd T0 42 = 1 ∧ jKd T0 12 = 3 ∧ (jKd T0 43 = 9 ∧ vp_in (M 12 8) 33) ∧ True) rfl ⟨trivial, rfl, trivial, rfl, rfl, ⟨rfl, o1⟩, trivial⟩ h
  · refine jOk.intro (ml := 1) (ls := [.ref 44]) (jTl (by decide)) rfl (Nat.le_of_ble_eq_true rfl) rfl hI ?_
    obtain ⟨o1, h⟩ := h
    exact jRun.ret (k := jk_X1_size) rfl 7 (v := some (.int (M 45 (M 12 8).toNatClampNeg))) (M1 := M) (ob := True ∧ jKd T0 44 = 1 ∧ True ∧ jKd T0 44 = 1 ∧ jKd T0 12 = 3 ∧ (jKd T0 45 = 9 ∧ vp_in (M 12 8) 33) ∧ True) rfl ⟨trivial, rfl, trivial, rfl, rfl, ⟨rfl, o1⟩, trivial⟩ h
  · refine jOk.intro (ml := 1) (ls := [.ref 46]) (jTl (by decide)) rfl (Nat.le_of_ble_eq_true rfl) rfl hI ?_
    obtain ⟨o1, h⟩ := h
    exact jRun.ret (k := jk_X1_size) rfl 7 (v := some (.int (M 47 (M 12 8).toNatClampNeg))) (M1 := M) (ob := True ∧ jKd T0 46 = 1 ∧ True ∧ jKd T0 46 = 1 ∧ jKd T0 12 = 3 ∧ (jKd T0 47 = 9 ∧ vp_in (M 12 8) 33) ∧ True) rfl ⟨trivial, rfl, trivial, rfl, rfl, ⟨rfl, o1⟩, trivial⟩ h
  · refine jOk.intro (ml := 1) (ls := [.ref 51]) (jTl (by decide)) rfl (Nat.le_of_ble_eq_true rfl) rfl hI ?_
    obtain ⟨o1, h⟩ := h
    exact jRun.ret (k := jk_X1_size) rfl 7 (v := some (.int (M 52 (M 12 8).toNatClampNeg))) (M1 := M) (ob := True ∧ jKd T0 51 = 1 ∧ True ∧ jKd T0 51 = 1 ∧ jKd T0 12 = 3 ∧ (jKd T0 52 = 9 ∧ vp_in (M 12 8) 33) ∧ True) rfl ⟨trivial, rfl, trivial, rfl, rfl, ⟨rfl, o1⟩, trivial⟩ h
theorem v_X1_growFrom {X : jX} {d : Nat} (hI : jInj X T0) {L A S Z : Nat} (hv : jLS L A S Z) (a2 : Int32) (M : jMem) (Q : Option Value → jMem → Prop) (h : jOk X T0 d q_X1_lay [.ref L, .ref S, .int a2] M (fun v M1 => v = none ∧ (∀ M2, M2 = jP M1 L 3 0 → jRun X T0 (d + 1) q_X1_growFrom (13, [.ref L, .ref S, .int a2, .int 0, .null], [], M2) Q))) : jOk X T0 (d + 1) q_X1_growFrom [.ref L, .ref S, .int a2] M Q := by
  rcases hv with ⟨rfl, rfl, rfl, rfl⟩ | ⟨rfl, rfl, rfl, rfl⟩ | ⟨rfl, rfl, rfl, rfl⟩ | ⟨rfl, rfl, rfl, rfl⟩
  · refine jOk.intro (ml := 5) (ls := [.ref 42, .ref 22, .int a2, .null, .null]) (jTl (by decide)) rfl (Nat.le_of_ble_eq_true rfl) rfl hI ?_
    refine jRun.call (k := jk_X1_growFrom) rfl 4 (f := q_X1_lay) (As := [.ref 42, .ref 22, .int a2]) (c1 := (6, [.ref 42, .ref 22, .int a2, .null, .null], [], M)) (ob := True ∧ True ∧ True ∧ jKd T0 42 = 1) rfl ⟨trivial, trivial, trivial, rfl⟩ h (fun v M1 h => ?_)
    obtain ⟨rfl, h⟩ := h
    show jRun X T0 (d + 1) q_X1_growFrom (6, [.ref 42, .ref 22, .int a2, .null, .null], [], M1) Q
    refine jRun.cut (k := jk_X1_growFrom) rfl 3 (c' := (11, [.ref 42, .ref 22, .int a2, .null, .null], [], (jP M1 42 3 0))) (ob := True ∧ True ∧ jKd T0 42 = 1 ∧ True) rfl ⟨trivial, trivial, rfl, trivial⟩ ?_
    refine jRun.nm (fun M2 eM2 => ?_)
    have h := h M2 eM2
    refine jRun.cut (k := jk_X1_growFrom) rfl 2 (c' := (13, [.ref 42, .ref 22, .int a2, .int 0, .null], [], M2)) (ob := True ∧ True ∧ True) rfl ⟨trivial, trivial, trivial⟩ ?_
    exact h
  · refine jOk.intro (ml := 5) (ls := [.ref 44, .ref 22, .int a2, .null, .null]) (jTl (by decide)) rfl (Nat.le_of_ble_eq_true rfl) rfl hI ?_
    refine jRun.call (k := jk_X1_growFrom) rfl 4 (f := q_X1_lay) (As := [.ref 44, .ref 22, .int a2]) (c1 := (6, [.ref 44, .ref 22, .int a2, .null, .null], [], M)) (ob := True ∧ True ∧ True ∧ jKd T0 44 = 1) rfl ⟨trivial, trivial, trivial, rfl⟩ h (fun v M1 h => ?_)
    obtain ⟨rfl, h⟩ := h
    show jRun X T0 (d + 1) q_X1_growFrom (6, [.ref 44, .ref 22, .int a2, .null, .null], [], M1) Q
    refine jRun.cut (k := jk_X1_growFrom) rfl 3 (c' := (11, [.ref 44, .ref 22, .int a2, .null, .null], [], (jP M1 44 3 0))) (ob := True ∧ True ∧ jKd T0 44 = 1 ∧ True) rfl ⟨trivial, trivial, rfl, trivial⟩ ?_
    refine jRun.nm (fun M2 eM2 => ?_)
    have h := h M2 eM2
    refine jRun.cut (k := jk_X1_growFrom) rfl 2 (c' := (13, [.ref 44, .ref 22, .int a2, .int 0, .null], [], M2)) (ob := True ∧ True ∧ True) rfl ⟨trivial, trivial, trivial⟩ ?_
    exact h
  · refine jOk.intro (ml := 5) (ls := [.ref 46, .ref 22, .int a2, .null, .null]) (jTl (by decide)) rfl (Nat.le_of_ble_eq_true rfl) rfl hI ?_
    refine jRun.call (k := jk_X1_growFrom) rfl 4 (f := q_X1_lay) (As := [.ref 46, .ref 22, .int a2]) (c1 := (6, [.ref 46, .ref 22, .int a2, .null, .null], [], M)) (ob := True ∧ True ∧ True ∧ jKd T0 46 = 1) rfl ⟨trivial, trivial, trivial, rfl⟩ h (fun v M1 h => ?_)
    obtain ⟨rfl, h⟩ := h
    show jRun X T0 (d + 1) q_X1_growFrom (6, [.ref 46, .ref 22, .int a2, .null, .null], [], M1) Q
    refine jRun.cut (k := jk_X1_growFrom) rfl 3 (c' := (11, [.ref 46, .ref 22, .int a2, .null, .null], [], (jP M1 46 3 0))) (ob := True ∧ True ∧ jKd T0 46 = 1 ∧ True) rfl ⟨trivial, trivial, rfl, trivial⟩ ?_
    refine jRun.nm (fun M2 eM2 => ?_)
    have h := h M2 eM2
    refine jRun.cut (k := jk_X1_growFrom) rfl 2 (c' := (13, [.ref 46, .ref 22, .int a2, .int 0, .null], [], M2)) (ob := True ∧ True ∧ True) rfl ⟨trivial, trivial, trivial⟩ ?_
    exact h
  · refine jOk.intro (ml := 5) (ls := [.ref 51, .ref 49, .int a2, .null, .null]) (jTl (by decide)) rfl (Nat.le_of_ble_eq_true rfl) rfl hI ?_
    refine jRun.call (k := jk_X1_growFrom) rfl 4 (f := q_X1_lay) (As := [.ref 51, .ref 49, .int a2]) (c1 := (6, [.ref 51, .ref 49, .int a2, .null, .null], [], M)) (ob := True ∧ True ∧ True ∧ jKd T0 51 = 1) rfl ⟨trivial, trivial, trivial, rfl⟩ h (fun v M1 h => ?_)
    obtain ⟨rfl, h⟩ := h
    show jRun X T0 (d + 1) q_X1_growFrom (6, [.ref 51, .ref 49, .int a2, .null, .null], [], M1) Q
    refine jRun.cut (k := jk_X1_growFrom) rfl 3 (c' := (11, [.ref 51, .ref 49, .int a2, .null, .null], [], (jP M1 51 3 0))) (ob := True ∧ True ∧ jKd T0 51 = 1 ∧ True) rfl ⟨trivial, trivial, rfl, trivial⟩ ?_
    refine jRun.nm (fun M2 eM2 => ?_)
    have h := h M2 eM2
    refine jRun.cut (k := jk_X1_growFrom) rfl 2 (c' := (13, [.ref 51, .ref 49, .int a2, .int 0, .null], [], M2)) (ob := True ∧ True ∧ True) rfl ⟨trivial, trivial, trivial⟩ ?_
    exact h
theorem v_X1_growFrom_13 {X : jX} {d : Nat} {L A S Z : Nat} (hv : jLS L A S Z) (a2 : Int32) (a3 : Int32) (M : jMem) (Q : Option Value → jMem → Prop) (h : ((10 ≤ a3 → Q none M) ∧ (¬ 10 ≤ a3 → jOk X T0 d q_X1_strandedJumps [.ref L, .ref S] M (fun v M1 => ∃ r1, v = some (.int r1) ∧ ((¬ r1 = 0 → (∀ M2, M2 = jP M1 L 3 ((M1 L 3) + 1) → jOk X T0 d q_X1_lay [.ref L, .ref S, .int ((M2 L 2) ||| r1)] M2 (fun v M3 => v = none ∧ jRun X T0 (d + 1) q_X1_growFrom (13, [.ref L, .ref S, .int a2, .int (a3 + 1), .null], [], M3) Q))) ∧ (r1 = 0 → Q none M1)))))) : jRun X T0 (d + 1) q_X1_growFrom (13, [.ref L, .ref S, .int a2, .int a3, .null], [], M) Q := by
  rcases hv with ⟨rfl, rfl, rfl, rfl⟩ | ⟨rfl, rfl, rfl, rfl⟩ | ⟨rfl, rfl, rfl, rfl⟩ | ⟨rfl, rfl, rfl, rfl⟩
  · refine jRun.cut (k := jk_X1_growFrom) rfl 3 (c' := (if 10 ≤ a3 then 60 else 19, [.ref 42, .ref 22, .int a2, .int a3, .null], [], M)) (ob := True ∧ True ∧ True ∧ True) rfl ⟨trivial, trivial, trivial, trivial⟩ ?_
    refine jRun.br (fun g => ?_) (fun g => ?_)
    · have h := h.1 g
      exact jRun.ret (k := jk_X1_growFrom) rfl 1 (v := none) (M1 := M) (ob := True) rfl trivial h
    · have h := h.2 g
      refine jRun.call (k := jk_X1_growFrom) rfl 3 (f := q_X1_strandedJumps) (As := [.ref 42, .ref 22]) (c1 := (24, [.ref 42, .ref 22, .int a2, .int a3, .null], [], M)) (ob := True ∧ True ∧ jKd T0 42 = 1) rfl ⟨trivial, trivial, rfl⟩ h (fun v M1 h => ?_)
      obtain ⟨r1, rfl, h⟩ := h
      show jRun X T0 (d + 1) q_X1_growFrom (24, [.ref 42, .ref 22, .int a2, .int a3, .null], [.int r1], M1) Q
      refine jRun.cut (k := jk_X1_growFrom) rfl 3 (c' := (if ¬ r1 = 0 then 32 else 31, [.ref 42, .ref 22, .int a2, .int a3, .int r1], [], M1)) (ob := True ∧ True ∧ True ∧ True) rfl ⟨trivial, trivial, trivial, trivial⟩ ?_
      refine jRun.brn (fun g => ?_) (fun g => ?_)
      · have h := h.1 g
        refine jRun.cut (k := jk_X1_growFrom) rfl 6 (c' := (42, [.ref 42, .ref 22, .int a2, .int a3, .int r1], [], (jP M1 42 3 ((M1 42 3) + 1)))) (ob := True ∧ True ∧ jKd T0 42 = 1 ∧ True ∧ True ∧ jKd T0 42 = 1 ∧ True) rfl ⟨trivial, trivial, rfl, trivial, trivial, rfl, trivial⟩ ?_
        refine jRun.nm (fun M2 eM2 => ?_)
        have h := h M2 eM2
        refine jRun.call (k := jk_X1_growFrom) rfl 7 (f := q_X1_lay) (As := [.ref 42, .ref 22, .int ((M2 42 2) ||| r1)]) (c1 := (54, [.ref 42, .ref 22, .int a2, .int a3, .int r1], [], M2)) (ob := True ∧ True ∧ True ∧ jKd T0 42 = 1 ∧ True ∧ True ∧ jKd T0 42 = 1) rfl ⟨trivial, trivial, trivial, rfl, trivial, trivial, rfl⟩ h (fun v M3 h => ?_)
        obtain ⟨rfl, h⟩ := h
        show jRun X T0 (d + 1) q_X1_growFrom (54, [.ref 42, .ref 22, .int a2, .int a3, .int r1], [], M3) Q
        refine jRun.cut (k := jk_X1_growFrom) rfl 2 (c' := (13, [.ref 42, .ref 22, .int a2, .int (a3 + 1), .int r1], [], M3)) (ob := True ∧ True ∧ True) rfl ⟨trivial, trivial, trivial⟩ ?_
        exact jRun.weak (by simp [jFew]) h
      · have h := h.2 g
        exact jRun.ret (k := jk_X1_growFrom) rfl 1 (v := none) (M1 := M1) (ob := True) rfl trivial h
  · refine jRun.cut (k := jk_X1_growFrom) rfl 3 (c' := (if 10 ≤ a3 then 60 else 19, [.ref 44, .ref 22, .int a2, .int a3, .null], [], M)) (ob := True ∧ True ∧ True ∧ True) rfl ⟨trivial, trivial, trivial, trivial⟩ ?_
    refine jRun.br (fun g => ?_) (fun g => ?_)
    · have h := h.1 g
      exact jRun.ret (k := jk_X1_growFrom) rfl 1 (v := none) (M1 := M) (ob := True) rfl trivial h
    · have h := h.2 g
      refine jRun.call (k := jk_X1_growFrom) rfl 3 (f := q_X1_strandedJumps) (As := [.ref 44, .ref 22]) (c1 := (24, [.ref 44, .ref 22, .int a2, .int a3, .null], [], M)) (ob := True ∧ True ∧ jKd T0 44 = 1) rfl ⟨trivial, trivial, rfl⟩ h (fun v M1 h => ?_)
      obtain ⟨r1, rfl, h⟩ := h
      show jRun X T0 (d + 1) q_X1_growFrom (24, [.ref 44, .ref 22, .int a2, .int a3, .null], [.int r1], M1) Q
      refine jRun.cut (k := jk_X1_growFrom) rfl 3 (c' := (if ¬ r1 = 0 then 32 else 31, [.ref 44, .ref 22, .int a2, .int a3, .int r1], [], M1)) (ob := True ∧ True ∧ True ∧ True) rfl ⟨trivial, trivial, trivial, trivial⟩ ?_
      refine jRun.brn (fun g => ?_) (fun g => ?_)
      · have h := h.1 g
        refine jRun.cut (k := jk_X1_growFrom) rfl 6 (c' := (42, [.ref 44, .ref 22, .int a2, .int a3, .int r1], [], (jP M1 44 3 ((M1 44 3) + 1)))) (ob := True ∧ True ∧ jKd T0 44 = 1 ∧ True ∧ True ∧ jKd T0 44 = 1 ∧ True) rfl ⟨trivial, trivial, rfl, trivial, trivial, rfl, trivial⟩ ?_
        refine jRun.nm (fun M2 eM2 => ?_)
        have h := h M2 eM2
        refine jRun.call (k := jk_X1_growFrom) rfl 7 (f := q_X1_lay) (As := [.ref 44, .ref 22, .int ((M2 44 2) ||| r1)]) (c1 := (54, [.ref 44, .ref 22, .int a2, .int a3, .int r1], [], M2)) (ob := True ∧ True ∧ True ∧ jKd T0 44 = 1 ∧ True ∧ True ∧ jKd T0 44 = 1) rfl ⟨trivial, trivial, trivial, rfl, trivial, trivial, rfl⟩ h (fun v M3 h => ?_)
        obtain ⟨rfl, h⟩ := h
        show jRun X T0 (d + 1) q_X1_growFrom (54, [.ref 44, .ref 22, .int a2, .int a3, .int r1], [], M3) Q
        refine jRun.cut (k := jk_X1_growFrom) rfl 2 (c' := (13, [.ref 44, .ref 22, .int a2, .int (a3 + 1), .int r1], [], M3)) (ob := True ∧ True ∧ True) rfl ⟨trivial, trivial, trivial⟩ ?_
        exact jRun.weak (by simp [jFew]) h
      · have h := h.2 g
        exact jRun.ret (k := jk_X1_growFrom) rfl 1 (v := none) (M1 := M1) (ob := True) rfl trivial h
  · refine jRun.cut (k := jk_X1_growFrom) rfl 3 (c' := (if 10 ≤ a3 then 60 else 19, [.ref 46, .ref 22, .int a2, .int a3, .null], [], M)) (ob := True ∧ True ∧ True ∧ True) rfl ⟨trivial, trivial, trivial, trivial⟩ ?_
    refine jRun.br (fun g => ?_) (fun g => ?_)
    · have h := h.1 g
      exact jRun.ret (k := jk_X1_growFrom) rfl 1 (v := none) (M1 := M) (ob := True) rfl trivial h
    · have h := h.2 g
      refine jRun.call (k := jk_X1_growFrom) rfl 3 (f := q_X1_strandedJumps) (As := [.ref 46, .ref 22]) (c1 := (24, [.ref 46, .ref 22, .int a2, .int a3, .null], [], M)) (ob := True ∧ True ∧ jKd T0 46 = 1) rfl ⟨trivial, trivial, rfl⟩ h (fun v M1 h => ?_)
      obtain ⟨r1, rfl, h⟩ := h
      show jRun X T0 (d + 1) q_X1_growFrom (24, [.ref 46, .ref 22, .int a2, .int a3, .null], [.int r1], M1) Q
      refine jRun.cut (k := jk_X1_growFrom) rfl 3 (c' := (if ¬ r1 = 0 then 32 else 31, [.ref 46, .ref 22, .int a2, .int a3, .int r1], [], M1)) (ob := True ∧ True ∧ True ∧ True) rfl ⟨trivial, trivial, trivial, trivial⟩ ?_
      refine jRun.brn (fun g => ?_) (fun g => ?_)
      · have h := h.1 g
        refine jRun.cut (k := jk_X1_growFrom) rfl 6 (c' := (42, [.ref 46, .ref 22, .int a2, .int a3, .int r1], [], (jP M1 46 3 ((M1 46 3) + 1)))) (ob := True ∧ True ∧ jKd T0 46 = 1 ∧ True ∧ True ∧ jKd T0 46 = 1 ∧ True) rfl ⟨trivial, trivial, rfl, trivial, trivial, rfl, trivial⟩ ?_
        refine jRun.nm (fun M2 eM2 => ?_)
        have h := h M2 eM2
        refine jRun.call (k := jk_X1_growFrom) rfl 7 (f := q_X1_lay) (As := [.ref 46, .ref 22, .int ((M2 46 2) ||| r1)]) (c1 := (54, [.ref 46, .ref 22, .int a2, .int a3, .int r1], [], M2)) (ob := True ∧ True ∧ True ∧ jKd T0 46 = 1 ∧ True ∧ True ∧ jKd T0 46 = 1) rfl ⟨trivial, trivial, trivial, rfl, trivial, trivial, rfl⟩ h (fun v M3 h => ?_)
        obtain ⟨rfl, h⟩ := h
        show jRun X T0 (d + 1) q_X1_growFrom (54, [.ref 46, .ref 22, .int a2, .int a3, .int r1], [], M3) Q
        refine jRun.cut (k := jk_X1_growFrom) rfl 2 (c' := (13, [.ref 46, .ref 22, .int a2, .int (a3 + 1), .int r1], [], M3)) (ob := True ∧ True ∧ True) rfl ⟨trivial, trivial, trivial⟩ ?_
        exact jRun.weak (by simp [jFew]) h
      · have h := h.2 g
        exact jRun.ret (k := jk_X1_growFrom) rfl 1 (v := none) (M1 := M1) (ob := True) rfl trivial h
  · refine jRun.cut (k := jk_X1_growFrom) rfl 3 (c' := (if 10 ≤ a3 then 60 else 19, [.ref 51, .ref 49, .int a2, .int a3, .null], [], M)) (ob := True ∧ True ∧ True ∧ True) rfl ⟨trivial, trivial, trivial, trivial⟩ ?_
    refine jRun.br (fun g => ?_) (fun g => ?_)
    · have h := h.1 g
      exact jRun.ret (k := jk_X1_growFrom) rfl 1 (v := none) (M1 := M) (ob := True) rfl trivial h
    · have h := h.2 g
      refine jRun.call (k := jk_X1_growFrom) rfl 3 (f := q_X1_strandedJumps) (As := [.ref 51, .ref 49]) (c1 := (24, [.ref 51, .ref 49, .int a2, .int a3, .null], [], M)) (ob := True ∧ True ∧ jKd T0 51 = 1) rfl ⟨trivial, trivial, rfl⟩ h (fun v M1 h => ?_)
      obtain ⟨r1, rfl, h⟩ := h
      show jRun X T0 (d + 1) q_X1_growFrom (24, [.ref 51, .ref 49, .int a2, .int a3, .null], [.int r1], M1) Q
      refine jRun.cut (k := jk_X1_growFrom) rfl 3 (c' := (if ¬ r1 = 0 then 32 else 31, [.ref 51, .ref 49, .int a2, .int a3, .int r1], [], M1)) (ob := True ∧ True ∧ True ∧ True) rfl ⟨trivial, trivial, trivial, trivial⟩ ?_
      refine jRun.brn (fun g => ?_) (fun g => ?_)
      · have h := h.1 g
        refine jRun.cut (k := jk_X1_growFrom) rfl 6 (c' := (42, [.ref 51, .ref 49, .int a2, .int a3, .int r1], [], (jP M1 51 3 ((M1 51 3) + 1)))) (ob := True ∧ True ∧ jKd T0 51 = 1 ∧ True ∧ True ∧ jKd T0 51 = 1 ∧ True) rfl ⟨trivial, trivial, rfl, trivial, trivial, rfl, trivial⟩ ?_
        refine jRun.nm (fun M2 eM2 => ?_)
        have h := h M2 eM2
        refine jRun.call (k := jk_X1_growFrom) rfl 7 (f := q_X1_lay) (As := [.ref 51, .ref 49, .int ((M2 51 2) ||| r1)]) (c1 := (54, [.ref 51, .ref 49, .int a2, .int a3, .int r1], [], M2)) (ob := True ∧ True ∧ True ∧ jKd T0 51 = 1 ∧ True ∧ True ∧ jKd T0 51 = 1) rfl ⟨trivial, trivial, trivial, rfl, trivial, trivial, rfl⟩ h (fun v M3 h => ?_)
        obtain ⟨rfl, h⟩ := h
        show jRun X T0 (d + 1) q_X1_growFrom (54, [.ref 51, .ref 49, .int a2, .int a3, .int r1], [], M3) Q
        refine jRun.cut (k := jk_X1_growFrom) rfl 2 (c' := (13, [.ref 51, .ref 49, .int a2, .int (a3 + 1), .int r1], [], M3)) (ob := True ∧ True ∧ True) rfl ⟨trivial, trivial, trivial⟩ ?_
        exact jRun.weak (by simp [jFew]) h
      · have h := h.2 g
        exact jRun.ret (k := jk_X1_growFrom) rfl 1 (v := none) (M1 := M1) (ob := True) rfl trivial h
theorem v_X1_shrink {X : jX} {d : Nat} (hI : jInj X T0) {L A S Z : Nat} (hv : jLS L A S Z)  (M : jMem) (Q : Option Value → jMem → Prop) (h : jOk X T0 d q_X3_allJumps [.ref 12] M (fun v M1 => ∃ r1, v = some (.int r1) ∧ jOk X T0 d q_X1_lay [.ref L, .ref S, .int r1] M1 (fun v M2 => v = none ∧ jRun X T0 (d + 1) q_X1_shrink (19, [.ref L, .ref S, .int 0, .int 0, .int 0, .null, .null], [], M2) Q))) : jOk X T0 (d + 1) q_X1_shrink [.ref L, .ref S] M Q := by
  rcases hv with ⟨rfl, rfl, rfl, rfl⟩ | ⟨rfl, rfl, rfl, rfl⟩ | ⟨rfl, rfl, rfl, rfl⟩ | ⟨rfl, rfl, rfl, rfl⟩
  · refine jOk.intro (ml := 7) (ls := [.ref 42, .ref 22, .null, .null, .null, .null, .null]) (jTl (by decide)) rfl (Nat.le_of_ble_eq_true rfl) rfl hI ?_
    refine jRun.call (k := jk_X1_shrink) rfl 9 (f := q_X3_allJumps) (As := [.ref 12]) (c1 := (13, [.ref 42, .ref 22, .int 0, .int 0, .null, .null, .null], [.ref 22, .ref 42], M)) (ob := True ∧ True ∧ True ∧ True ∧ True ∧ True ∧ True ∧ jKd T0 42 = 1 ∧ jKd T0 12 = 3) rfl ⟨trivial, trivial, trivial, trivial, trivial, trivial, trivial, rfl, rfl⟩ h (fun v M1 h => ?_)
    obtain ⟨r1, rfl, h⟩ := h
    show jRun X T0 (d + 1) q_X1_shrink (13, [.ref 42, .ref 22, .int 0, .int 0, .null, .null, .null], [.int r1, .ref 22, .ref 42], M1) Q
    refine jRun.call (k := jk_X1_shrink) rfl 1 (f := q_X1_lay) (As := [.ref 42, .ref 22, .int r1]) (c1 := (16, [.ref 42, .ref 22, .int 0, .int 0, .null, .null, .null], [], M1)) (ob := jKd T0 42 = 1) rfl rfl h (fun v M2 h => ?_)
    obtain ⟨rfl, h⟩ := h
    show jRun X T0 (d + 1) q_X1_shrink (16, [.ref 42, .ref 22, .int 0, .int 0, .null, .null, .null], [], M2) Q
    refine jRun.cut (k := jk_X1_shrink) rfl 2 (c' := (19, [.ref 42, .ref 22, .int 0, .int 0, .int 0, .null, .null], [], M2)) (ob := True ∧ True ∧ True) rfl ⟨trivial, trivial, trivial⟩ ?_
    exact h
  · refine jOk.intro (ml := 7) (ls := [.ref 44, .ref 22, .null, .null, .null, .null, .null]) (jTl (by decide)) rfl (Nat.le_of_ble_eq_true rfl) rfl hI ?_
    refine jRun.call (k := jk_X1_shrink) rfl 9 (f := q_X3_allJumps) (As := [.ref 12]) (c1 := (13, [.ref 44, .ref 22, .int 0, .int 0, .null, .null, .null], [.ref 22, .ref 44], M)) (ob := True ∧ True ∧ True ∧ True ∧ True ∧ True ∧ True ∧ jKd T0 44 = 1 ∧ jKd T0 12 = 3) rfl ⟨trivial, trivial, trivial, trivial, trivial, trivial, trivial, rfl, rfl⟩ h (fun v M1 h => ?_)
    obtain ⟨r1, rfl, h⟩ := h
    show jRun X T0 (d + 1) q_X1_shrink (13, [.ref 44, .ref 22, .int 0, .int 0, .null, .null, .null], [.int r1, .ref 22, .ref 44], M1) Q
    refine jRun.call (k := jk_X1_shrink) rfl 1 (f := q_X1_lay) (As := [.ref 44, .ref 22, .int r1]) (c1 := (16, [.ref 44, .ref 22, .int 0, .int 0, .null, .null, .null], [], M1)) (ob := jKd T0 44 = 1) rfl rfl h (fun v M2 h => ?_)
    obtain ⟨rfl, h⟩ := h
    show jRun X T0 (d + 1) q_X1_shrink (16, [.ref 44, .ref 22, .int 0, .int 0, .null, .null, .null], [], M2) Q
    refine jRun.cut (k := jk_X1_shrink) rfl 2 (c' := (19, [.ref 44, .ref 22, .int 0, .int 0, .int 0, .null, .null], [], M2)) (ob := True ∧ True ∧ True) rfl ⟨trivial, trivial, trivial⟩ ?_
    exact h
  · refine jOk.intro (ml := 7) (ls := [.ref 46, .ref 22, .null, .null, .null, .null, .null]) (jTl (by decide)) rfl (Nat.le_of_ble_eq_true rfl) rfl hI ?_
    refine jRun.call (k := jk_X1_shrink) rfl 9 (f := q_X3_allJumps) (As := [.ref 12]) (c1 := (13, [.ref 46, .ref 22, .int 0, .int 0, .null, .null, .null], [.ref 22, .ref 46], M)) (ob := True ∧ True ∧ True ∧ True ∧ True ∧ True ∧ True ∧ jKd T0 46 = 1 ∧ jKd T0 12 = 3) rfl ⟨trivial, trivial, trivial, trivial, trivial, trivial, trivial, rfl, rfl⟩ h (fun v M1 h => ?_)
    obtain ⟨r1, rfl, h⟩ := h
    show jRun X T0 (d + 1) q_X1_shrink (13, [.ref 46, .ref 22, .int 0, .int 0, .null, .null, .null], [.int r1, .ref 22, .ref 46], M1) Q
    refine jRun.call (k := jk_X1_shrink) rfl 1 (f := q_X1_lay) (As := [.ref 46, .ref 22, .int r1]) (c1 := (16, [.ref 46, .ref 22, .int 0, .int 0, .null, .null, .null], [], M1)) (ob := jKd T0 46 = 1) rfl rfl h (fun v M2 h => ?_)
    obtain ⟨rfl, h⟩ := h
    show jRun X T0 (d + 1) q_X1_shrink (16, [.ref 46, .ref 22, .int 0, .int 0, .null, .null, .null], [], M2) Q
    refine jRun.cut (k := jk_X1_shrink) rfl 2 (c' := (19, [.ref 46, .ref 22, .int 0, .int 0, .int 0, .null, .null], [], M2)) (ob := True ∧ True ∧ True) rfl ⟨trivial, trivial, trivial⟩ ?_
    exact h
  · refine jOk.intro (ml := 7) (ls := [.ref 51, .ref 49, .null, .null, .null, .null, .null]) (jTl (by decide)) rfl (Nat.le_of_ble_eq_true rfl) rfl hI ?_
    refine jRun.call (k := jk_X1_shrink) rfl 9 (f := q_X3_allJumps) (As := [.ref 12]) (c1 := (13, [.ref 51, .ref 49, .int 0, .int 0, .null, .null, .null], [.ref 49, .ref 51], M)) (ob := True ∧ True ∧ True ∧ True ∧ True ∧ True ∧ True ∧ jKd T0 51 = 1 ∧ jKd T0 12 = 3) rfl ⟨trivial, trivial, trivial, trivial, trivial, trivial, trivial, rfl, rfl⟩ h (fun v M1 h => ?_)
    obtain ⟨r1, rfl, h⟩ := h
    show jRun X T0 (d + 1) q_X1_shrink (13, [.ref 51, .ref 49, .int 0, .int 0, .null, .null, .null], [.int r1, .ref 49, .ref 51], M1) Q
    refine jRun.call (k := jk_X1_shrink) rfl 1 (f := q_X1_lay) (As := [.ref 51, .ref 49, .int r1]) (c1 := (16, [.ref 51, .ref 49, .int 0, .int 0, .null, .null, .null], [], M1)) (ob := jKd T0 51 = 1) rfl rfl h (fun v M2 h => ?_)
    obtain ⟨rfl, h⟩ := h
    show jRun X T0 (d + 1) q_X1_shrink (16, [.ref 51, .ref 49, .int 0, .int 0, .null, .null, .null], [], M2) Q
    refine jRun.cut (k := jk_X1_shrink) rfl 2 (c' := (19, [.ref 51, .ref 49, .int 0, .int 0, .int 0, .null, .null], [], M2)) (ob := True ∧ True ∧ True) rfl ⟨trivial, trivial, trivial⟩ ?_
    exact h
theorem v_X1_shrink_19 {X : jX} {d : Nat} {L A S Z : Nat} (hv : jLS L A S Z) (a2 : Int32) (a3 : Int32) (a4 : Int32) (M : jMem) (Q : Option Value → jMem → Prop) (h : ((10 ≤ a4 → (∀ M1, M1 = jP M L 3 a2 → Q none M1)) ∧ (¬ 10 ≤ a4 → jOk X T0 d q_X1_wouldReach [.ref L, .ref S] M (fun v M2 => ∃ r1, v = some (.int r1) ∧ ((¬ ((r1 &&& ((M2 S 1) ^^^ (-1))) &&& (a3 ^^^ (-1))) = 0 → jOk X T0 d q_X1_growFrom [.ref L, .ref S, .int ((M2 L 2) &&& (((r1 &&& ((M2 S 1) ^^^ (-1))) &&& (a3 ^^^ (-1))) ^^^ (-1)))] M2 (fun v M3 => v = none ∧ jRun X T0 (d + 1) q_X1_shrink (19, [.ref L, .ref S, .int (a2 + 1), .int (a3 ||| ((M3 L 2) &&& (((M2 L 2) &&& (((r1 &&& ((M2 S 1) ^^^ (-1))) &&& (a3 ^^^ (-1))) ^^^ (-1))) ^^^ (-1)))), .int (a4 + 1), .null, .null], [], M3) Q)) ∧ (((r1 &&& ((M2 S 1) ^^^ (-1))) &&& (a3 ^^^ (-1))) = 0 → (∀ M4, M4 = jP M2 L 3 a2 → Q none M4))))))) : jRun X T0 (d + 1) q_X1_shrink (19, [.ref L, .ref S, .int a2, .int a3, .int a4, .null, .null], [], M) Q := by
  rcases hv with ⟨rfl, rfl, rfl, rfl⟩ | ⟨rfl, rfl, rfl, rfl⟩ | ⟨rfl, rfl, rfl, rfl⟩ | ⟨rfl, rfl, rfl, rfl⟩
  · refine jRun.cut (k := jk_X1_shrink) rfl 3 (c' := (if 10 ≤ a4 then 91 else 26, [.ref 42, .ref 22, .int a2, .int a3, .int a4, .null, .null], [], M)) (ob := True ∧ True ∧ True ∧ True) rfl ⟨trivial, trivial, trivial, trivial⟩ ?_
    refine jRun.br (fun g => ?_) (fun g => ?_)
    · have h := h.1 g
      refine jRun.cut (k := jk_X1_shrink) rfl 3 (c' := (96, [.ref 42, .ref 22, .int a2, .int a3, .int a4, .null, .null], [], (jP M 42 3 a2))) (ob := True ∧ True ∧ jKd T0 42 = 1 ∧ True) rfl ⟨trivial, trivial, rfl, trivial⟩ ?_
      refine jRun.nm (fun M1 eM1 => ?_)
      have h := h M1 eM1
      exact jRun.ret (k := jk_X1_shrink) rfl 1 (v := none) (M1 := M1) (ob := True) rfl trivial h
    · have h := h.2 g
      refine jRun.call (k := jk_X1_shrink) rfl 3 (f := q_X1_wouldReach) (As := [.ref 42, .ref 22]) (c1 := (31, [.ref 42, .ref 22, .int a2, .int a3, .int a4, .null, .null], [], M)) (ob := True ∧ True ∧ jKd T0 42 = 1) rfl ⟨trivial, trivial, rfl⟩ h (fun v M2 h => ?_)
      obtain ⟨r1, rfl, h⟩ := h
      show jRun X T0 (d + 1) q_X1_shrink (31, [.ref 42, .ref 22, .int a2, .int a3, .int a4, .null, .null], [.int r1], M2) Q
      refine jRun.cut (k := jk_X1_shrink) rfl 12 (c' := (if ¬ ((r1 &&& ((M2 22 1) ^^^ (-1))) &&& (a3 ^^^ (-1))) = 0 then 52 else 49, [.ref 42, .ref 22, .int a2, .int a3, .int a4, .int ((r1 &&& ((M2 22 1) ^^^ (-1))) &&& (a3 ^^^ (-1))), .null], [], M2)) (ob := True ∧ jKd T0 22 = 5 ∧ True ∧ True ∧ True ∧ True ∧ True ∧ True ∧ True ∧ True ∧ True ∧ True ∧ True) rfl ⟨trivial, rfl, trivial, trivial, trivial, trivial, trivial, trivial, trivial, trivial, trivial, trivial, trivial⟩ ?_
      refine jRun.brn (fun g => ?_) (fun g => ?_)
      · have h := h.1 g
        refine jRun.call (k := jk_X1_shrink) rfl 12 (f := q_X1_growFrom) (As := [.ref 42, .ref 22, .int ((M2 42 2) &&& (((r1 &&& ((M2 22 1) ^^^ (-1))) &&& (a3 ^^^ (-1))) ^^^ (-1)))]) (c1 := (73, [.ref 42, .ref 22, .int (a2 + 1), .int a3, .int a4, .int ((r1 &&& ((M2 22 1) ^^^ (-1))) &&& (a3 ^^^ (-1))), .int ((M2 42 2) &&& (((r1 &&& ((M2 22 1) ^^^ (-1))) &&& (a3 ^^^ (-1))) ^^^ (-1)))], [], M2)) (ob := True ∧ True ∧ jKd T0 42 = 1 ∧ True ∧ True ∧ True ∧ True ∧ True ∧ True ∧ True ∧ True ∧ jKd T0 42 = 1) rfl ⟨trivial, trivial, rfl, trivial, trivial, trivial, trivial, trivial, trivial, trivial, trivial, rfl⟩ h (fun v M3 h => ?_)
        obtain ⟨rfl, h⟩ := h
        show jRun X T0 (d + 1) q_X1_shrink (73, [.ref 42, .ref 22, .int (a2 + 1), .int a3, .int a4, .int ((r1 &&& ((M2 22 1) ^^^ (-1))) &&& (a3 ^^^ (-1))), .int ((M2 42 2) &&& (((r1 &&& ((M2 22 1) ^^^ (-1))) &&& (a3 ^^^ (-1))) ^^^ (-1)))], [], M3) Q
        refine jRun.cut (k := jk_X1_shrink) rfl 11 (c' := (19, [.ref 42, .ref 22, .int (a2 + 1), .int (a3 ||| ((M3 42 2) &&& (((M2 42 2) &&& (((r1 &&& ((M2 22 1) ^^^ (-1))) &&& (a3 ^^^ (-1))) ^^^ (-1))) ^^^ (-1)))), .int (a4 + 1), .int ((r1 &&& ((M2 22 1) ^^^ (-1))) &&& (a3 ^^^ (-1))), .int ((M2 42 2) &&& (((r1 &&& ((M2 22 1) ^^^ (-1))) &&& (a3 ^^^ (-1))) ^^^ (-1)))], [], M3)) (ob := True ∧ True ∧ jKd T0 42 = 1 ∧ True ∧ True ∧ True ∧ True ∧ True ∧ True ∧ True ∧ True ∧ True) rfl ⟨trivial, trivial, rfl, trivial, trivial, trivial, trivial, trivial, trivial, trivial, trivial, trivial⟩ ?_
        exact jRun.weak (by simp [jFew]) h
      · have h := h.2 g
        refine jRun.cut (k := jk_X1_shrink) rfl 4 (c' := (96, [.ref 42, .ref 22, .int a2, .int a3, .int a4, .int ((r1 &&& ((M2 22 1) ^^^ (-1))) &&& (a3 ^^^ (-1))), .null], [], (jP M2 42 3 a2))) (ob := True ∧ True ∧ True ∧ jKd T0 42 = 1 ∧ True) rfl ⟨trivial, trivial, trivial, rfl, trivial⟩ ?_
        refine jRun.nm (fun M4 eM4 => ?_)
        have h := h M4 eM4
        exact jRun.ret (k := jk_X1_shrink) rfl 1 (v := none) (M1 := M4) (ob := True) rfl trivial h
  · refine jRun.cut (k := jk_X1_shrink) rfl 3 (c' := (if 10 ≤ a4 then 91 else 26, [.ref 44, .ref 22, .int a2, .int a3, .int a4, .null, .null], [], M)) (ob := True ∧ True ∧ True ∧ True) rfl ⟨trivial, trivial, trivial, trivial⟩ ?_
    refine jRun.br (fun g => ?_) (fun g => ?_)
    · have h := h.1 g
      refine jRun.cut (k := jk_X1_shrink) rfl 3 (c' := (96, [.ref 44, .ref 22, .int a2, .int a3, .int a4, .null, .null], [], (jP M 44 3 a2))) (ob := True ∧ True ∧ jKd T0 44 = 1 ∧ True) rfl ⟨trivial, trivial, rfl, trivial⟩ ?_
      refine jRun.nm (fun M1 eM1 => ?_)
      have h := h M1 eM1
      exact jRun.ret (k := jk_X1_shrink) rfl 1 (v := none) (M1 := M1) (ob := True) rfl trivial h
    · have h := h.2 g
      refine jRun.call (k := jk_X1_shrink) rfl 3 (f := q_X1_wouldReach) (As := [.ref 44, .ref 22]) (c1 := (31, [.ref 44, .ref 22, .int a2, .int a3, .int a4, .null, .null], [], M)) (ob := True ∧ True ∧ jKd T0 44 = 1) rfl ⟨trivial, trivial, rfl⟩ h (fun v M2 h => ?_)
      obtain ⟨r1, rfl, h⟩ := h
      show jRun X T0 (d + 1) q_X1_shrink (31, [.ref 44, .ref 22, .int a2, .int a3, .int a4, .null, .null], [.int r1], M2) Q
      refine jRun.cut (k := jk_X1_shrink) rfl 12 (c' := (if ¬ ((r1 &&& ((M2 22 1) ^^^ (-1))) &&& (a3 ^^^ (-1))) = 0 then 52 else 49, [.ref 44, .ref 22, .int a2, .int a3, .int a4, .int ((r1 &&& ((M2 22 1) ^^^ (-1))) &&& (a3 ^^^ (-1))), .null], [], M2)) (ob := True ∧ jKd T0 22 = 5 ∧ True ∧ True ∧ True ∧ True ∧ True ∧ True ∧ True ∧ True ∧ True ∧ True ∧ True) rfl ⟨trivial, rfl, trivial, trivial, trivial, trivial, trivial, trivial, trivial, trivial, trivial, trivial, trivial⟩ ?_
      refine jRun.brn (fun g => ?_) (fun g => ?_)
      · have h := h.1 g
        refine jRun.call (k := jk_X1_shrink) rfl 12 (f := q_X1_growFrom) (As := [.ref 44, .ref 22, .int ((M2 44 2) &&& (((r1 &&& ((M2 22 1) ^^^ (-1))) &&& (a3 ^^^ (-1))) ^^^ (-1)))]) (c1 := (73, [.ref 44, .ref 22, .int (a2 + 1), .int a3, .int a4, .int ((r1 &&& ((M2 22 1) ^^^ (-1))) &&& (a3 ^^^ (-1))), .int ((M2 44 2) &&& (((r1 &&& ((M2 22 1) ^^^ (-1))) &&& (a3 ^^^ (-1))) ^^^ (-1)))], [], M2)) (ob := True ∧ True ∧ jKd T0 44 = 1 ∧ True ∧ True ∧ True ∧ True ∧ True ∧ True ∧ True ∧ True ∧ jKd T0 44 = 1) rfl ⟨trivial, trivial, rfl, trivial, trivial, trivial, trivial, trivial, trivial, trivial, trivial, rfl⟩ h (fun v M3 h => ?_)
        obtain ⟨rfl, h⟩ := h
        show jRun X T0 (d + 1) q_X1_shrink (73, [.ref 44, .ref 22, .int (a2 + 1), .int a3, .int a4, .int ((r1 &&& ((M2 22 1) ^^^ (-1))) &&& (a3 ^^^ (-1))), .int ((M2 44 2) &&& (((r1 &&& ((M2 22 1) ^^^ (-1))) &&& (a3 ^^^ (-1))) ^^^ (-1)))], [], M3) Q
        refine jRun.cut (k := jk_X1_shrink) rfl 11 (c' := (19, [.ref 44, .ref 22, .int (a2 + 1), .int (a3 ||| ((M3 44 2) &&& (((M2 44 2) &&& (((r1 &&& ((M2 22 1) ^^^ (-1))) &&& (a3 ^^^ (-1))) ^^^ (-1))) ^^^ (-1)))), .int (a4 + 1), .int ((r1 &&& ((M2 22 1) ^^^ (-1))) &&& (a3 ^^^ (-1))), .int ((M2 44 2) &&& (((r1 &&& ((M2 22 1) ^^^ (-1))) &&& (a3 ^^^ (-1))) ^^^ (-1)))], [], M3)) (ob := True ∧ True ∧ jKd T0 44 = 1 ∧ True ∧ True ∧ True ∧ True ∧ True ∧ True ∧ True ∧ True ∧ True) rfl ⟨trivial, trivial, rfl, trivial, trivial, trivial, trivial, trivial, trivial, trivial, trivial, trivial⟩ ?_
        exact jRun.weak (by simp [jFew]) h
      · have h := h.2 g
        refine jRun.cut (k := jk_X1_shrink) rfl 4 (c' := (96, [.ref 44, .ref 22, .int a2, .int a3, .int a4, .int ((r1 &&& ((M2 22 1) ^^^ (-1))) &&& (a3 ^^^ (-1))), .null], [], (jP M2 44 3 a2))) (ob := True ∧ True ∧ True ∧ jKd T0 44 = 1 ∧ True) rfl ⟨trivial, trivial, trivial, rfl, trivial⟩ ?_
        refine jRun.nm (fun M4 eM4 => ?_)
        have h := h M4 eM4
        exact jRun.ret (k := jk_X1_shrink) rfl 1 (v := none) (M1 := M4) (ob := True) rfl trivial h
  · refine jRun.cut (k := jk_X1_shrink) rfl 3 (c' := (if 10 ≤ a4 then 91 else 26, [.ref 46, .ref 22, .int a2, .int a3, .int a4, .null, .null], [], M)) (ob := True ∧ True ∧ True ∧ True) rfl ⟨trivial, trivial, trivial, trivial⟩ ?_
    refine jRun.br (fun g => ?_) (fun g => ?_)
    · have h := h.1 g
      refine jRun.cut (k := jk_X1_shrink) rfl 3 (c' := (96, [.ref 46, .ref 22, .int a2, .int a3, .int a4, .null, .null], [], (jP M 46 3 a2))) (ob := True ∧ True ∧ jKd T0 46 = 1 ∧ True) rfl ⟨trivial, trivial, rfl, trivial⟩ ?_
      refine jRun.nm (fun M1 eM1 => ?_)
      have h := h M1 eM1
      exact jRun.ret (k := jk_X1_shrink) rfl 1 (v := none) (M1 := M1) (ob := True) rfl trivial h
    · have h := h.2 g
      refine jRun.call (k := jk_X1_shrink) rfl 3 (f := q_X1_wouldReach) (As := [.ref 46, .ref 22]) (c1 := (31, [.ref 46, .ref 22, .int a2, .int a3, .int a4, .null, .null], [], M)) (ob := True ∧ True ∧ jKd T0 46 = 1) rfl ⟨trivial, trivial, rfl⟩ h (fun v M2 h => ?_)
      obtain ⟨r1, rfl, h⟩ := h
      show jRun X T0 (d + 1) q_X1_shrink (31, [.ref 46, .ref 22, .int a2, .int a3, .int a4, .null, .null], [.int r1], M2) Q
      refine jRun.cut (k := jk_X1_shrink) rfl 12 (c' := (if ¬ ((r1 &&& ((M2 22 1) ^^^ (-1))) &&& (a3 ^^^ (-1))) = 0 then 52 else 49, [.ref 46, .ref 22, .int a2, .int a3, .int a4, .int ((r1 &&& ((M2 22 1) ^^^ (-1))) &&& (a3 ^^^ (-1))), .null], [], M2)) (ob := True ∧ jKd T0 22 = 5 ∧ True ∧ True ∧ True ∧ True ∧ True ∧ True ∧ True ∧ True ∧ True ∧ True ∧ True) rfl ⟨trivial, rfl, trivial, trivial, trivial, trivial, trivial, trivial, trivial, trivial, trivial, trivial, trivial⟩ ?_
      refine jRun.brn (fun g => ?_) (fun g => ?_)
      · have h := h.1 g
        refine jRun.call (k := jk_X1_shrink) rfl 12 (f := q_X1_growFrom) (As := [.ref 46, .ref 22, .int ((M2 46 2) &&& (((r1 &&& ((M2 22 1) ^^^ (-1))) &&& (a3 ^^^ (-1))) ^^^ (-1)))]) (c1 := (73, [.ref 46, .ref 22, .int (a2 + 1), .int a3, .int a4, .int ((r1 &&& ((M2 22 1) ^^^ (-1))) &&& (a3 ^^^ (-1))), .int ((M2 46 2) &&& (((r1 &&& ((M2 22 1) ^^^ (-1))) &&& (a3 ^^^ (-1))) ^^^ (-1)))], [], M2)) (ob := True ∧ True ∧ jKd T0 46 = 1 ∧ True ∧ True ∧ True ∧ True ∧ True ∧ True ∧ True ∧ True ∧ jKd T0 46 = 1) rfl ⟨trivial, trivial, rfl, trivial, trivial, trivial, trivial, trivial, trivial, trivial, trivial, rfl⟩ h (fun v M3 h => ?_)
        obtain ⟨rfl, h⟩ := h
        show jRun X T0 (d + 1) q_X1_shrink (73, [.ref 46, .ref 22, .int (a2 + 1), .int a3, .int a4, .int ((r1 &&& ((M2 22 1) ^^^ (-1))) &&& (a3 ^^^ (-1))), .int ((M2 46 2) &&& (((r1 &&& ((M2 22 1) ^^^ (-1))) &&& (a3 ^^^ (-1))) ^^^ (-1)))], [], M3) Q
        refine jRun.cut (k := jk_X1_shrink) rfl 11 (c' := (19, [.ref 46, .ref 22, .int (a2 + 1), .int (a3 ||| ((M3 46 2) &&& (((M2 46 2) &&& (((r1 &&& ((M2 22 1) ^^^ (-1))) &&& (a3 ^^^ (-1))) ^^^ (-1))) ^^^ (-1)))), .int (a4 + 1), .int ((r1 &&& ((M2 22 1) ^^^ (-1))) &&& (a3 ^^^ (-1))), .int ((M2 46 2) &&& (((r1 &&& ((M2 22 1) ^^^ (-1))) &&& (a3 ^^^ (-1))) ^^^ (-1)))], [], M3)) (ob := True ∧ True ∧ jKd T0 46 = 1 ∧ True ∧ True ∧ True ∧ True ∧ True ∧ True ∧ True ∧ True ∧ True) rfl ⟨trivial, trivial, rfl, trivial, trivial, trivial, trivial, trivial, trivial, trivial, trivial, trivial⟩ ?_
        exact jRun.weak (by simp [jFew]) h
      · have h := h.2 g
        refine jRun.cut (k := jk_X1_shrink) rfl 4 (c' := (96, [.ref 46, .ref 22, .int a2, .int a3, .int a4, .int ((r1 &&& ((M2 22 1) ^^^ (-1))) &&& (a3 ^^^ (-1))), .null], [], (jP M2 46 3 a2))) (ob := True ∧ True ∧ True ∧ jKd T0 46 = 1 ∧ True) rfl ⟨trivial, trivial, trivial, rfl, trivial⟩ ?_
        refine jRun.nm (fun M4 eM4 => ?_)
        have h := h M4 eM4
        exact jRun.ret (k := jk_X1_shrink) rfl 1 (v := none) (M1 := M4) (ob := True) rfl trivial h
  · refine jRun.cut (k := jk_X1_shrink) rfl 3 (c' := (if 10 ≤ a4 then 91 else 26, [.ref 51, .ref 49, .int a2, .int a3, .int a4, .null, .null], [], M)) (ob := True ∧ True ∧ True ∧ True) rfl ⟨trivial, trivial, trivial, trivial⟩ ?_
    refine jRun.br (fun g => ?_) (fun g => ?_)
    · have h := h.1 g
      refine jRun.cut (k := jk_X1_shrink) rfl 3 (c' := (96, [.ref 51, .ref 49, .int a2, .int a3, .int a4, .null, .null], [], (jP M 51 3 a2))) (ob := True ∧ True ∧ jKd T0 51 = 1 ∧ True) rfl ⟨trivial, trivial, rfl, trivial⟩ ?_
      refine jRun.nm (fun M1 eM1 => ?_)
      have h := h M1 eM1
      exact jRun.ret (k := jk_X1_shrink) rfl 1 (v := none) (M1 := M1) (ob := True) rfl trivial h
    · have h := h.2 g
      refine jRun.call (k := jk_X1_shrink) rfl 3 (f := q_X1_wouldReach) (As := [.ref 51, .ref 49]) (c1 := (31, [.ref 51, .ref 49, .int a2, .int a3, .int a4, .null, .null], [], M)) (ob := True ∧ True ∧ jKd T0 51 = 1) rfl ⟨trivial, trivial, rfl⟩ h (fun v M2 h => ?_)
      obtain ⟨r1, rfl, h⟩ := h
      show jRun X T0 (d + 1) q_X1_shrink (31, [.ref 51, .ref 49, .int a2, .int a3, .int a4, .null, .null], [.int r1], M2) Q
      refine jRun.cut (k := jk_X1_shrink) rfl 12 (c' := (if ¬ ((r1 &&& ((M2 49 1) ^^^ (-1))) &&& (a3 ^^^ (-1))) = 0 then 52 else 49, [.ref 51, .ref 49, .int a2, .int a3, .int a4, .int ((r1 &&& ((M2 49 1) ^^^ (-1))) &&& (a3 ^^^ (-1))), .null], [], M2)) (ob := True ∧ jKd T0 49 = 5 ∧ True ∧ True ∧ True ∧ True ∧ True ∧ True ∧ True ∧ True ∧ True ∧ True ∧ True) rfl ⟨trivial, rfl, trivial, trivial, trivial, trivial, trivial, trivial, trivial, trivial, trivial, trivial, trivial⟩ ?_
      refine jRun.brn (fun g => ?_) (fun g => ?_)
      · have h := h.1 g
        refine jRun.call (k := jk_X1_shrink) rfl 12 (f := q_X1_growFrom) (As := [.ref 51, .ref 49, .int ((M2 51 2) &&& (((r1 &&& ((M2 49 1) ^^^ (-1))) &&& (a3 ^^^ (-1))) ^^^ (-1)))]) (c1 := (73, [.ref 51, .ref 49, .int (a2 + 1), .int a3, .int a4, .int ((r1 &&& ((M2 49 1) ^^^ (-1))) &&& (a3 ^^^ (-1))), .int ((M2 51 2) &&& (((r1 &&& ((M2 49 1) ^^^ (-1))) &&& (a3 ^^^ (-1))) ^^^ (-1)))], [], M2)) (ob := True ∧ True ∧ jKd T0 51 = 1 ∧ True ∧ True ∧ True ∧ True ∧ True ∧ True ∧ True ∧ True ∧ jKd T0 51 = 1) rfl ⟨trivial, trivial, rfl, trivial, trivial, trivial, trivial, trivial, trivial, trivial, trivial, rfl⟩ h (fun v M3 h => ?_)
        obtain ⟨rfl, h⟩ := h
        show jRun X T0 (d + 1) q_X1_shrink (73, [.ref 51, .ref 49, .int (a2 + 1), .int a3, .int a4, .int ((r1 &&& ((M2 49 1) ^^^ (-1))) &&& (a3 ^^^ (-1))), .int ((M2 51 2) &&& (((r1 &&& ((M2 49 1) ^^^ (-1))) &&& (a3 ^^^ (-1))) ^^^ (-1)))], [], M3) Q
        refine jRun.cut (k := jk_X1_shrink) rfl 11 (c' := (19, [.ref 51, .ref 49, .int (a2 + 1), .int (a3 ||| ((M3 51 2) &&& (((M2 51 2) &&& (((r1 &&& ((M2 49 1) ^^^ (-1))) &&& (a3 ^^^ (-1))) ^^^ (-1))) ^^^ (-1)))), .int (a4 + 1), .int ((r1 &&& ((M2 49 1) ^^^ (-1))) &&& (a3 ^^^ (-1))), .int ((M2 51 2) &&& (((r1 &&& ((M2 49 1) ^^^ (-1))) &&& (a3 ^^^ (-1))) ^^^ (-1)))], [], M3)) (ob := True ∧ True ∧ jKd T0 51 = 1 ∧ True ∧ True ∧ True ∧ True ∧ True ∧ True ∧ True ∧ True ∧ True) rfl ⟨trivial, trivial, rfl, trivial, trivial, trivial, trivial, trivial, trivial, trivial, trivial, trivial⟩ ?_
        exact jRun.weak (by simp [jFew]) h
      · have h := h.2 g
        refine jRun.cut (k := jk_X1_shrink) rfl 4 (c' := (96, [.ref 51, .ref 49, .int a2, .int a3, .int a4, .int ((r1 &&& ((M2 49 1) ^^^ (-1))) &&& (a3 ^^^ (-1))), .null], [], (jP M2 51 3 a2))) (ob := True ∧ True ∧ True ∧ jKd T0 51 = 1 ∧ True) rfl ⟨trivial, trivial, trivial, rfl, trivial⟩ ?_
        refine jRun.nm (fun M4 eM4 => ?_)
        have h := h M4 eM4
        exact jRun.ret (k := jk_X1_shrink) rfl 1 (v := none) (M1 := M4) (ob := True) rfl trivial h
theorem v_X1_tryAll {X : jX} {d : Nat} (hI : jInj X T0) {L A S Z : Nat} (hv : jLS L A S Z)  (M : jMem) (Q : Option Value → jMem → Prop) (h : jOk X T0 d q_X3_allJumps [.ref 12] M (fun v M1 => ∃ r1, v = some (.int r1) ∧ jOk X T0 d q_X1_lay [.ref L, .ref S, .int r1] M1 (fun v M2 => v = none ∧ jOk X T0 d q_X1_size [.ref L] M2 (fun v M3 => ∃ r3, v = some (.int r3) ∧ jRun X T0 (d + 1) q_X1_tryAll (22, [.ref L, .ref S, .int r1, .int r3, .int 0, .null], [], M3) Q)))) : jOk X T0 (d + 1) q_X1_tryAll [.ref L, .ref S] M Q := by
  rcases hv with ⟨rfl, rfl, rfl, rfl⟩ | ⟨rfl, rfl, rfl, rfl⟩ | ⟨rfl, rfl, rfl, rfl⟩ | ⟨rfl, rfl, rfl, rfl⟩
  · refine jOk.intro (ml := 6) (ls := [.ref 42, .ref 22, .null, .null, .null, .null]) (jTl (by decide)) rfl (Nat.le_of_ble_eq_true rfl) rfl hI ?_
    refine jRun.call (k := jk_X1_tryAll) rfl 3 (f := q_X3_allJumps) (As := [.ref 12]) (c1 := (7, [.ref 42, .ref 22, .null, .null, .null, .null], [], M)) (ob := True ∧ jKd T0 42 = 1 ∧ jKd T0 12 = 3) rfl ⟨trivial, rfl, rfl⟩ h (fun v M1 h => ?_)
    obtain ⟨r1, rfl, h⟩ := h
    show jRun X T0 (d + 1) q_X1_tryAll (7, [.ref 42, .ref 22, .null, .null, .null, .null], [.int r1], M1) Q
    refine jRun.call (k := jk_X1_tryAll) rfl 5 (f := q_X1_lay) (As := [.ref 42, .ref 22, .int r1]) (c1 := (14, [.ref 42, .ref 22, .int r1, .null, .null, .null], [], M1)) (ob := True ∧ True ∧ True ∧ True ∧ jKd T0 42 = 1) rfl ⟨trivial, trivial, trivial, trivial, rfl⟩ h (fun v M2 h => ?_)
    obtain ⟨rfl, h⟩ := h
    show jRun X T0 (d + 1) q_X1_tryAll (14, [.ref 42, .ref 22, .int r1, .null, .null, .null], [], M2) Q
    refine jRun.call (k := jk_X1_tryAll) rfl 2 (f := q_X1_size) (As := [.ref 42]) (c1 := (18, [.ref 42, .ref 22, .int r1, .null, .null, .null], [], M2)) (ob := True ∧ jKd T0 42 = 1) rfl ⟨trivial, rfl⟩ h (fun v M3 h => ?_)
    obtain ⟨r3, rfl, h⟩ := h
    show jRun X T0 (d + 1) q_X1_tryAll (18, [.ref 42, .ref 22, .int r1, .null, .null, .null], [.int r3], M3) Q
    refine jRun.cut (k := jk_X1_tryAll) rfl 3 (c' := (22, [.ref 42, .ref 22, .int r1, .int r3, .int 0, .null], [], M3)) (ob := True ∧ True ∧ True ∧ True) rfl ⟨trivial, trivial, trivial, trivial⟩ ?_
    exact h
  · refine jOk.intro (ml := 6) (ls := [.ref 44, .ref 22, .null, .null, .null, .null]) (jTl (by decide)) rfl (Nat.le_of_ble_eq_true rfl) rfl hI ?_
    refine jRun.call (k := jk_X1_tryAll) rfl 3 (f := q_X3_allJumps) (As := [.ref 12]) (c1 := (7, [.ref 44, .ref 22, .null, .null, .null, .null], [], M)) (ob := True ∧ jKd T0 44 = 1 ∧ jKd T0 12 = 3) rfl ⟨trivial, rfl, rfl⟩ h (fun v M1 h => ?_)
    obtain ⟨r1, rfl, h⟩ := h
    show jRun X T0 (d + 1) q_X1_tryAll (7, [.ref 44, .ref 22, .null, .null, .null, .null], [.int r1], M1) Q
    refine jRun.call (k := jk_X1_tryAll) rfl 5 (f := q_X1_lay) (As := [.ref 44, .ref 22, .int r1]) (c1 := (14, [.ref 44, .ref 22, .int r1, .null, .null, .null], [], M1)) (ob := True ∧ True ∧ True ∧ True ∧ jKd T0 44 = 1) rfl ⟨trivial, trivial, trivial, trivial, rfl⟩ h (fun v M2 h => ?_)
    obtain ⟨rfl, h⟩ := h
    show jRun X T0 (d + 1) q_X1_tryAll (14, [.ref 44, .ref 22, .int r1, .null, .null, .null], [], M2) Q
    refine jRun.call (k := jk_X1_tryAll) rfl 2 (f := q_X1_size) (As := [.ref 44]) (c1 := (18, [.ref 44, .ref 22, .int r1, .null, .null, .null], [], M2)) (ob := True ∧ jKd T0 44 = 1) rfl ⟨trivial, rfl⟩ h (fun v M3 h => ?_)
    obtain ⟨r3, rfl, h⟩ := h
    show jRun X T0 (d + 1) q_X1_tryAll (18, [.ref 44, .ref 22, .int r1, .null, .null, .null], [.int r3], M3) Q
    refine jRun.cut (k := jk_X1_tryAll) rfl 3 (c' := (22, [.ref 44, .ref 22, .int r1, .int r3, .int 0, .null], [], M3)) (ob := True ∧ True ∧ True ∧ True) rfl ⟨trivial, trivial, trivial, trivial⟩ ?_
    exact h
  · refine jOk.intro (ml := 6) (ls := [.ref 46, .ref 22, .null, .null, .null, .null]) (jTl (by decide)) rfl (Nat.le_of_ble_eq_true rfl) rfl hI ?_
    refine jRun.call (k := jk_X1_tryAll) rfl 3 (f := q_X3_allJumps) (As := [.ref 12]) (c1 := (7, [.ref 46, .ref 22, .null, .null, .null, .null], [], M)) (ob := True ∧ jKd T0 46 = 1 ∧ jKd T0 12 = 3) rfl ⟨trivial, rfl, rfl⟩ h (fun v M1 h => ?_)
    obtain ⟨r1, rfl, h⟩ := h
    show jRun X T0 (d + 1) q_X1_tryAll (7, [.ref 46, .ref 22, .null, .null, .null, .null], [.int r1], M1) Q
    refine jRun.call (k := jk_X1_tryAll) rfl 5 (f := q_X1_lay) (As := [.ref 46, .ref 22, .int r1]) (c1 := (14, [.ref 46, .ref 22, .int r1, .null, .null, .null], [], M1)) (ob := True ∧ True ∧ True ∧ True ∧ jKd T0 46 = 1) rfl ⟨trivial, trivial, trivial, trivial, rfl⟩ h (fun v M2 h => ?_)
    obtain ⟨rfl, h⟩ := h
    show jRun X T0 (d + 1) q_X1_tryAll (14, [.ref 46, .ref 22, .int r1, .null, .null, .null], [], M2) Q
    refine jRun.call (k := jk_X1_tryAll) rfl 2 (f := q_X1_size) (As := [.ref 46]) (c1 := (18, [.ref 46, .ref 22, .int r1, .null, .null, .null], [], M2)) (ob := True ∧ jKd T0 46 = 1) rfl ⟨trivial, rfl⟩ h (fun v M3 h => ?_)
    obtain ⟨r3, rfl, h⟩ := h
    show jRun X T0 (d + 1) q_X1_tryAll (18, [.ref 46, .ref 22, .int r1, .null, .null, .null], [.int r3], M3) Q
    refine jRun.cut (k := jk_X1_tryAll) rfl 3 (c' := (22, [.ref 46, .ref 22, .int r1, .int r3, .int 0, .null], [], M3)) (ob := True ∧ True ∧ True ∧ True) rfl ⟨trivial, trivial, trivial, trivial⟩ ?_
    exact h
  · refine jOk.intro (ml := 6) (ls := [.ref 51, .ref 49, .null, .null, .null, .null]) (jTl (by decide)) rfl (Nat.le_of_ble_eq_true rfl) rfl hI ?_
    refine jRun.call (k := jk_X1_tryAll) rfl 3 (f := q_X3_allJumps) (As := [.ref 12]) (c1 := (7, [.ref 51, .ref 49, .null, .null, .null, .null], [], M)) (ob := True ∧ jKd T0 51 = 1 ∧ jKd T0 12 = 3) rfl ⟨trivial, rfl, rfl⟩ h (fun v M1 h => ?_)
    obtain ⟨r1, rfl, h⟩ := h
    show jRun X T0 (d + 1) q_X1_tryAll (7, [.ref 51, .ref 49, .null, .null, .null, .null], [.int r1], M1) Q
    refine jRun.call (k := jk_X1_tryAll) rfl 5 (f := q_X1_lay) (As := [.ref 51, .ref 49, .int r1]) (c1 := (14, [.ref 51, .ref 49, .int r1, .null, .null, .null], [], M1)) (ob := True ∧ True ∧ True ∧ True ∧ jKd T0 51 = 1) rfl ⟨trivial, trivial, trivial, trivial, rfl⟩ h (fun v M2 h => ?_)
    obtain ⟨rfl, h⟩ := h
    show jRun X T0 (d + 1) q_X1_tryAll (14, [.ref 51, .ref 49, .int r1, .null, .null, .null], [], M2) Q
    refine jRun.call (k := jk_X1_tryAll) rfl 2 (f := q_X1_size) (As := [.ref 51]) (c1 := (18, [.ref 51, .ref 49, .int r1, .null, .null, .null], [], M2)) (ob := True ∧ jKd T0 51 = 1) rfl ⟨trivial, rfl⟩ h (fun v M3 h => ?_)
    obtain ⟨r3, rfl, h⟩ := h
    show jRun X T0 (d + 1) q_X1_tryAll (18, [.ref 51, .ref 49, .int r1, .null, .null, .null], [.int r3], M3) Q
    refine jRun.cut (k := jk_X1_tryAll) rfl 3 (c' := (22, [.ref 51, .ref 49, .int r1, .int r3, .int 0, .null], [], M3)) (ob := True ∧ True ∧ True ∧ True) rfl ⟨trivial, trivial, trivial, trivial⟩ ?_
    exact h
theorem v_X1_tryAll_22 {X : jX} {d : Nat} {L A S Z : Nat} (hv : jLS L A S Z) (a2 : Int32) (a3 : Int32) (a4 : Int32) (M : jMem) (Q : Option Value → jMem → Prop) (h : jOk X T0 d q_X3_allJumps [.ref 12] M (fun v M1 => ∃ r1, v = some (.int r1) ∧ ((r1 ≤ a4 → jOk X T0 d q_X1_lay [.ref L, .ref S, .int a2] M1 (fun v M2 => v = none ∧ (∀ M3, M3 = jP M2 L 3 0 → Q none M3))) ∧ (¬ r1 ≤ a4 → (((a4 &&& (M1 S 1)) = (M1 S 1) → jOk X T0 d q_X1_lay [.ref L, .ref S, .int a4] M1 (fun v M4 => v = none ∧ jOk X T0 d q_X1_size [.ref L] M4 (fun v M5 => ∃ r4, v = some (.int r4) ∧ ((r4 < a3 → jRun X T0 (d + 1) q_X1_tryAll (86, [.ref L, .ref S, .int a2, .int a3, .int a4, .null], [], M5) Q) ∧ (¬ r4 < a3 → jOk X T0 d q_X1_size [.ref L] M5 (fun v M6 => ∃ r5, v = some (.int r5) ∧ ((¬ r5 = a3 → jRun X T0 (d + 1) q_X1_tryAll (90, [.ref L, .ref S, .int a2, .int a3, .int a4, .null], [], M6) Q) ∧ (r5 = a3 → jOk X T0 d q_J6_bitCount_0f7a4 [.int a4] M6 (fun v M7 => ∃ r6, v = some (.int r6) ∧ jOk X T0 d q_J6_bitCount_0f7a4 [.int a2] M7 (fun v M8 => ∃ r7, v = some (.int r7) ∧ ((r7 ≤ r6 → jRun X T0 (d + 1) q_X1_tryAll (90, [.ref L, .ref S, .int a2, .int a3, .int a4, .null], [], M8) Q) ∧ (¬ r7 ≤ r6 → jRun X T0 (d + 1) q_X1_tryAll (86, [.ref L, .ref S, .int a2, .int a3, .int a4, .null], [], M8) Q)))))))))))) ∧ (¬ (a4 &&& (M1 S 1)) = (M1 S 1) → jRun X T0 (d + 1) q_X1_tryAll (114, [.ref L, .ref S, .int a2, .int a3, .int a4, .null], [], M1) Q)))))) : jRun X T0 (d + 1) q_X1_tryAll (22, [.ref L, .ref S, .int a2, .int a3, .int a4, .null], [], M) Q := by
  rcases hv with ⟨rfl, rfl, rfl, rfl⟩ | ⟨rfl, rfl, rfl, rfl⟩ | ⟨rfl, rfl, rfl, rfl⟩ | ⟨rfl, rfl, rfl, rfl⟩
  · refine jRun.call (k := jk_X1_tryAll) rfl 4 (f := q_X3_allJumps) (As := [.ref 12]) (c1 := (31, [.ref 42, .ref 22, .int a2, .int a3, .int a4, .null], [.int a4], M)) (ob := True ∧ True ∧ jKd T0 42 = 1 ∧ jKd T0 12 = 3) rfl ⟨trivial, trivial, rfl, rfl⟩ h (fun v M1 h => ?_)
    obtain ⟨r1, rfl, h⟩ := h
    show jRun X T0 (d + 1) q_X1_tryAll (31, [.ref 42, .ref 22, .int a2, .int a3, .int a4, .null], [.int r1, .int a4], M1) Q
    refine jRun.cut (k := jk_X1_tryAll) rfl 1 (c' := (if r1 ≤ a4 then 120 else 34, [.ref 42, .ref 22, .int a2, .int a3, .int a4, .null], [], M1)) (ob := True ∧ True) rfl ⟨trivial, trivial⟩ ?_
    refine jRun.br (fun g => ?_) (fun g => ?_)
    · have h := h.1 g
      refine jRun.call (k := jk_X1_tryAll) rfl 4 (f := q_X1_lay) (As := [.ref 42, .ref 22, .int a2]) (c1 := (126, [.ref 42, .ref 22, .int a2, .int a3, .int a4, .null], [], M1)) (ob := True ∧ True ∧ True ∧ jKd T0 42 = 1) rfl ⟨trivial, trivial, trivial, rfl⟩ h (fun v M2 h => ?_)
      obtain ⟨rfl, h⟩ := h
      show jRun X T0 (d + 1) q_X1_tryAll (126, [.ref 42, .ref 22, .int a2, .int a3, .int a4, .null], [], M2) Q
      refine jRun.cut (k := jk_X1_tryAll) rfl 3 (c' := (131, [.ref 42, .ref 22, .int a2, .int a3, .int a4, .null], [], (jP M2 42 3 0))) (ob := True ∧ True ∧ jKd T0 42 = 1 ∧ True) rfl ⟨trivial, trivial, rfl, trivial⟩ ?_
      refine jRun.nm (fun M3 eM3 => ?_)
      have h := h M3 eM3
      exact jRun.ret (k := jk_X1_tryAll) rfl 1 (v := none) (M1 := M3) (ob := True) rfl trivial h
    · have h := h.2 g
      refine jRun.cut (k := jk_X1_tryAll) rfl 7 (c' := (if (a4 &&& (M1 22 1)) = (M1 22 1) then 51 else 48, [.ref 42, .ref 22, .int a2, .int a3, .int a4, .null], [], M1)) (ob := True ∧ True ∧ jKd T0 22 = 5 ∧ True ∧ True ∧ jKd T0 22 = 5 ∧ True ∧ True) rfl ⟨trivial, trivial, rfl, trivial, trivial, rfl, trivial, trivial⟩ ?_
      refine jRun.br (fun g => ?_) (fun g => ?_)
      · have h := h.1 g
        refine jRun.call (k := jk_X1_tryAll) rfl 4 (f := q_X1_lay) (As := [.ref 42, .ref 22, .int a4]) (c1 := (58, [.ref 42, .ref 22, .int a2, .int a3, .int a4, .null], [], M1)) (ob := True ∧ True ∧ True ∧ jKd T0 42 = 1) rfl ⟨trivial, trivial, trivial, rfl⟩ h (fun v M4 h => ?_)
        obtain ⟨rfl, h⟩ := h
        show jRun X T0 (d + 1) q_X1_tryAll (58, [.ref 42, .ref 22, .int a2, .int a3, .int a4, .null], [], M4) Q
        refine jRun.call (k := jk_X1_tryAll) rfl 2 (f := q_X1_size) (As := [.ref 42]) (c1 := (62, [.ref 42, .ref 22, .int a2, .int a3, .int a4, .null], [], M4)) (ob := True ∧ jKd T0 42 = 1) rfl ⟨trivial, rfl⟩ h (fun v M5 h => ?_)
        obtain ⟨r4, rfl, h⟩ := h
        show jRun X T0 (d + 1) q_X1_tryAll (62, [.ref 42, .ref 22, .int a2, .int a3, .int a4, .null], [.int r4], M5) Q
        refine jRun.cut (k := jk_X1_tryAll) rfl 2 (c' := (if r4 < a3 then 86 else 66, [.ref 42, .ref 22, .int a2, .int a3, .int a4, .null], [], M5)) (ob := True ∧ True ∧ True) rfl ⟨trivial, trivial, trivial⟩ ?_
        refine jRun.br (fun g => ?_) (fun g => ?_)
        · have h := h.1 g
          exact h
        · have h := h.2 g
          refine jRun.call (k := jk_X1_tryAll) rfl 2 (f := q_X1_size) (As := [.ref 42]) (c1 := (70, [.ref 42, .ref 22, .int a2, .int a3, .int a4, .null], [], M5)) (ob := True ∧ jKd T0 42 = 1) rfl ⟨trivial, rfl⟩ h (fun v M6 h => ?_)
          obtain ⟨r5, rfl, h⟩ := h
          show jRun X T0 (d + 1) q_X1_tryAll (70, [.ref 42, .ref 22, .int a2, .int a3, .int a4, .null], [.int r5], M6) Q
          refine jRun.cut (k := jk_X1_tryAll) rfl 2 (c' := (if ¬ r5 = a3 then 90 else 74, [.ref 42, .ref 22, .int a2, .int a3, .int a4, .null], [], M6)) (ob := True ∧ True ∧ True) rfl ⟨trivial, trivial, trivial⟩ ?_
          refine jRun.brn (fun g => ?_) (fun g => ?_)
          · have h := h.1 g
            exact h
          · have h := h.2 g
            refine jRun.call (k := jk_X1_tryAll) rfl 2 (f := q_J6_bitCount_0f7a4) (As := [.int a4]) (c1 := (79, [.ref 42, .ref 22, .int a2, .int a3, .int a4, .null], [], M6)) (ob := True ∧ True) rfl ⟨trivial, trivial⟩ h (fun v M7 h => ?_)
            obtain ⟨r6, rfl, h⟩ := h
            show jRun X T0 (d + 1) q_X1_tryAll (79, [.ref 42, .ref 22, .int a2, .int a3, .int a4, .null], [.int r6], M7) Q
            refine jRun.call (k := jk_X1_tryAll) rfl 2 (f := q_J6_bitCount_0f7a4) (As := [.int a2]) (c1 := (83, [.ref 42, .ref 22, .int a2, .int a3, .int a4, .null], [.int r6], M7)) (ob := True ∧ True) rfl ⟨trivial, trivial⟩ h (fun v M8 h => ?_)
            obtain ⟨r7, rfl, h⟩ := h
            show jRun X T0 (d + 1) q_X1_tryAll (83, [.ref 42, .ref 22, .int a2, .int a3, .int a4, .null], [.int r7, .int r6], M8) Q
            refine jRun.cut (k := jk_X1_tryAll) rfl 1 (c' := (if r7 ≤ r6 then 90 else 86, [.ref 42, .ref 22, .int a2, .int a3, .int a4, .null], [], M8)) (ob := True ∧ True) rfl ⟨trivial, trivial⟩ ?_
            refine jRun.br (fun g => ?_) (fun g => ?_)
            · have h := h.1 g
              exact h
            · have h := h.2 g
              exact h
      · have h := h.2 g
        refine jRun.cut (k := jk_X1_tryAll) rfl 1 (c' := (114, [.ref 42, .ref 22, .int a2, .int a3, .int a4, .null], [], M1)) (ob := True ∧ True) rfl ⟨trivial, trivial⟩ ?_
        exact h
  · refine jRun.call (k := jk_X1_tryAll) rfl 4 (f := q_X3_allJumps) (As := [.ref 12]) (c1 := (31, [.ref 44, .ref 22, .int a2, .int a3, .int a4, .null], [.int a4], M)) (ob := True ∧ True ∧ jKd T0 44 = 1 ∧ jKd T0 12 = 3) rfl ⟨trivial, trivial, rfl, rfl⟩ h (fun v M1 h => ?_)
    obtain ⟨r1, rfl, h⟩ := h
    show jRun X T0 (d + 1) q_X1_tryAll (31, [.ref 44, .ref 22, .int a2, .int a3, .int a4, .null], [.int r1, .int a4], M1) Q
    refine jRun.cut (k := jk_X1_tryAll) rfl 1 (c' := (if r1 ≤ a4 then 120 else 34, [.ref 44, .ref 22, .int a2, .int a3, .int a4, .null], [], M1)) (ob := True ∧ True) rfl ⟨trivial, trivial⟩ ?_
    refine jRun.br (fun g => ?_) (fun g => ?_)
    · have h := h.1 g
      refine jRun.call (k := jk_X1_tryAll) rfl 4 (f := q_X1_lay) (As := [.ref 44, .ref 22, .int a2]) (c1 := (126, [.ref 44, .ref 22, .int a2, .int a3, .int a4, .null], [], M1)) (ob := True ∧ True ∧ True ∧ jKd T0 44 = 1) rfl ⟨trivial, trivial, trivial, rfl⟩ h (fun v M2 h => ?_)
      obtain ⟨rfl, h⟩ := h
      show jRun X T0 (d + 1) q_X1_tryAll (126, [.ref 44, .ref 22, .int a2, .int a3, .int a4, .null], [], M2) Q
      refine jRun.cut (k := jk_X1_tryAll) rfl 3 (c' := (131, [.ref 44, .ref 22, .int a2, .int a3, .int a4, .null], [], (jP M2 44 3 0))) (ob := True ∧ True ∧ jKd T0 44 = 1 ∧ True) rfl ⟨trivial, trivial, rfl, trivial⟩ ?_
      refine jRun.nm (fun M3 eM3 => ?_)
      have h := h M3 eM3
      exact jRun.ret (k := jk_X1_tryAll) rfl 1 (v := none) (M1 := M3) (ob := True) rfl trivial h
    · have h := h.2 g
      refine jRun.cut (k := jk_X1_tryAll) rfl 7 (c' := (if (a4 &&& (M1 22 1)) = (M1 22 1) then 51 else 48, [.ref 44, .ref 22, .int a2, .int a3, .int a4, .null], [], M1)) (ob := True ∧ True ∧ jKd T0 22 = 5 ∧ True ∧ True ∧ jKd T0 22 = 5 ∧ True ∧ True) rfl ⟨trivial, trivial, rfl, trivial, trivial, rfl, trivial, trivial⟩ ?_
      refine jRun.br (fun g => ?_) (fun g => ?_)
      · have h := h.1 g
        refine jRun.call (k := jk_X1_tryAll) rfl 4 (f := q_X1_lay) (As := [.ref 44, .ref 22, .int a4]) (c1 := (58, [.ref 44, .ref 22, .int a2, .int a3, .int a4, .null], [], M1)) (ob := True ∧ True ∧ True ∧ jKd T0 44 = 1) rfl ⟨trivial, trivial, trivial, rfl⟩ h (fun v M4 h => ?_)
        obtain ⟨rfl, h⟩ := h
        show jRun X T0 (d + 1) q_X1_tryAll (58, [.ref 44, .ref 22, .int a2, .int a3, .int a4, .null], [], M4) Q
        refine jRun.call (k := jk_X1_tryAll) rfl 2 (f := q_X1_size) (As := [.ref 44]) (c1 := (62, [.ref 44, .ref 22, .int a2, .int a3, .int a4, .null], [], M4)) (ob := True ∧ jKd T0 44 = 1) rfl ⟨trivial, rfl⟩ h (fun v M5 h => ?_)
        obtain ⟨r4, rfl, h⟩ := h
        show jRun X T0 (d + 1) q_X1_tryAll (62, [.ref 44, .ref 22, .int a2, .int a3, .int a4, .null], [.int r4], M5) Q
        refine jRun.cut (k := jk_X1_tryAll) rfl 2 (c' := (if r4 < a3 then 86 else 66, [.ref 44, .ref 22, .int a2, .int a3, .int a4, .null], [], M5)) (ob := True ∧ True ∧ True) rfl ⟨trivial, trivial, trivial⟩ ?_
        refine jRun.br (fun g => ?_) (fun g => ?_)
        · have h := h.1 g
          exact h
        · have h := h.2 g
          refine jRun.call (k := jk_X1_tryAll) rfl 2 (f := q_X1_size) (As := [.ref 44]) (c1 := (70, [.ref 44, .ref 22, .int a2, .int a3, .int a4, .null], [], M5)) (ob := True ∧ jKd T0 44 = 1) rfl ⟨trivial, rfl⟩ h (fun v M6 h => ?_)
          obtain ⟨r5, rfl, h⟩ := h
          show jRun X T0 (d + 1) q_X1_tryAll (70, [.ref 44, .ref 22, .int a2, .int a3, .int a4, .null], [.int r5], M6) Q
          refine jRun.cut (k := jk_X1_tryAll) rfl 2 (c' := (if ¬ r5 = a3 then 90 else 74, [.ref 44, .ref 22, .int a2, .int a3, .int a4, .null], [], M6)) (ob := True ∧ True ∧ True) rfl ⟨trivial, trivial, trivial⟩ ?_
          refine jRun.brn (fun g => ?_) (fun g => ?_)
          · have h := h.1 g
            exact h
          · have h := h.2 g
            refine jRun.call (k := jk_X1_tryAll) rfl 2 (f := q_J6_bitCount_0f7a4) (As := [.int a4]) (c1 := (79, [.ref 44, .ref 22, .int a2, .int a3, .int a4, .null], [], M6)) (ob := True ∧ True) rfl ⟨trivial, trivial⟩ h (fun v M7 h => ?_)
            obtain ⟨r6, rfl, h⟩ := h
            show jRun X T0 (d + 1) q_X1_tryAll (79, [.ref 44, .ref 22, .int a2, .int a3, .int a4, .null], [.int r6], M7) Q
            refine jRun.call (k := jk_X1_tryAll) rfl 2 (f := q_J6_bitCount_0f7a4) (As := [.int a2]) (c1 := (83, [.ref 44, .ref 22, .int a2, .int a3, .int a4, .null], [.int r6], M7)) (ob := True ∧ True) rfl ⟨trivial, trivial⟩ h (fun v M8 h => ?_)
            obtain ⟨r7, rfl, h⟩ := h
            show jRun X T0 (d + 1) q_X1_tryAll (83, [.ref 44, .ref 22, .int a2, .int a3, .int a4, .null], [.int r7, .int r6], M8) Q
            refine jRun.cut (k := jk_X1_tryAll) rfl 1 (c' := (if r7 ≤ r6 then 90 else 86, [.ref 44, .ref 22, .int a2, .int a3, .int a4, .null], [], M8)) (ob := True ∧ True) rfl ⟨trivial, trivial⟩ ?_
            refine jRun.br (fun g => ?_) (fun g => ?_)
            · have h := h.1 g
              exact h
            · have h := h.2 g
              exact h
      · have h := h.2 g
        refine jRun.cut (k := jk_X1_tryAll) rfl 1 (c' := (114, [.ref 44, .ref 22, .int a2, .int a3, .int a4, .null], [], M1)) (ob := True ∧ True) rfl ⟨trivial, trivial⟩ ?_
        exact h
  · refine jRun.call (k := jk_X1_tryAll) rfl 4 (f := q_X3_allJumps) (As := [.ref 12]) (c1 := (31, [.ref 46, .ref 22, .int a2, .int a3, .int a4, .null], [.int a4], M)) (ob := True ∧ True ∧ jKd T0 46 = 1 ∧ jKd T0 12 = 3) rfl ⟨trivial, trivial, rfl, rfl⟩ h (fun v M1 h => ?_)
    obtain ⟨r1, rfl, h⟩ := h
    show jRun X T0 (d + 1) q_X1_tryAll (31, [.ref 46, .ref 22, .int a2, .int a3, .int a4, .null], [.int r1, .int a4], M1) Q
    refine jRun.cut (k := jk_X1_tryAll) rfl 1 (c' := (if r1 ≤ a4 then 120 else 34, [.ref 46, .ref 22, .int a2, .int a3, .int a4, .null], [], M1)) (ob := True ∧ True) rfl ⟨trivial, trivial⟩ ?_
    refine jRun.br (fun g => ?_) (fun g => ?_)
    · have h := h.1 g
      refine jRun.call (k := jk_X1_tryAll) rfl 4 (f := q_X1_lay) (As := [.ref 46, .ref 22, .int a2]) (c1 := (126, [.ref 46, .ref 22, .int a2, .int a3, .int a4, .null], [], M1)) (ob := True ∧ True ∧ True ∧ jKd T0 46 = 1) rfl ⟨trivial, trivial, trivial, rfl⟩ h (fun v M2 h => ?_)
      obtain ⟨rfl, h⟩ := h
      show jRun X T0 (d + 1) q_X1_tryAll (126, [.ref 46, .ref 22, .int a2, .int a3, .int a4, .null], [], M2) Q
      refine jRun.cut (k := jk_X1_tryAll) rfl 3 (c' := (131, [.ref 46, .ref 22, .int a2, .int a3, .int a4, .null], [], (jP M2 46 3 0))) (ob := True ∧ True ∧ jKd T0 46 = 1 ∧ True) rfl ⟨trivial, trivial, rfl, trivial⟩ ?_
      refine jRun.nm (fun M3 eM3 => ?_)
      have h := h M3 eM3
      exact jRun.ret (k := jk_X1_tryAll) rfl 1 (v := none) (M1 := M3) (ob := True) rfl trivial h
    · have h := h.2 g
      refine jRun.cut (k := jk_X1_tryAll) rfl 7 (c' := (if (a4 &&& (M1 22 1)) = (M1 22 1) then 51 else 48, [.ref 46, .ref 22, .int a2, .int a3, .int a4, .null], [], M1)) (ob := True ∧ True ∧ jKd T0 22 = 5 ∧ True ∧ True ∧ jKd T0 22 = 5 ∧ True ∧ True) rfl ⟨trivial, trivial, rfl, trivial, trivial, rfl, trivial, trivial⟩ ?_
      refine jRun.br (fun g => ?_) (fun g => ?_)
      · have h := h.1 g
        refine jRun.call (k := jk_X1_tryAll) rfl 4 (f := q_X1_lay) (As := [.ref 46, .ref 22, .int a4]) (c1 := (58, [.ref 46, .ref 22, .int a2, .int a3, .int a4, .null], [], M1)) (ob := True ∧ True ∧ True ∧ jKd T0 46 = 1) rfl ⟨trivial, trivial, trivial, rfl⟩ h (fun v M4 h => ?_)
        obtain ⟨rfl, h⟩ := h
        show jRun X T0 (d + 1) q_X1_tryAll (58, [.ref 46, .ref 22, .int a2, .int a3, .int a4, .null], [], M4) Q
        refine jRun.call (k := jk_X1_tryAll) rfl 2 (f := q_X1_size) (As := [.ref 46]) (c1 := (62, [.ref 46, .ref 22, .int a2, .int a3, .int a4, .null], [], M4)) (ob := True ∧ jKd T0 46 = 1) rfl ⟨trivial, rfl⟩ h (fun v M5 h => ?_)
        obtain ⟨r4, rfl, h⟩ := h
        show jRun X T0 (d + 1) q_X1_tryAll (62, [.ref 46, .ref 22, .int a2, .int a3, .int a4, .null], [.int r4], M5) Q
        refine jRun.cut (k := jk_X1_tryAll) rfl 2 (c' := (if r4 < a3 then 86 else 66, [.ref 46, .ref 22, .int a2, .int a3, .int a4, .null], [], M5)) (ob := True ∧ True ∧ True) rfl ⟨trivial, trivial, trivial⟩ ?_
        refine jRun.br (fun g => ?_) (fun g => ?_)
        · have h := h.1 g
          exact h
        · have h := h.2 g
          refine jRun.call (k := jk_X1_tryAll) rfl 2 (f := q_X1_size) (As := [.ref 46]) (c1 := (70, [.ref 46, .ref 22, .int a2, .int a3, .int a4, .null], [], M5)) (ob := True ∧ jKd T0 46 = 1) rfl ⟨trivial, rfl⟩ h (fun v M6 h => ?_)
          obtain ⟨r5, rfl, h⟩ := h
          show jRun X T0 (d + 1) q_X1_tryAll (70, [.ref 46, .ref 22, .int a2, .int a3, .int a4, .null], [.int r5], M6) Q
          refine jRun.cut (k := jk_X1_tryAll) rfl 2 (c' := (if ¬ r5 = a3 then 90 else 74, [.ref 46, .ref 22, .int a2, .int a3, .int a4, .null], [], M6)) (ob := True ∧ True ∧ True) rfl ⟨trivial, trivial, trivial⟩ ?_
          refine jRun.brn (fun g => ?_) (fun g => ?_)
          · have h := h.1 g
            exact h
          · have h := h.2 g
            refine jRun.call (k := jk_X1_tryAll) rfl 2 (f := q_J6_bitCount_0f7a4) (As := [.int a4]) (c1 := (79, [.ref 46, .ref 22, .int a2, .int a3, .int a4, .null], [], M6)) (ob := True ∧ True) rfl ⟨trivial, trivial⟩ h (fun v M7 h => ?_)
            obtain ⟨r6, rfl, h⟩ := h
            show jRun X T0 (d + 1) q_X1_tryAll (79, [.ref 46, .ref 22, .int a2, .int a3, .int a4, .null], [.int r6], M7) Q
            refine jRun.call (k := jk_X1_tryAll) rfl 2 (f := q_J6_bitCount_0f7a4) (As := [.int a2]) (c1 := (83, [.ref 46, .ref 22, .int a2, .int a3, .int a4, .null], [.int r6], M7)) (ob := True ∧ True) rfl ⟨trivial, trivial⟩ h (fun v M8 h => ?_)
            obtain ⟨r7, rfl, h⟩ := h
            show jRun X T0 (d + 1) q_X1_tryAll (83, [.ref 46, .ref 22, .int a2, .int a3, .int a4, .null], [.int r7, .int r6], M8) Q
            refine jRun.cut (k := jk_X1_tryAll) rfl 1 (c' := (if r7 ≤ r6 then 90 else 86, [.ref 46, .ref 22, .int a2, .int a3, .int a4, .null], [], M8)) (ob := True ∧ True) rfl ⟨trivial, trivial⟩ ?_
            refine jRun.br (fun g => ?_) (fun g => ?_)
            · have h := h.1 g
              exact h
            · have h := h.2 g
              exact h
      · have h := h.2 g
        refine jRun.cut (k := jk_X1_tryAll) rfl 1 (c' := (114, [.ref 46, .ref 22, .int a2, .int a3, .int a4, .null], [], M1)) (ob := True ∧ True) rfl ⟨trivial, trivial⟩ ?_
        exact h
  · refine jRun.call (k := jk_X1_tryAll) rfl 4 (f := q_X3_allJumps) (As := [.ref 12]) (c1 := (31, [.ref 51, .ref 49, .int a2, .int a3, .int a4, .null], [.int a4], M)) (ob := True ∧ True ∧ jKd T0 51 = 1 ∧ jKd T0 12 = 3) rfl ⟨trivial, trivial, rfl, rfl⟩ h (fun v M1 h => ?_)
    obtain ⟨r1, rfl, h⟩ := h
    show jRun X T0 (d + 1) q_X1_tryAll (31, [.ref 51, .ref 49, .int a2, .int a3, .int a4, .null], [.int r1, .int a4], M1) Q
    refine jRun.cut (k := jk_X1_tryAll) rfl 1 (c' := (if r1 ≤ a4 then 120 else 34, [.ref 51, .ref 49, .int a2, .int a3, .int a4, .null], [], M1)) (ob := True ∧ True) rfl ⟨trivial, trivial⟩ ?_
    refine jRun.br (fun g => ?_) (fun g => ?_)
    · have h := h.1 g
      refine jRun.call (k := jk_X1_tryAll) rfl 4 (f := q_X1_lay) (As := [.ref 51, .ref 49, .int a2]) (c1 := (126, [.ref 51, .ref 49, .int a2, .int a3, .int a4, .null], [], M1)) (ob := True ∧ True ∧ True ∧ jKd T0 51 = 1) rfl ⟨trivial, trivial, trivial, rfl⟩ h (fun v M2 h => ?_)
      obtain ⟨rfl, h⟩ := h
      show jRun X T0 (d + 1) q_X1_tryAll (126, [.ref 51, .ref 49, .int a2, .int a3, .int a4, .null], [], M2) Q
      refine jRun.cut (k := jk_X1_tryAll) rfl 3 (c' := (131, [.ref 51, .ref 49, .int a2, .int a3, .int a4, .null], [], (jP M2 51 3 0))) (ob := True ∧ True ∧ jKd T0 51 = 1 ∧ True) rfl ⟨trivial, trivial, rfl, trivial⟩ ?_
      refine jRun.nm (fun M3 eM3 => ?_)
      have h := h M3 eM3
      exact jRun.ret (k := jk_X1_tryAll) rfl 1 (v := none) (M1 := M3) (ob := True) rfl trivial h
    · have h := h.2 g
      refine jRun.cut (k := jk_X1_tryAll) rfl 7 (c' := (if (a4 &&& (M1 49 1)) = (M1 49 1) then 51 else 48, [.ref 51, .ref 49, .int a2, .int a3, .int a4, .null], [], M1)) (ob := True ∧ True ∧ jKd T0 49 = 5 ∧ True ∧ True ∧ jKd T0 49 = 5 ∧ True ∧ True) rfl ⟨trivial, trivial, rfl, trivial, trivial, rfl, trivial, trivial⟩ ?_
      refine jRun.br (fun g => ?_) (fun g => ?_)
      · have h := h.1 g
        refine jRun.call (k := jk_X1_tryAll) rfl 4 (f := q_X1_lay) (As := [.ref 51, .ref 49, .int a4]) (c1 := (58, [.ref 51, .ref 49, .int a2, .int a3, .int a4, .null], [], M1)) (ob := True ∧ True ∧ True ∧ jKd T0 51 = 1) rfl ⟨trivial, trivial, trivial, rfl⟩ h (fun v M4 h => ?_)
        obtain ⟨rfl, h⟩ := h
        show jRun X T0 (d + 1) q_X1_tryAll (58, [.ref 51, .ref 49, .int a2, .int a3, .int a4, .null], [], M4) Q
        refine jRun.call (k := jk_X1_tryAll) rfl 2 (f := q_X1_size) (As := [.ref 51]) (c1 := (62, [.ref 51, .ref 49, .int a2, .int a3, .int a4, .null], [], M4)) (ob := True ∧ jKd T0 51 = 1) rfl ⟨trivial, rfl⟩ h (fun v M5 h => ?_)
        obtain ⟨r4, rfl, h⟩ := h
        show jRun X T0 (d + 1) q_X1_tryAll (62, [.ref 51, .ref 49, .int a2, .int a3, .int a4, .null], [.int r4], M5) Q
        refine jRun.cut (k := jk_X1_tryAll) rfl 2 (c' := (if r4 < a3 then 86 else 66, [.ref 51, .ref 49, .int a2, .int a3, .int a4, .null], [], M5)) (ob := True ∧ True ∧ True) rfl ⟨trivial, trivial, trivial⟩ ?_
        refine jRun.br (fun g => ?_) (fun g => ?_)
        · have h := h.1 g
          exact h
        · have h := h.2 g
          refine jRun.call (k := jk_X1_tryAll) rfl 2 (f := q_X1_size) (As := [.ref 51]) (c1 := (70, [.ref 51, .ref 49, .int a2, .int a3, .int a4, .null], [], M5)) (ob := True ∧ jKd T0 51 = 1) rfl ⟨trivial, rfl⟩ h (fun v M6 h => ?_)
          obtain ⟨r5, rfl, h⟩ := h
          show jRun X T0 (d + 1) q_X1_tryAll (70, [.ref 51, .ref 49, .int a2, .int a3, .int a4, .null], [.int r5], M6) Q
          refine jRun.cut (k := jk_X1_tryAll) rfl 2 (c' := (if ¬ r5 = a3 then 90 else 74, [.ref 51, .ref 49, .int a2, .int a3, .int a4, .null], [], M6)) (ob := True ∧ True ∧ True) rfl ⟨trivial, trivial, trivial⟩ ?_
          refine jRun.brn (fun g => ?_) (fun g => ?_)
          · have h := h.1 g
            exact h
          · have h := h.2 g
            refine jRun.call (k := jk_X1_tryAll) rfl 2 (f := q_J6_bitCount_0f7a4) (As := [.int a4]) (c1 := (79, [.ref 51, .ref 49, .int a2, .int a3, .int a4, .null], [], M6)) (ob := True ∧ True) rfl ⟨trivial, trivial⟩ h (fun v M7 h => ?_)
            obtain ⟨r6, rfl, h⟩ := h
            show jRun X T0 (d + 1) q_X1_tryAll (79, [.ref 51, .ref 49, .int a2, .int a3, .int a4, .null], [.int r6], M7) Q
            refine jRun.call (k := jk_X1_tryAll) rfl 2 (f := q_J6_bitCount_0f7a4) (As := [.int a2]) (c1 := (83, [.ref 51, .ref 49, .int a2, .int a3, .int a4, .null], [.int r6], M7)) (ob := True ∧ True) rfl ⟨trivial, trivial⟩ h (fun v M8 h => ?_)
            obtain ⟨r7, rfl, h⟩ := h
            show jRun X T0 (d + 1) q_X1_tryAll (83, [.ref 51, .ref 49, .int a2, .int a3, .int a4, .null], [.int r7, .int r6], M8) Q
            refine jRun.cut (k := jk_X1_tryAll) rfl 1 (c' := (if r7 ≤ r6 then 90 else 86, [.ref 51, .ref 49, .int a2, .int a3, .int a4, .null], [], M8)) (ob := True ∧ True) rfl ⟨trivial, trivial⟩ ?_
            refine jRun.br (fun g => ?_) (fun g => ?_)
            · have h := h.1 g
              exact h
            · have h := h.2 g
              exact h
      · have h := h.2 g
        refine jRun.cut (k := jk_X1_tryAll) rfl 1 (c' := (114, [.ref 51, .ref 49, .int a2, .int a3, .int a4, .null], [], M1)) (ob := True ∧ True) rfl ⟨trivial, trivial⟩ ?_
        exact h
theorem v_X1_tryAll_86 {X : jX} {d : Nat} {L A S Z : Nat} (hv : jLS L A S Z) (a2 : Int32) (a3 : Int32) (a4 : Int32) (M : jMem) (Q : Option Value → jMem → Prop) (h : jRun X T0 (d + 1) q_X1_tryAll (91, [.ref L, .ref S, .int a2, .int a3, .int a4, .null], [.int 1], M) Q) : jRun X T0 (d + 1) q_X1_tryAll (86, [.ref L, .ref S, .int a2, .int a3, .int a4, .null], [], M) Q := by
  rcases hv with ⟨rfl, rfl, rfl, rfl⟩ | ⟨rfl, rfl, rfl, rfl⟩ | ⟨rfl, rfl, rfl, rfl⟩ | ⟨rfl, rfl, rfl, rfl⟩
  · refine jRun.cut (k := jk_X1_tryAll) rfl 2 (c' := (91, [.ref 42, .ref 22, .int a2, .int a3, .int a4, .null], [.int 1], M)) (ob := True ∧ True ∧ True) rfl ⟨trivial, trivial, trivial⟩ ?_
    exact h
  · refine jRun.cut (k := jk_X1_tryAll) rfl 2 (c' := (91, [.ref 44, .ref 22, .int a2, .int a3, .int a4, .null], [.int 1], M)) (ob := True ∧ True ∧ True) rfl ⟨trivial, trivial, trivial⟩ ?_
    exact h
  · refine jRun.cut (k := jk_X1_tryAll) rfl 2 (c' := (91, [.ref 46, .ref 22, .int a2, .int a3, .int a4, .null], [.int 1], M)) (ob := True ∧ True ∧ True) rfl ⟨trivial, trivial, trivial⟩ ?_
    exact h
  · refine jRun.cut (k := jk_X1_tryAll) rfl 2 (c' := (91, [.ref 51, .ref 49, .int a2, .int a3, .int a4, .null], [.int 1], M)) (ob := True ∧ True ∧ True) rfl ⟨trivial, trivial, trivial⟩ ?_
    exact h
theorem v_X1_tryAll_90 {X : jX} {d : Nat} {L A S Z : Nat} (hv : jLS L A S Z) (a2 : Int32) (a3 : Int32) (a4 : Int32) (M : jMem) (Q : Option Value → jMem → Prop) (h : jRun X T0 (d + 1) q_X1_tryAll (91, [.ref L, .ref S, .int a2, .int a3, .int a4, .null], [.int 0], M) Q) : jRun X T0 (d + 1) q_X1_tryAll (90, [.ref L, .ref S, .int a2, .int a3, .int a4, .null], [], M) Q := by
  rcases hv with ⟨rfl, rfl, rfl, rfl⟩ | ⟨rfl, rfl, rfl, rfl⟩ | ⟨rfl, rfl, rfl, rfl⟩ | ⟨rfl, rfl, rfl, rfl⟩
  · refine jRun.cut (k := jk_X1_tryAll) rfl 1 (c' := (91, [.ref 42, .ref 22, .int a2, .int a3, .int a4, .null], [.int 0], M)) (ob := True ∧ True) rfl ⟨trivial, trivial⟩ ?_
    exact h
  · refine jRun.cut (k := jk_X1_tryAll) rfl 1 (c' := (91, [.ref 44, .ref 22, .int a2, .int a3, .int a4, .null], [.int 0], M)) (ob := True ∧ True) rfl ⟨trivial, trivial⟩ ?_
    exact h
  · refine jRun.cut (k := jk_X1_tryAll) rfl 1 (c' := (91, [.ref 46, .ref 22, .int a2, .int a3, .int a4, .null], [.int 0], M)) (ob := True ∧ True) rfl ⟨trivial, trivial⟩ ?_
    exact h
  · refine jRun.cut (k := jk_X1_tryAll) rfl 1 (c' := (91, [.ref 51, .ref 49, .int a2, .int a3, .int a4, .null], [.int 0], M)) (ob := True ∧ True) rfl ⟨trivial, trivial⟩ ?_
    exact h
theorem v_X1_tryAll_91 {X : jX} {d : Nat} {L A S Z : Nat} (hv : jLS L A S Z) (a2 : Int32) (a3 : Int32) (a4 : Int32) (s0 : Int32) (M : jMem) (Q : Option Value → jMem → Prop) (h : ((s0 = 0 → jRun X T0 (d + 1) q_X1_tryAll (114, [.ref L, .ref S, .int a2, .int a3, .int a4, .null], [], M) Q) ∧ (¬ s0 = 0 → jOk X T0 d q_X1_strandedJumps [.ref L, .ref S] M (fun v M1 => ∃ r1, v = some (.int r1) ∧ ((¬ r1 = 0 → jRun X T0 (d + 1) q_X1_tryAll (114, [.ref L, .ref S, .int a2, .int a3, .int a4, .null], [], M1) Q) ∧ (r1 = 0 → jOk X T0 d q_X1_size [.ref L] M1 (fun v M2 => ∃ r2, v = some (.int r2) ∧ jRun X T0 (d + 1) q_X1_tryAll (114, [.ref L, .ref S, .int a4, .int r2, .int a4, .null], [], M2) Q))))))) : jRun X T0 (d + 1) q_X1_tryAll (91, [.ref L, .ref S, .int a2, .int a3, .int a4, .null], [.int s0], M) Q := by
  rcases hv with ⟨rfl, rfl, rfl, rfl⟩ | ⟨rfl, rfl, rfl, rfl⟩ | ⟨rfl, rfl, rfl, rfl⟩ | ⟨rfl, rfl, rfl, rfl⟩
  · refine jRun.cut (k := jk_X1_tryAll) rfl 3 (c' := (if s0 = 0 then 114 else 98, [.ref 42, .ref 22, .int a2, .int a3, .int a4, .int s0], [], M)) (ob := True ∧ True ∧ True ∧ True) rfl ⟨trivial, trivial, trivial, trivial⟩ ?_
    refine jRun.br (fun g => ?_) (fun g => ?_)
    · have h := h.1 g
      exact jRun.weak (by simp [jFew]) h
    · have h := h.2 g
      refine jRun.call (k := jk_X1_tryAll) rfl 3 (f := q_X1_strandedJumps) (As := [.ref 42, .ref 22]) (c1 := (103, [.ref 42, .ref 22, .int a2, .int a3, .int a4, .int s0], [], M)) (ob := True ∧ True ∧ jKd T0 42 = 1) rfl ⟨trivial, trivial, rfl⟩ h (fun v M1 h => ?_)
      obtain ⟨r1, rfl, h⟩ := h
      show jRun X T0 (d + 1) q_X1_tryAll (103, [.ref 42, .ref 22, .int a2, .int a3, .int a4, .int s0], [.int r1], M1) Q
      refine jRun.cut (k := jk_X1_tryAll) rfl 1 (c' := (if ¬ r1 = 0 then 114 else 106, [.ref 42, .ref 22, .int a2, .int a3, .int a4, .int s0], [], M1)) (ob := True ∧ True) rfl ⟨trivial, trivial⟩ ?_
      refine jRun.brn (fun g => ?_) (fun g => ?_)
      · have h := h.1 g
        exact jRun.weak (by simp [jFew]) h
      · have h := h.2 g
        refine jRun.call (k := jk_X1_tryAll) rfl 4 (f := q_X1_size) (As := [.ref 42]) (c1 := (113, [.ref 42, .ref 22, .int a4, .int a3, .int a4, .int s0], [], M1)) (ob := True ∧ True ∧ True ∧ jKd T0 42 = 1) rfl ⟨trivial, trivial, trivial, rfl⟩ h (fun v M2 h => ?_)
        obtain ⟨r2, rfl, h⟩ := h
        show jRun X T0 (d + 1) q_X1_tryAll (113, [.ref 42, .ref 22, .int a4, .int a3, .int a4, .int s0], [.int r2], M2) Q
        refine jRun.cut (k := jk_X1_tryAll) rfl 1 (c' := (114, [.ref 42, .ref 22, .int a4, .int r2, .int a4, .int s0], [], M2)) (ob := True ∧ True) rfl ⟨trivial, trivial⟩ ?_
        exact jRun.weak (by simp [jFew]) h
  · refine jRun.cut (k := jk_X1_tryAll) rfl 3 (c' := (if s0 = 0 then 114 else 98, [.ref 44, .ref 22, .int a2, .int a3, .int a4, .int s0], [], M)) (ob := True ∧ True ∧ True ∧ True) rfl ⟨trivial, trivial, trivial, trivial⟩ ?_
    refine jRun.br (fun g => ?_) (fun g => ?_)
    · have h := h.1 g
      exact jRun.weak (by simp [jFew]) h
    · have h := h.2 g
      refine jRun.call (k := jk_X1_tryAll) rfl 3 (f := q_X1_strandedJumps) (As := [.ref 44, .ref 22]) (c1 := (103, [.ref 44, .ref 22, .int a2, .int a3, .int a4, .int s0], [], M)) (ob := True ∧ True ∧ jKd T0 44 = 1) rfl ⟨trivial, trivial, rfl⟩ h (fun v M1 h => ?_)
      obtain ⟨r1, rfl, h⟩ := h
      show jRun X T0 (d + 1) q_X1_tryAll (103, [.ref 44, .ref 22, .int a2, .int a3, .int a4, .int s0], [.int r1], M1) Q
      refine jRun.cut (k := jk_X1_tryAll) rfl 1 (c' := (if ¬ r1 = 0 then 114 else 106, [.ref 44, .ref 22, .int a2, .int a3, .int a4, .int s0], [], M1)) (ob := True ∧ True) rfl ⟨trivial, trivial⟩ ?_
      refine jRun.brn (fun g => ?_) (fun g => ?_)
      · have h := h.1 g
        exact jRun.weak (by simp [jFew]) h
      · have h := h.2 g
        refine jRun.call (k := jk_X1_tryAll) rfl 4 (f := q_X1_size) (As := [.ref 44]) (c1 := (113, [.ref 44, .ref 22, .int a4, .int a3, .int a4, .int s0], [], M1)) (ob := True ∧ True ∧ True ∧ jKd T0 44 = 1) rfl ⟨trivial, trivial, trivial, rfl⟩ h (fun v M2 h => ?_)
        obtain ⟨r2, rfl, h⟩ := h
        show jRun X T0 (d + 1) q_X1_tryAll (113, [.ref 44, .ref 22, .int a4, .int a3, .int a4, .int s0], [.int r2], M2) Q
        refine jRun.cut (k := jk_X1_tryAll) rfl 1 (c' := (114, [.ref 44, .ref 22, .int a4, .int r2, .int a4, .int s0], [], M2)) (ob := True ∧ True) rfl ⟨trivial, trivial⟩ ?_
        exact jRun.weak (by simp [jFew]) h
  · refine jRun.cut (k := jk_X1_tryAll) rfl 3 (c' := (if s0 = 0 then 114 else 98, [.ref 46, .ref 22, .int a2, .int a3, .int a4, .int s0], [], M)) (ob := True ∧ True ∧ True ∧ True) rfl ⟨trivial, trivial, trivial, trivial⟩ ?_
    refine jRun.br (fun g => ?_) (fun g => ?_)
    · have h := h.1 g
      exact jRun.weak (by simp [jFew]) h
    · have h := h.2 g
      refine jRun.call (k := jk_X1_tryAll) rfl 3 (f := q_X1_strandedJumps) (As := [.ref 46, .ref 22]) (c1 := (103, [.ref 46, .ref 22, .int a2, .int a3, .int a4, .int s0], [], M)) (ob := True ∧ True ∧ jKd T0 46 = 1) rfl ⟨trivial, trivial, rfl⟩ h (fun v M1 h => ?_)
      obtain ⟨r1, rfl, h⟩ := h
      show jRun X T0 (d + 1) q_X1_tryAll (103, [.ref 46, .ref 22, .int a2, .int a3, .int a4, .int s0], [.int r1], M1) Q
      refine jRun.cut (k := jk_X1_tryAll) rfl 1 (c' := (if ¬ r1 = 0 then 114 else 106, [.ref 46, .ref 22, .int a2, .int a3, .int a4, .int s0], [], M1)) (ob := True ∧ True) rfl ⟨trivial, trivial⟩ ?_
      refine jRun.brn (fun g => ?_) (fun g => ?_)
      · have h := h.1 g
        exact jRun.weak (by simp [jFew]) h
      · have h := h.2 g
        refine jRun.call (k := jk_X1_tryAll) rfl 4 (f := q_X1_size) (As := [.ref 46]) (c1 := (113, [.ref 46, .ref 22, .int a4, .int a3, .int a4, .int s0], [], M1)) (ob := True ∧ True ∧ True ∧ jKd T0 46 = 1) rfl ⟨trivial, trivial, trivial, rfl⟩ h (fun v M2 h => ?_)
        obtain ⟨r2, rfl, h⟩ := h
        show jRun X T0 (d + 1) q_X1_tryAll (113, [.ref 46, .ref 22, .int a4, .int a3, .int a4, .int s0], [.int r2], M2) Q
        refine jRun.cut (k := jk_X1_tryAll) rfl 1 (c' := (114, [.ref 46, .ref 22, .int a4, .int r2, .int a4, .int s0], [], M2)) (ob := True ∧ True) rfl ⟨trivial, trivial⟩ ?_
        exact jRun.weak (by simp [jFew]) h
  · refine jRun.cut (k := jk_X1_tryAll) rfl 3 (c' := (if s0 = 0 then 114 else 98, [.ref 51, .ref 49, .int a2, .int a3, .int a4, .int s0], [], M)) (ob := True ∧ True ∧ True ∧ True) rfl ⟨trivial, trivial, trivial, trivial⟩ ?_
    refine jRun.br (fun g => ?_) (fun g => ?_)
    · have h := h.1 g
      exact jRun.weak (by simp [jFew]) h
    · have h := h.2 g
      refine jRun.call (k := jk_X1_tryAll) rfl 3 (f := q_X1_strandedJumps) (As := [.ref 51, .ref 49]) (c1 := (103, [.ref 51, .ref 49, .int a2, .int a3, .int a4, .int s0], [], M)) (ob := True ∧ True ∧ jKd T0 51 = 1) rfl ⟨trivial, trivial, rfl⟩ h (fun v M1 h => ?_)
      obtain ⟨r1, rfl, h⟩ := h
      show jRun X T0 (d + 1) q_X1_tryAll (103, [.ref 51, .ref 49, .int a2, .int a3, .int a4, .int s0], [.int r1], M1) Q
      refine jRun.cut (k := jk_X1_tryAll) rfl 1 (c' := (if ¬ r1 = 0 then 114 else 106, [.ref 51, .ref 49, .int a2, .int a3, .int a4, .int s0], [], M1)) (ob := True ∧ True) rfl ⟨trivial, trivial⟩ ?_
      refine jRun.brn (fun g => ?_) (fun g => ?_)
      · have h := h.1 g
        exact jRun.weak (by simp [jFew]) h
      · have h := h.2 g
        refine jRun.call (k := jk_X1_tryAll) rfl 4 (f := q_X1_size) (As := [.ref 51]) (c1 := (113, [.ref 51, .ref 49, .int a4, .int a3, .int a4, .int s0], [], M1)) (ob := True ∧ True ∧ True ∧ jKd T0 51 = 1) rfl ⟨trivial, trivial, trivial, rfl⟩ h (fun v M2 h => ?_)
        obtain ⟨r2, rfl, h⟩ := h
        show jRun X T0 (d + 1) q_X1_tryAll (113, [.ref 51, .ref 49, .int a4, .int a3, .int a4, .int s0], [.int r2], M2) Q
        refine jRun.cut (k := jk_X1_tryAll) rfl 1 (c' := (114, [.ref 51, .ref 49, .int a4, .int r2, .int a4, .int s0], [], M2)) (ob := True ∧ True) rfl ⟨trivial, trivial⟩ ?_
        exact jRun.weak (by simp [jFew]) h
theorem v_X1_tryAll_114 {X : jX} {d : Nat} {L A S Z : Nat} (hv : jLS L A S Z) (a2 : Int32) (a3 : Int32) (a4 : Int32) (M : jMem) (Q : Option Value → jMem → Prop) (h : jRun X T0 (d + 1) q_X1_tryAll (22, [.ref L, .ref S, .int a2, .int a3, .int (a4 + 1), .null], [], M) Q) : jRun X T0 (d + 1) q_X1_tryAll (114, [.ref L, .ref S, .int a2, .int a3, .int a4, .null], [], M) Q := by
  rcases hv with ⟨rfl, rfl, rfl, rfl⟩ | ⟨rfl, rfl, rfl, rfl⟩ | ⟨rfl, rfl, rfl, rfl⟩ | ⟨rfl, rfl, rfl, rfl⟩
  · refine jRun.cut (k := jk_X1_tryAll) rfl 2 (c' := (22, [.ref 42, .ref 22, .int a2, .int a3, .int (a4 + 1), .null], [], M)) (ob := True ∧ True ∧ True) rfl ⟨trivial, trivial, trivial⟩ ?_
    exact h
  · refine jRun.cut (k := jk_X1_tryAll) rfl 2 (c' := (22, [.ref 44, .ref 22, .int a2, .int a3, .int (a4 + 1), .null], [], M)) (ob := True ∧ True ∧ True) rfl ⟨trivial, trivial, trivial⟩ ?_
    exact h
  · refine jRun.cut (k := jk_X1_tryAll) rfl 2 (c' := (22, [.ref 46, .ref 22, .int a2, .int a3, .int (a4 + 1), .null], [], M)) (ob := True ∧ True ∧ True) rfl ⟨trivial, trivial, trivial⟩ ?_
    exact h
  · refine jRun.cut (k := jk_X1_tryAll) rfl 2 (c' := (22, [.ref 51, .ref 49, .int a2, .int a3, .int (a4 + 1), .null], [], M)) (ob := True ∧ True ∧ True) rfl ⟨trivial, trivial, trivial⟩ ?_
    exact h
theorem v_X1_isLong {X : jX} {d : Nat} (hI : jInj X T0) {L A S Z : Nat} (hv : jLS L A S Z) (a1 : Int32) (M : jMem) (Q : Option Value → jMem → Prop) (h : (((((M L 2) >>> (a1 &&& 31)) &&& 1) = 0 → Q (some (.int 0)) M) ∧ (¬ (((M L 2) >>> (a1 &&& 31)) &&& 1) = 0 → Q (some (.int 1)) M))) : jOk X T0 d q_X1_isLong [.ref L, .int a1] M Q := by
  rcases hv with ⟨rfl, rfl, rfl, rfl⟩ | ⟨rfl, rfl, rfl, rfl⟩ | ⟨rfl, rfl, rfl, rfl⟩ | ⟨rfl, rfl, rfl, rfl⟩
  · refine jOk.intro (ml := 2) (ls := [.ref 42, .int a1]) (jTl (by decide)) rfl (Nat.le_of_ble_eq_true rfl) rfl hI ?_
    refine jRun.cut (k := jk_X1_isLong) rfl 7 (c' := (if (((M 42 2) >>> (a1 &&& 31)) &&& 1) = 0 then 15 else 11, [.ref 42, .int a1], [], M)) (ob := True ∧ jKd T0 42 = 1 ∧ True ∧ True ∧ True ∧ True ∧ True ∧ True) rfl ⟨trivial, rfl, trivial, trivial, trivial, trivial, trivial, trivial⟩ ?_
    refine jRun.br (fun g => ?_) (fun g => ?_)
    · have h := h.1 g
      exact jRun.ret (k := jk_X1_isLong) rfl 2 (v := some (.int 0)) (M1 := M) (ob := True ∧ (0 = 0 ∨ 0 = 1)) rfl ⟨trivial, (Or.inl rfl)⟩ h
    · have h := h.2 g
      exact jRun.ret (k := jk_X1_isLong) rfl 3 (v := some (.int 1)) (M1 := M) (ob := True ∧ True ∧ (1 = 0 ∨ 1 = 1)) rfl ⟨trivial, trivial, (Or.inr rfl)⟩ h
  · refine jOk.intro (ml := 2) (ls := [.ref 44, .int a1]) (jTl (by decide)) rfl (Nat.le_of_ble_eq_true rfl) rfl hI ?_
    refine jRun.cut (k := jk_X1_isLong) rfl 7 (c' := (if (((M 44 2) >>> (a1 &&& 31)) &&& 1) = 0 then 15 else 11, [.ref 44, .int a1], [], M)) (ob := True ∧ jKd T0 44 = 1 ∧ True ∧ True ∧ True ∧ True ∧ True ∧ True) rfl ⟨trivial, rfl, trivial, trivial, trivial, trivial, trivial, trivial⟩ ?_
    refine jRun.br (fun g => ?_) (fun g => ?_)
    · have h := h.1 g
      exact jRun.ret (k := jk_X1_isLong) rfl 2 (v := some (.int 0)) (M1 := M) (ob := True ∧ (0 = 0 ∨ 0 = 1)) rfl ⟨trivial, (Or.inl rfl)⟩ h
    · have h := h.2 g
      exact jRun.ret (k := jk_X1_isLong) rfl 3 (v := some (.int 1)) (M1 := M) (ob := True ∧ True ∧ (1 = 0 ∨ 1 = 1)) rfl ⟨trivial, trivial, (Or.inr rfl)⟩ h
  · refine jOk.intro (ml := 2) (ls := [.ref 46, .int a1]) (jTl (by decide)) rfl (Nat.le_of_ble_eq_true rfl) rfl hI ?_
    refine jRun.cut (k := jk_X1_isLong) rfl 7 (c' := (if (((M 46 2) >>> (a1 &&& 31)) &&& 1) = 0 then 15 else 11, [.ref 46, .int a1], [], M)) (ob := True ∧ jKd T0 46 = 1 ∧ True ∧ True ∧ True ∧ True ∧ True ∧ True) rfl ⟨trivial, rfl, trivial, trivial, trivial, trivial, trivial, trivial⟩ ?_
    refine jRun.br (fun g => ?_) (fun g => ?_)
    · have h := h.1 g
      exact jRun.ret (k := jk_X1_isLong) rfl 2 (v := some (.int 0)) (M1 := M) (ob := True ∧ (0 = 0 ∨ 0 = 1)) rfl ⟨trivial, (Or.inl rfl)⟩ h
    · have h := h.2 g
      exact jRun.ret (k := jk_X1_isLong) rfl 3 (v := some (.int 1)) (M1 := M) (ob := True ∧ True ∧ (1 = 0 ∨ 1 = 1)) rfl ⟨trivial, trivial, (Or.inr rfl)⟩ h
  · refine jOk.intro (ml := 2) (ls := [.ref 51, .int a1]) (jTl (by decide)) rfl (Nat.le_of_ble_eq_true rfl) rfl hI ?_
    refine jRun.cut (k := jk_X1_isLong) rfl 7 (c' := (if (((M 51 2) >>> (a1 &&& 31)) &&& 1) = 0 then 15 else 11, [.ref 51, .int a1], [], M)) (ob := True ∧ jKd T0 51 = 1 ∧ True ∧ True ∧ True ∧ True ∧ True ∧ True) rfl ⟨trivial, rfl, trivial, trivial, trivial, trivial, trivial, trivial⟩ ?_
    refine jRun.br (fun g => ?_) (fun g => ?_)
    · have h := h.1 g
      exact jRun.ret (k := jk_X1_isLong) rfl 2 (v := some (.int 0)) (M1 := M) (ob := True ∧ (0 = 0 ∨ 0 = 1)) rfl ⟨trivial, (Or.inl rfl)⟩ h
    · have h := h.2 g
      exact jRun.ret (k := jk_X1_isLong) rfl 3 (v := some (.int 1)) (M1 := M) (ob := True ∧ True ∧ (1 = 0 ∨ 1 = 1)) rfl ⟨trivial, trivial, (Or.inr rfl)⟩ h
theorem v_X1_farOf {X : jX} {d : Nat} (hI : jInj X T0) {L A S Z : Nat} (hv : jLS L A S Z) (a1 : Int32) (M : jMem) (Q : Option Value → jMem → Prop) (h : vp_in a1 32 ∧ vp_in (M 16 a1.toNatClampNeg) 33 ∧ vp_in (a1 + 1) 33 ∧ Q (some (.int ((M A (M 16 a1.toNatClampNeg).toNatClampNeg) - (M A (a1 + 1).toNatClampNeg)))) M) : jOk X T0 d q_X1_farOf [.ref L, .int a1] M Q := by
  rcases hv with ⟨rfl, rfl, rfl, rfl⟩ | ⟨rfl, rfl, rfl, rfl⟩ | ⟨rfl, rfl, rfl, rfl⟩ | ⟨rfl, rfl, rfl, rfl⟩
  · refine jOk.intro (ml := 2) (ls := [.ref 42, .int a1]) (jTl (by decide)) rfl (Nat.le_of_ble_eq_true rfl) rfl hI ?_
    obtain ⟨o1, o2, o3, h⟩ := h
    exact jRun.ret (k := jk_X1_farOf) rfl 16 (v := some (.int ((M 43 (M 16 a1.toNatClampNeg).toNatClampNeg) - (M 43 (a1 + 1).toNatClampNeg)))) (M1 := M) (ob := True ∧ jKd T0 42 = 1 ∧ True ∧ jKd T0 42 = 1 ∧ jKd T0 12 = 3 ∧ True ∧ (jKd T0 16 = 9 ∧ vp_in a1 32) ∧ (jKd T0 43 = 9 ∧ vp_in (M 16 a1.toNatClampNeg) 33) ∧ True ∧ jKd T0 42 = 1 ∧ True ∧ True ∧ True ∧ (jKd T0 43 = 9 ∧ vp_in (a1 + 1) 33) ∧ True ∧ True) rfl ⟨trivial, rfl, trivial, rfl, rfl, trivial, ⟨rfl, o1⟩, ⟨rfl, o2⟩, trivial, rfl, trivial, trivial, trivial, ⟨rfl, o3⟩, trivial, trivial⟩ h
  · refine jOk.intro (ml := 2) (ls := [.ref 44, .int a1]) (jTl (by decide)) rfl (Nat.le_of_ble_eq_true rfl) rfl hI ?_
    obtain ⟨o1, o2, o3, h⟩ := h
    exact jRun.ret (k := jk_X1_farOf) rfl 16 (v := some (.int ((M 45 (M 16 a1.toNatClampNeg).toNatClampNeg) - (M 45 (a1 + 1).toNatClampNeg)))) (M1 := M) (ob := True ∧ jKd T0 44 = 1 ∧ True ∧ jKd T0 44 = 1 ∧ jKd T0 12 = 3 ∧ True ∧ (jKd T0 16 = 9 ∧ vp_in a1 32) ∧ (jKd T0 45 = 9 ∧ vp_in (M 16 a1.toNatClampNeg) 33) ∧ True ∧ jKd T0 44 = 1 ∧ True ∧ True ∧ True ∧ (jKd T0 45 = 9 ∧ vp_in (a1 + 1) 33) ∧ True ∧ True) rfl ⟨trivial, rfl, trivial, rfl, rfl, trivial, ⟨rfl, o1⟩, ⟨rfl, o2⟩, trivial, rfl, trivial, trivial, trivial, ⟨rfl, o3⟩, trivial, trivial⟩ h
  · refine jOk.intro (ml := 2) (ls := [.ref 46, .int a1]) (jTl (by decide)) rfl (Nat.le_of_ble_eq_true rfl) rfl hI ?_
    obtain ⟨o1, o2, o3, h⟩ := h
    exact jRun.ret (k := jk_X1_farOf) rfl 16 (v := some (.int ((M 47 (M 16 a1.toNatClampNeg).toNatClampNeg) - (M 47 (a1 + 1).toNatClampNeg)))) (M1 := M) (ob := True ∧ jKd T0 46 = 1 ∧ True ∧ jKd T0 46 = 1 ∧ jKd T0 12 = 3 ∧ True ∧ (jKd T0 16 = 9 ∧ vp_in a1 32) ∧ (jKd T0 47 = 9 ∧ vp_in (M 16 a1.toNatClampNeg) 33) ∧ True ∧ jKd T0 46 = 1 ∧ True ∧ True ∧ True ∧ (jKd T0 47 = 9 ∧ vp_in (a1 + 1) 33) ∧ True ∧ True) rfl ⟨trivial, rfl, trivial, rfl, rfl, trivial, ⟨rfl, o1⟩, ⟨rfl, o2⟩, trivial, rfl, trivial, trivial, trivial, ⟨rfl, o3⟩, trivial, trivial⟩ h
  · refine jOk.intro (ml := 2) (ls := [.ref 51, .int a1]) (jTl (by decide)) rfl (Nat.le_of_ble_eq_true rfl) rfl hI ?_
    obtain ⟨o1, o2, o3, h⟩ := h
    exact jRun.ret (k := jk_X1_farOf) rfl 16 (v := some (.int ((M 52 (M 16 a1.toNatClampNeg).toNatClampNeg) - (M 52 (a1 + 1).toNatClampNeg)))) (M1 := M) (ob := True ∧ jKd T0 51 = 1 ∧ True ∧ jKd T0 51 = 1 ∧ jKd T0 12 = 3 ∧ True ∧ (jKd T0 16 = 9 ∧ vp_in a1 32) ∧ (jKd T0 52 = 9 ∧ vp_in (M 16 a1.toNatClampNeg) 33) ∧ True ∧ jKd T0 51 = 1 ∧ True ∧ True ∧ True ∧ (jKd T0 52 = 9 ∧ vp_in (a1 + 1) 33) ∧ True ∧ True) rfl ⟨trivial, rfl, trivial, rfl, rfl, trivial, ⟨rfl, o1⟩, ⟨rfl, o2⟩, trivial, rfl, trivial, trivial, trivial, ⟨rfl, o3⟩, trivial, trivial⟩ h
theorem v_X1_servedCalls {X : jX} {d : Nat} (hI : jInj X T0) {L A S Z : Nat} (hv : jLS L A S Z)  (M : jMem) (Q : Option Value → jMem → Prop) (h : jRun X T0 (d + 1) q_X1_servedCalls (4, [.ref L, .ref S, .int 0, .int 0], [], M) Q) : jOk X T0 (d + 1) q_X1_servedCalls [.ref L, .ref S] M Q := by
  rcases hv with ⟨rfl, rfl, rfl, rfl⟩ | ⟨rfl, rfl, rfl, rfl⟩ | ⟨rfl, rfl, rfl, rfl⟩ | ⟨rfl, rfl, rfl, rfl⟩
  · refine jOk.intro (ml := 4) (ls := [.ref 42, .ref 22, .null, .null]) (jTl (by decide)) rfl (Nat.le_of_ble_eq_true rfl) rfl hI ?_
    refine jRun.cut (k := jk_X1_servedCalls) rfl 4 (c' := (4, [.ref 42, .ref 22, .int 0, .int 0], [], M)) (ob := True ∧ True ∧ True ∧ True ∧ True) rfl ⟨trivial, trivial, trivial, trivial, trivial⟩ ?_
    exact h
  · refine jOk.intro (ml := 4) (ls := [.ref 44, .ref 22, .null, .null]) (jTl (by decide)) rfl (Nat.le_of_ble_eq_true rfl) rfl hI ?_
    refine jRun.cut (k := jk_X1_servedCalls) rfl 4 (c' := (4, [.ref 44, .ref 22, .int 0, .int 0], [], M)) (ob := True ∧ True ∧ True ∧ True ∧ True) rfl ⟨trivial, trivial, trivial, trivial, trivial⟩ ?_
    exact h
  · refine jOk.intro (ml := 4) (ls := [.ref 46, .ref 22, .null, .null]) (jTl (by decide)) rfl (Nat.le_of_ble_eq_true rfl) rfl hI ?_
    refine jRun.cut (k := jk_X1_servedCalls) rfl 4 (c' := (4, [.ref 46, .ref 22, .int 0, .int 0], [], M)) (ob := True ∧ True ∧ True ∧ True ∧ True) rfl ⟨trivial, trivial, trivial, trivial, trivial⟩ ?_
    exact h
  · refine jOk.intro (ml := 4) (ls := [.ref 51, .ref 49, .null, .null]) (jTl (by decide)) rfl (Nat.le_of_ble_eq_true rfl) rfl hI ?_
    refine jRun.cut (k := jk_X1_servedCalls) rfl 4 (c' := (4, [.ref 51, .ref 49, .int 0, .int 0], [], M)) (ob := True ∧ True ∧ True ∧ True ∧ True) rfl ⟨trivial, trivial, trivial, trivial, trivial⟩ ?_
    exact h
theorem v_X1_servedCalls_4 {X : jX} {d : Nat} {L A S Z : Nat} (hv : jLS L A S Z) (a2 : Int32) (a3 : Int32) (M : jMem) (Q : Option Value → jMem → Prop) (h : (((M 12 11) ≤ a3 → Q (some (.int a2)) M) ∧ (¬ (M 12 11) ≤ a3 → vp_in a3 6 ∧ jOk X T0 d q_X1_farServed [.ref L, .ref S, .int (M 19 a3.toNatClampNeg)] M (fun v M1 => ∃ r1, v = some (.int r1) ∧ ((r1 = (-1000000) → jRun X T0 (d + 1) q_X1_servedCalls (4, [.ref L, .ref S, .int a2, .int (a3 + 1)], [], M1) Q) ∧ (¬ r1 = (-1000000) → jRun X T0 (d + 1) q_X1_servedCalls (4, [.ref L, .ref S, .int (a2 ||| (1 <<< (a3 &&& 31))), .int (a3 + 1)], [], M1) Q)))))) : jRun X T0 (d + 1) q_X1_servedCalls (4, [.ref L, .ref S, .int a2, .int a3], [], M) Q := by
  rcases hv with ⟨rfl, rfl, rfl, rfl⟩ | ⟨rfl, rfl, rfl, rfl⟩ | ⟨rfl, rfl, rfl, rfl⟩ | ⟨rfl, rfl, rfl, rfl⟩
  · refine jRun.cut (k := jk_X1_servedCalls) rfl 5 (c' := (if (M 12 11) ≤ a3 then 46 else 15, [.ref 42, .ref 22, .int a2, .int a3], [], M)) (ob := True ∧ True ∧ jKd T0 42 = 1 ∧ jKd T0 12 = 3 ∧ True ∧ True) rfl ⟨trivial, trivial, rfl, rfl, trivial, trivial⟩ ?_
    refine jRun.br (fun g => ?_) (fun g => ?_)
    · have h := h.1 g
      exact jRun.ret (k := jk_X1_servedCalls) rfl 2 (v := some (.int a2)) (M1 := M) (ob := True ∧ True) rfl ⟨trivial, trivial⟩ h
    · have h := h.2 g
      obtain ⟨o1, h⟩ := h
      refine jRun.call (k := jk_X1_servedCalls) rfl 8 (f := q_X1_farServed) (As := [.ref 42, .ref 22, .int (M 19 a3.toNatClampNeg)]) (c1 := (29, [.ref 42, .ref 22, .int a2, .int a3], [], M)) (ob := True ∧ True ∧ True ∧ jKd T0 42 = 1 ∧ jKd T0 12 = 3 ∧ True ∧ (jKd T0 19 = 9 ∧ vp_in a3 6) ∧ jKd T0 42 = 1) rfl ⟨trivial, trivial, trivial, rfl, rfl, trivial, ⟨rfl, o1⟩, rfl⟩ h (fun v M1 h => ?_)
      obtain ⟨r1, rfl, h⟩ := h
      show jRun X T0 (d + 1) q_X1_servedCalls (29, [.ref 42, .ref 22, .int a2, .int a3], [.int r1], M1) Q
      refine jRun.cut (k := jk_X1_servedCalls) rfl 2 (c' := (if r1 = (-1000000) then 40 else 34, [.ref 42, .ref 22, .int a2, .int a3], [], M1)) (ob := True ∧ True ∧ True) rfl ⟨trivial, trivial, trivial⟩ ?_
      refine jRun.br (fun g => ?_) (fun g => ?_)
      · have h := h.1 g
        refine jRun.cut (k := jk_X1_servedCalls) rfl 2 (c' := (4, [.ref 42, .ref 22, .int a2, .int (a3 + 1)], [], M1)) (ob := True ∧ True ∧ True) rfl ⟨trivial, trivial, trivial⟩ ?_
        exact h
      · have h := h.2 g
        refine jRun.cut (k := jk_X1_servedCalls) rfl 8 (c' := (4, [.ref 42, .ref 22, .int (a2 ||| (1 <<< (a3 &&& 31))), .int (a3 + 1)], [], M1)) (ob := True ∧ True ∧ True ∧ True ∧ True ∧ True ∧ True ∧ True ∧ True) rfl ⟨trivial, trivial, trivial, trivial, trivial, trivial, trivial, trivial, trivial⟩ ?_
        exact h
  · refine jRun.cut (k := jk_X1_servedCalls) rfl 5 (c' := (if (M 12 11) ≤ a3 then 46 else 15, [.ref 44, .ref 22, .int a2, .int a3], [], M)) (ob := True ∧ True ∧ jKd T0 44 = 1 ∧ jKd T0 12 = 3 ∧ True ∧ True) rfl ⟨trivial, trivial, rfl, rfl, trivial, trivial⟩ ?_
    refine jRun.br (fun g => ?_) (fun g => ?_)
    · have h := h.1 g
      exact jRun.ret (k := jk_X1_servedCalls) rfl 2 (v := some (.int a2)) (M1 := M) (ob := True ∧ True) rfl ⟨trivial, trivial⟩ h
    · have h := h.2 g
      obtain ⟨o1, h⟩ := h
      refine jRun.call (k := jk_X1_servedCalls) rfl 8 (f := q_X1_farServed) (As := [.ref 44, .ref 22, .int (M 19 a3.toNatClampNeg)]) (c1 := (29, [.ref 44, .ref 22, .int a2, .int a3], [], M)) (ob := True ∧ True ∧ True ∧ jKd T0 44 = 1 ∧ jKd T0 12 = 3 ∧ True ∧ (jKd T0 19 = 9 ∧ vp_in a3 6) ∧ jKd T0 44 = 1) rfl ⟨trivial, trivial, trivial, rfl, rfl, trivial, ⟨rfl, o1⟩, rfl⟩ h (fun v M1 h => ?_)
      obtain ⟨r1, rfl, h⟩ := h
      show jRun X T0 (d + 1) q_X1_servedCalls (29, [.ref 44, .ref 22, .int a2, .int a3], [.int r1], M1) Q
      refine jRun.cut (k := jk_X1_servedCalls) rfl 2 (c' := (if r1 = (-1000000) then 40 else 34, [.ref 44, .ref 22, .int a2, .int a3], [], M1)) (ob := True ∧ True ∧ True) rfl ⟨trivial, trivial, trivial⟩ ?_
      refine jRun.br (fun g => ?_) (fun g => ?_)
      · have h := h.1 g
        refine jRun.cut (k := jk_X1_servedCalls) rfl 2 (c' := (4, [.ref 44, .ref 22, .int a2, .int (a3 + 1)], [], M1)) (ob := True ∧ True ∧ True) rfl ⟨trivial, trivial, trivial⟩ ?_
        exact h
      · have h := h.2 g
        refine jRun.cut (k := jk_X1_servedCalls) rfl 8 (c' := (4, [.ref 44, .ref 22, .int (a2 ||| (1 <<< (a3 &&& 31))), .int (a3 + 1)], [], M1)) (ob := True ∧ True ∧ True ∧ True ∧ True ∧ True ∧ True ∧ True ∧ True) rfl ⟨trivial, trivial, trivial, trivial, trivial, trivial, trivial, trivial, trivial⟩ ?_
        exact h
  · refine jRun.cut (k := jk_X1_servedCalls) rfl 5 (c' := (if (M 12 11) ≤ a3 then 46 else 15, [.ref 46, .ref 22, .int a2, .int a3], [], M)) (ob := True ∧ True ∧ jKd T0 46 = 1 ∧ jKd T0 12 = 3 ∧ True ∧ True) rfl ⟨trivial, trivial, rfl, rfl, trivial, trivial⟩ ?_
    refine jRun.br (fun g => ?_) (fun g => ?_)
    · have h := h.1 g
      exact jRun.ret (k := jk_X1_servedCalls) rfl 2 (v := some (.int a2)) (M1 := M) (ob := True ∧ True) rfl ⟨trivial, trivial⟩ h
    · have h := h.2 g
      obtain ⟨o1, h⟩ := h
      refine jRun.call (k := jk_X1_servedCalls) rfl 8 (f := q_X1_farServed) (As := [.ref 46, .ref 22, .int (M 19 a3.toNatClampNeg)]) (c1 := (29, [.ref 46, .ref 22, .int a2, .int a3], [], M)) (ob := True ∧ True ∧ True ∧ jKd T0 46 = 1 ∧ jKd T0 12 = 3 ∧ True ∧ (jKd T0 19 = 9 ∧ vp_in a3 6) ∧ jKd T0 46 = 1) rfl ⟨trivial, trivial, trivial, rfl, rfl, trivial, ⟨rfl, o1⟩, rfl⟩ h (fun v M1 h => ?_)
      obtain ⟨r1, rfl, h⟩ := h
      show jRun X T0 (d + 1) q_X1_servedCalls (29, [.ref 46, .ref 22, .int a2, .int a3], [.int r1], M1) Q
      refine jRun.cut (k := jk_X1_servedCalls) rfl 2 (c' := (if r1 = (-1000000) then 40 else 34, [.ref 46, .ref 22, .int a2, .int a3], [], M1)) (ob := True ∧ True ∧ True) rfl ⟨trivial, trivial, trivial⟩ ?_
      refine jRun.br (fun g => ?_) (fun g => ?_)
      · have h := h.1 g
        refine jRun.cut (k := jk_X1_servedCalls) rfl 2 (c' := (4, [.ref 46, .ref 22, .int a2, .int (a3 + 1)], [], M1)) (ob := True ∧ True ∧ True) rfl ⟨trivial, trivial, trivial⟩ ?_
        exact h
      · have h := h.2 g
        refine jRun.cut (k := jk_X1_servedCalls) rfl 8 (c' := (4, [.ref 46, .ref 22, .int (a2 ||| (1 <<< (a3 &&& 31))), .int (a3 + 1)], [], M1)) (ob := True ∧ True ∧ True ∧ True ∧ True ∧ True ∧ True ∧ True ∧ True) rfl ⟨trivial, trivial, trivial, trivial, trivial, trivial, trivial, trivial, trivial⟩ ?_
        exact h
  · refine jRun.cut (k := jk_X1_servedCalls) rfl 5 (c' := (if (M 12 11) ≤ a3 then 46 else 15, [.ref 51, .ref 49, .int a2, .int a3], [], M)) (ob := True ∧ True ∧ jKd T0 51 = 1 ∧ jKd T0 12 = 3 ∧ True ∧ True) rfl ⟨trivial, trivial, rfl, rfl, trivial, trivial⟩ ?_
    refine jRun.br (fun g => ?_) (fun g => ?_)
    · have h := h.1 g
      exact jRun.ret (k := jk_X1_servedCalls) rfl 2 (v := some (.int a2)) (M1 := M) (ob := True ∧ True) rfl ⟨trivial, trivial⟩ h
    · have h := h.2 g
      obtain ⟨o1, h⟩ := h
      refine jRun.call (k := jk_X1_servedCalls) rfl 8 (f := q_X1_farServed) (As := [.ref 51, .ref 49, .int (M 19 a3.toNatClampNeg)]) (c1 := (29, [.ref 51, .ref 49, .int a2, .int a3], [], M)) (ob := True ∧ True ∧ True ∧ jKd T0 51 = 1 ∧ jKd T0 12 = 3 ∧ True ∧ (jKd T0 19 = 9 ∧ vp_in a3 6) ∧ jKd T0 51 = 1) rfl ⟨trivial, trivial, trivial, rfl, rfl, trivial, ⟨rfl, o1⟩, rfl⟩ h (fun v M1 h => ?_)
      obtain ⟨r1, rfl, h⟩ := h
      show jRun X T0 (d + 1) q_X1_servedCalls (29, [.ref 51, .ref 49, .int a2, .int a3], [.int r1], M1) Q
      refine jRun.cut (k := jk_X1_servedCalls) rfl 2 (c' := (if r1 = (-1000000) then 40 else 34, [.ref 51, .ref 49, .int a2, .int a3], [], M1)) (ob := True ∧ True ∧ True) rfl ⟨trivial, trivial, trivial⟩ ?_
      refine jRun.br (fun g => ?_) (fun g => ?_)
      · have h := h.1 g
        refine jRun.cut (k := jk_X1_servedCalls) rfl 2 (c' := (4, [.ref 51, .ref 49, .int a2, .int (a3 + 1)], [], M1)) (ob := True ∧ True ∧ True) rfl ⟨trivial, trivial, trivial⟩ ?_
        exact h
      · have h := h.2 g
        refine jRun.cut (k := jk_X1_servedCalls) rfl 8 (c' := (4, [.ref 51, .ref 49, .int (a2 ||| (1 <<< (a3 &&& 31))), .int (a3 + 1)], [], M1)) (ob := True ∧ True ∧ True ∧ True ∧ True ∧ True ∧ True ∧ True ∧ True) rfl ⟨trivial, trivial, trivial, trivial, trivial, trivial, trivial, trivial, trivial⟩ ?_
        exact h
theorem v_X1_servesAll {X : jX} {d : Nat} (hI : jInj X T0) {L A S Z : Nat} (hv : jLS L A S Z)  (M : jMem) (Q : Option Value → jMem → Prop) (h : jRun X T0 (d + 1) q_X1_servesAll (2, [.ref L, .ref S, .int 0], [], M) Q) : jOk X T0 (d + 1) q_X1_servesAll [.ref L, .ref S] M Q := by
  rcases hv with ⟨rfl, rfl, rfl, rfl⟩ | ⟨rfl, rfl, rfl, rfl⟩ | ⟨rfl, rfl, rfl, rfl⟩ | ⟨rfl, rfl, rfl, rfl⟩
  · refine jOk.intro (ml := 3) (ls := [.ref 42, .ref 22, .null]) (jTl (by decide)) rfl (Nat.le_of_ble_eq_true rfl) rfl hI ?_
    refine jRun.cut (k := jk_X1_servesAll) rfl 2 (c' := (2, [.ref 42, .ref 22, .int 0], [], M)) (ob := True ∧ True ∧ True) rfl ⟨trivial, trivial, trivial⟩ ?_
    exact h
  · refine jOk.intro (ml := 3) (ls := [.ref 44, .ref 22, .null]) (jTl (by decide)) rfl (Nat.le_of_ble_eq_true rfl) rfl hI ?_
    refine jRun.cut (k := jk_X1_servesAll) rfl 2 (c' := (2, [.ref 44, .ref 22, .int 0], [], M)) (ob := True ∧ True ∧ True) rfl ⟨trivial, trivial, trivial⟩ ?_
    exact h
  · refine jOk.intro (ml := 3) (ls := [.ref 46, .ref 22, .null]) (jTl (by decide)) rfl (Nat.le_of_ble_eq_true rfl) rfl hI ?_
    refine jRun.cut (k := jk_X1_servesAll) rfl 2 (c' := (2, [.ref 46, .ref 22, .int 0], [], M)) (ob := True ∧ True ∧ True) rfl ⟨trivial, trivial, trivial⟩ ?_
    exact h
  · refine jOk.intro (ml := 3) (ls := [.ref 51, .ref 49, .null]) (jTl (by decide)) rfl (Nat.le_of_ble_eq_true rfl) rfl hI ?_
    refine jRun.cut (k := jk_X1_servesAll) rfl 2 (c' := (2, [.ref 51, .ref 49, .int 0], [], M)) (ob := True ∧ True ∧ True) rfl ⟨trivial, trivial, trivial⟩ ?_
    exact h
theorem v_X1_servesAll_2 {X : jX} {d : Nat} {L A S Z : Nat} (hv : jLS L A S Z) (a2 : Int32) (M : jMem) (Q : Option Value → jMem → Prop) (h : (((M 12 11) ≤ a2 → Q (some (.int 1)) M) ∧ (¬ (M 12 11) ≤ a2 → vp_in a2 6 ∧ jOk X T0 d q_X1_farServed [.ref L, .ref S, .int (M 19 a2.toNatClampNeg)] M (fun v M1 => ∃ r1, v = some (.int r1) ∧ ((¬ r1 = (-1000000) → jRun X T0 (d + 1) q_X1_servesAll (2, [.ref L, .ref S, .int (a2 + 1)], [], M1) Q) ∧ (r1 = (-1000000) → Q (some (.int 0)) M1)))))) : jRun X T0 (d + 1) q_X1_servesAll (2, [.ref L, .ref S, .int a2], [], M) Q := by
  rcases hv with ⟨rfl, rfl, rfl, rfl⟩ | ⟨rfl, rfl, rfl, rfl⟩ | ⟨rfl, rfl, rfl, rfl⟩ | ⟨rfl, rfl, rfl, rfl⟩
  · refine jRun.cut (k := jk_X1_servesAll) rfl 5 (c' := (if (M 12 11) ≤ a2 then 40 else 13, [.ref 42, .ref 22, .int a2], [], M)) (ob := True ∧ True ∧ jKd T0 42 = 1 ∧ jKd T0 12 = 3 ∧ True ∧ True) rfl ⟨trivial, trivial, rfl, rfl, trivial, trivial⟩ ?_
    refine jRun.br (fun g => ?_) (fun g => ?_)
    · have h := h.1 g
      exact jRun.ret (k := jk_X1_servesAll) rfl 2 (v := some (.int 1)) (M1 := M) (ob := True ∧ (1 = 0 ∨ 1 = 1)) rfl ⟨trivial, (Or.inr rfl)⟩ h
    · have h := h.2 g
      obtain ⟨o1, h⟩ := h
      refine jRun.call (k := jk_X1_servesAll) rfl 8 (f := q_X1_farServed) (As := [.ref 42, .ref 22, .int (M 19 a2.toNatClampNeg)]) (c1 := (27, [.ref 42, .ref 22, .int a2], [], M)) (ob := True ∧ True ∧ True ∧ jKd T0 42 = 1 ∧ jKd T0 12 = 3 ∧ True ∧ (jKd T0 19 = 9 ∧ vp_in a2 6) ∧ jKd T0 42 = 1) rfl ⟨trivial, trivial, trivial, rfl, rfl, trivial, ⟨rfl, o1⟩, rfl⟩ h (fun v M1 h => ?_)
      obtain ⟨r1, rfl, h⟩ := h
      show jRun X T0 (d + 1) q_X1_servesAll (27, [.ref 42, .ref 22, .int a2], [.int r1], M1) Q
      refine jRun.cut (k := jk_X1_servesAll) rfl 2 (c' := (if ¬ r1 = (-1000000) then 34 else 32, [.ref 42, .ref 22, .int a2], [], M1)) (ob := True ∧ True ∧ True) rfl ⟨trivial, trivial, trivial⟩ ?_
      refine jRun.brn (fun g => ?_) (fun g => ?_)
      · have h := h.1 g
        refine jRun.cut (k := jk_X1_servesAll) rfl 2 (c' := (2, [.ref 42, .ref 22, .int (a2 + 1)], [], M1)) (ob := True ∧ True ∧ True) rfl ⟨trivial, trivial, trivial⟩ ?_
        exact h
      · have h := h.2 g
        exact jRun.ret (k := jk_X1_servesAll) rfl 2 (v := some (.int 0)) (M1 := M1) (ob := True ∧ (0 = 0 ∨ 0 = 1)) rfl ⟨trivial, (Or.inl rfl)⟩ h
  · refine jRun.cut (k := jk_X1_servesAll) rfl 5 (c' := (if (M 12 11) ≤ a2 then 40 else 13, [.ref 44, .ref 22, .int a2], [], M)) (ob := True ∧ True ∧ jKd T0 44 = 1 ∧ jKd T0 12 = 3 ∧ True ∧ True) rfl ⟨trivial, trivial, rfl, rfl, trivial, trivial⟩ ?_
    refine jRun.br (fun g => ?_) (fun g => ?_)
    · have h := h.1 g
      exact jRun.ret (k := jk_X1_servesAll) rfl 2 (v := some (.int 1)) (M1 := M) (ob := True ∧ (1 = 0 ∨ 1 = 1)) rfl ⟨trivial, (Or.inr rfl)⟩ h
    · have h := h.2 g
      obtain ⟨o1, h⟩ := h
      refine jRun.call (k := jk_X1_servesAll) rfl 8 (f := q_X1_farServed) (As := [.ref 44, .ref 22, .int (M 19 a2.toNatClampNeg)]) (c1 := (27, [.ref 44, .ref 22, .int a2], [], M)) (ob := True ∧ True ∧ True ∧ jKd T0 44 = 1 ∧ jKd T0 12 = 3 ∧ True ∧ (jKd T0 19 = 9 ∧ vp_in a2 6) ∧ jKd T0 44 = 1) rfl ⟨trivial, trivial, trivial, rfl, rfl, trivial, ⟨rfl, o1⟩, rfl⟩ h (fun v M1 h => ?_)
      obtain ⟨r1, rfl, h⟩ := h
      show jRun X T0 (d + 1) q_X1_servesAll (27, [.ref 44, .ref 22, .int a2], [.int r1], M1) Q
      refine jRun.cut (k := jk_X1_servesAll) rfl 2 (c' := (if ¬ r1 = (-1000000) then 34 else 32, [.ref 44, .ref 22, .int a2], [], M1)) (ob := True ∧ True ∧ True) rfl ⟨trivial, trivial, trivial⟩ ?_
      refine jRun.brn (fun g => ?_) (fun g => ?_)
      · have h := h.1 g
        refine jRun.cut (k := jk_X1_servesAll) rfl 2 (c' := (2, [.ref 44, .ref 22, .int (a2 + 1)], [], M1)) (ob := True ∧ True ∧ True) rfl ⟨trivial, trivial, trivial⟩ ?_
        exact h
      · have h := h.2 g
        exact jRun.ret (k := jk_X1_servesAll) rfl 2 (v := some (.int 0)) (M1 := M1) (ob := True ∧ (0 = 0 ∨ 0 = 1)) rfl ⟨trivial, (Or.inl rfl)⟩ h
  · refine jRun.cut (k := jk_X1_servesAll) rfl 5 (c' := (if (M 12 11) ≤ a2 then 40 else 13, [.ref 46, .ref 22, .int a2], [], M)) (ob := True ∧ True ∧ jKd T0 46 = 1 ∧ jKd T0 12 = 3 ∧ True ∧ True) rfl ⟨trivial, trivial, rfl, rfl, trivial, trivial⟩ ?_
    refine jRun.br (fun g => ?_) (fun g => ?_)
    · have h := h.1 g
      exact jRun.ret (k := jk_X1_servesAll) rfl 2 (v := some (.int 1)) (M1 := M) (ob := True ∧ (1 = 0 ∨ 1 = 1)) rfl ⟨trivial, (Or.inr rfl)⟩ h
    · have h := h.2 g
      obtain ⟨o1, h⟩ := h
      refine jRun.call (k := jk_X1_servesAll) rfl 8 (f := q_X1_farServed) (As := [.ref 46, .ref 22, .int (M 19 a2.toNatClampNeg)]) (c1 := (27, [.ref 46, .ref 22, .int a2], [], M)) (ob := True ∧ True ∧ True ∧ jKd T0 46 = 1 ∧ jKd T0 12 = 3 ∧ True ∧ (jKd T0 19 = 9 ∧ vp_in a2 6) ∧ jKd T0 46 = 1) rfl ⟨trivial, trivial, trivial, rfl, rfl, trivial, ⟨rfl, o1⟩, rfl⟩ h (fun v M1 h => ?_)
      obtain ⟨r1, rfl, h⟩ := h
      show jRun X T0 (d + 1) q_X1_servesAll (27, [.ref 46, .ref 22, .int a2], [.int r1], M1) Q
      refine jRun.cut (k := jk_X1_servesAll) rfl 2 (c' := (if ¬ r1 = (-1000000) then 34 else 32, [.ref 46, .ref 22, .int a2], [], M1)) (ob := True ∧ True ∧ True) rfl ⟨trivial, trivial, trivial⟩ ?_
      refine jRun.brn (fun g => ?_) (fun g => ?_)
      · have h := h.1 g
        refine jRun.cut (k := jk_X1_servesAll) rfl 2 (c' := (2, [.ref 46, .ref 22, .int (a2 + 1)], [], M1)) (ob := True ∧ True ∧ True) rfl ⟨trivial, trivial, trivial⟩ ?_
        exact h
      · have h := h.2 g
        exact jRun.ret (k := jk_X1_servesAll) rfl 2 (v := some (.int 0)) (M1 := M1) (ob := True ∧ (0 = 0 ∨ 0 = 1)) rfl ⟨trivial, (Or.inl rfl)⟩ h
  · refine jRun.cut (k := jk_X1_servesAll) rfl 5 (c' := (if (M 12 11) ≤ a2 then 40 else 13, [.ref 51, .ref 49, .int a2], [], M)) (ob := True ∧ True ∧ jKd T0 51 = 1 ∧ jKd T0 12 = 3 ∧ True ∧ True) rfl ⟨trivial, trivial, rfl, rfl, trivial, trivial⟩ ?_
    refine jRun.br (fun g => ?_) (fun g => ?_)
    · have h := h.1 g
      exact jRun.ret (k := jk_X1_servesAll) rfl 2 (v := some (.int 1)) (M1 := M) (ob := True ∧ (1 = 0 ∨ 1 = 1)) rfl ⟨trivial, (Or.inr rfl)⟩ h
    · have h := h.2 g
      obtain ⟨o1, h⟩ := h
      refine jRun.call (k := jk_X1_servesAll) rfl 8 (f := q_X1_farServed) (As := [.ref 51, .ref 49, .int (M 19 a2.toNatClampNeg)]) (c1 := (27, [.ref 51, .ref 49, .int a2], [], M)) (ob := True ∧ True ∧ True ∧ jKd T0 51 = 1 ∧ jKd T0 12 = 3 ∧ True ∧ (jKd T0 19 = 9 ∧ vp_in a2 6) ∧ jKd T0 51 = 1) rfl ⟨trivial, trivial, trivial, rfl, rfl, trivial, ⟨rfl, o1⟩, rfl⟩ h (fun v M1 h => ?_)
      obtain ⟨r1, rfl, h⟩ := h
      show jRun X T0 (d + 1) q_X1_servesAll (27, [.ref 51, .ref 49, .int a2], [.int r1], M1) Q
      refine jRun.cut (k := jk_X1_servesAll) rfl 2 (c' := (if ¬ r1 = (-1000000) then 34 else 32, [.ref 51, .ref 49, .int a2], [], M1)) (ob := True ∧ True ∧ True) rfl ⟨trivial, trivial, trivial⟩ ?_
      refine jRun.brn (fun g => ?_) (fun g => ?_)
      · have h := h.1 g
        refine jRun.cut (k := jk_X1_servesAll) rfl 2 (c' := (2, [.ref 51, .ref 49, .int (a2 + 1)], [], M1)) (ob := True ∧ True ∧ True) rfl ⟨trivial, trivial, trivial⟩ ?_
        exact h
      · have h := h.2 g
        exact jRun.ret (k := jk_X1_servesAll) rfl 2 (v := some (.int 0)) (M1 := M1) (ob := True ∧ (0 = 0 ∨ 0 = 1)) rfl ⟨trivial, (Or.inl rfl)⟩ h
theorem v_X1_sumOfBytes {X : jX} {d : Nat} (hI : jInj X T0) {L A S Z : Nat} (hv : jLS L A S Z)  (M : jMem) (Q : Option Value → jMem → Prop) (h : jRun X T0 (d + 1) q_X1_sumOfBytes (4, [.ref L, .ref S, .int 0, .int 0, .null, .null], [], M) Q) : jOk X T0 (d + 1) q_X1_sumOfBytes [.ref L, .ref S] M Q := by
  rcases hv with ⟨rfl, rfl, rfl, rfl⟩ | ⟨rfl, rfl, rfl, rfl⟩ | ⟨rfl, rfl, rfl, rfl⟩ | ⟨rfl, rfl, rfl, rfl⟩
  · refine jOk.intro (ml := 6) (ls := [.ref 42, .ref 22, .null, .null, .null, .null]) (jTl (by decide)) rfl (Nat.le_of_ble_eq_true rfl) rfl hI ?_
    refine jRun.cut (k := jk_X1_sumOfBytes) rfl 4 (c' := (4, [.ref 42, .ref 22, .int 0, .int 0, .null, .null], [], M)) (ob := True ∧ True ∧ True ∧ True ∧ True) rfl ⟨trivial, trivial, trivial, trivial, trivial⟩ ?_
    exact h
  · refine jOk.intro (ml := 6) (ls := [.ref 44, .ref 22, .null, .null, .null, .null]) (jTl (by decide)) rfl (Nat.le_of_ble_eq_true rfl) rfl hI ?_
    refine jRun.cut (k := jk_X1_sumOfBytes) rfl 4 (c' := (4, [.ref 44, .ref 22, .int 0, .int 0, .null, .null], [], M)) (ob := True ∧ True ∧ True ∧ True ∧ True) rfl ⟨trivial, trivial, trivial, trivial, trivial⟩ ?_
    exact h
  · refine jOk.intro (ml := 6) (ls := [.ref 46, .ref 22, .null, .null, .null, .null]) (jTl (by decide)) rfl (Nat.le_of_ble_eq_true rfl) rfl hI ?_
    refine jRun.cut (k := jk_X1_sumOfBytes) rfl 4 (c' := (4, [.ref 46, .ref 22, .int 0, .int 0, .null, .null], [], M)) (ob := True ∧ True ∧ True ∧ True ∧ True) rfl ⟨trivial, trivial, trivial, trivial, trivial⟩ ?_
    exact h
  · refine jOk.intro (ml := 6) (ls := [.ref 51, .ref 49, .null, .null, .null, .null]) (jTl (by decide)) rfl (Nat.le_of_ble_eq_true rfl) rfl hI ?_
    refine jRun.cut (k := jk_X1_sumOfBytes) rfl 4 (c' := (4, [.ref 51, .ref 49, .int 0, .int 0, .null, .null], [], M)) (ob := True ∧ True ∧ True ∧ True ∧ True) rfl ⟨trivial, trivial, trivial, trivial, trivial⟩ ?_
    exact h
theorem v_X1_sumOfBytes_4 {X : jX} {d : Nat} {L A S Z : Nat} (hv : jLS L A S Z) (a2 : Int32) (a3 : Int32) (M : jMem) (Q : Option Value → jMem → Prop) (h : (((M 12 8) ≤ a3 → Q (some (.int a2)) M) ∧ (¬ (M 12 8) ≤ a3 → vp_in (a3 + 1) 33 ∧ vp_in a3 33 ∧ jRun X T0 (d + 1) q_X1_sumOfBytes (35, [.ref L, .ref S, .int a2, .int a3, .int ((M A (a3 + 1).toNatClampNeg) - (M A a3.toNatClampNeg)), .int 0], [], M) Q))) : jRun X T0 (d + 1) q_X1_sumOfBytes (4, [.ref L, .ref S, .int a2, .int a3, .null, .null], [], M) Q := by
  rcases hv with ⟨rfl, rfl, rfl, rfl⟩ | ⟨rfl, rfl, rfl, rfl⟩ | ⟨rfl, rfl, rfl, rfl⟩ | ⟨rfl, rfl, rfl, rfl⟩
  · refine jRun.cut (k := jk_X1_sumOfBytes) rfl 5 (c' := (if (M 12 8) ≤ a3 then 65 else 15, [.ref 42, .ref 22, .int a2, .int a3, .null, .null], [], M)) (ob := True ∧ True ∧ jKd T0 42 = 1 ∧ jKd T0 12 = 3 ∧ True ∧ True) rfl ⟨trivial, trivial, rfl, rfl, trivial, trivial⟩ ?_
    refine jRun.br (fun g => ?_) (fun g => ?_)
    · have h := h.1 g
      exact jRun.ret (k := jk_X1_sumOfBytes) rfl 2 (v := some (.int a2)) (M1 := M) (ob := True ∧ True) rfl ⟨trivial, trivial⟩ h
    · have h := h.2 g
      obtain ⟨o1, o2, h⟩ := h
      refine jRun.cut (k := jk_X1_sumOfBytes) rfl 14 (c' := (35, [.ref 42, .ref 22, .int a2, .int a3, .int ((M 43 (a3 + 1).toNatClampNeg) - (M 43 a3.toNatClampNeg)), .int 0], [], M)) (ob := True ∧ jKd T0 42 = 1 ∧ True ∧ True ∧ True ∧ (jKd T0 43 = 9 ∧ vp_in (a3 + 1) 33) ∧ True ∧ jKd T0 42 = 1 ∧ True ∧ (jKd T0 43 = 9 ∧ vp_in a3 33) ∧ True ∧ True ∧ True ∧ True ∧ True) rfl ⟨trivial, rfl, trivial, trivial, trivial, ⟨rfl, o1⟩, trivial, rfl, trivial, ⟨rfl, o2⟩, trivial, trivial, trivial, trivial, trivial⟩ ?_
      exact h
  · refine jRun.cut (k := jk_X1_sumOfBytes) rfl 5 (c' := (if (M 12 8) ≤ a3 then 65 else 15, [.ref 44, .ref 22, .int a2, .int a3, .null, .null], [], M)) (ob := True ∧ True ∧ jKd T0 44 = 1 ∧ jKd T0 12 = 3 ∧ True ∧ True) rfl ⟨trivial, trivial, rfl, rfl, trivial, trivial⟩ ?_
    refine jRun.br (fun g => ?_) (fun g => ?_)
    · have h := h.1 g
      exact jRun.ret (k := jk_X1_sumOfBytes) rfl 2 (v := some (.int a2)) (M1 := M) (ob := True ∧ True) rfl ⟨trivial, trivial⟩ h
    · have h := h.2 g
      obtain ⟨o1, o2, h⟩ := h
      refine jRun.cut (k := jk_X1_sumOfBytes) rfl 14 (c' := (35, [.ref 44, .ref 22, .int a2, .int a3, .int ((M 45 (a3 + 1).toNatClampNeg) - (M 45 a3.toNatClampNeg)), .int 0], [], M)) (ob := True ∧ jKd T0 44 = 1 ∧ True ∧ True ∧ True ∧ (jKd T0 45 = 9 ∧ vp_in (a3 + 1) 33) ∧ True ∧ jKd T0 44 = 1 ∧ True ∧ (jKd T0 45 = 9 ∧ vp_in a3 33) ∧ True ∧ True ∧ True ∧ True ∧ True) rfl ⟨trivial, rfl, trivial, trivial, trivial, ⟨rfl, o1⟩, trivial, rfl, trivial, ⟨rfl, o2⟩, trivial, trivial, trivial, trivial, trivial⟩ ?_
      exact h
  · refine jRun.cut (k := jk_X1_sumOfBytes) rfl 5 (c' := (if (M 12 8) ≤ a3 then 65 else 15, [.ref 46, .ref 22, .int a2, .int a3, .null, .null], [], M)) (ob := True ∧ True ∧ jKd T0 46 = 1 ∧ jKd T0 12 = 3 ∧ True ∧ True) rfl ⟨trivial, trivial, rfl, rfl, trivial, trivial⟩ ?_
    refine jRun.br (fun g => ?_) (fun g => ?_)
    · have h := h.1 g
      exact jRun.ret (k := jk_X1_sumOfBytes) rfl 2 (v := some (.int a2)) (M1 := M) (ob := True ∧ True) rfl ⟨trivial, trivial⟩ h
    · have h := h.2 g
      obtain ⟨o1, o2, h⟩ := h
      refine jRun.cut (k := jk_X1_sumOfBytes) rfl 14 (c' := (35, [.ref 46, .ref 22, .int a2, .int a3, .int ((M 47 (a3 + 1).toNatClampNeg) - (M 47 a3.toNatClampNeg)), .int 0], [], M)) (ob := True ∧ jKd T0 46 = 1 ∧ True ∧ True ∧ True ∧ (jKd T0 47 = 9 ∧ vp_in (a3 + 1) 33) ∧ True ∧ jKd T0 46 = 1 ∧ True ∧ (jKd T0 47 = 9 ∧ vp_in a3 33) ∧ True ∧ True ∧ True ∧ True ∧ True) rfl ⟨trivial, rfl, trivial, trivial, trivial, ⟨rfl, o1⟩, trivial, rfl, trivial, ⟨rfl, o2⟩, trivial, trivial, trivial, trivial, trivial⟩ ?_
      exact h
  · refine jRun.cut (k := jk_X1_sumOfBytes) rfl 5 (c' := (if (M 12 8) ≤ a3 then 65 else 15, [.ref 51, .ref 49, .int a2, .int a3, .null, .null], [], M)) (ob := True ∧ True ∧ jKd T0 51 = 1 ∧ jKd T0 12 = 3 ∧ True ∧ True) rfl ⟨trivial, trivial, rfl, rfl, trivial, trivial⟩ ?_
    refine jRun.br (fun g => ?_) (fun g => ?_)
    · have h := h.1 g
      exact jRun.ret (k := jk_X1_sumOfBytes) rfl 2 (v := some (.int a2)) (M1 := M) (ob := True ∧ True) rfl ⟨trivial, trivial⟩ h
    · have h := h.2 g
      obtain ⟨o1, o2, h⟩ := h
      refine jRun.cut (k := jk_X1_sumOfBytes) rfl 14 (c' := (35, [.ref 51, .ref 49, .int a2, .int a3, .int ((M 52 (a3 + 1).toNatClampNeg) - (M 52 a3.toNatClampNeg)), .int 0], [], M)) (ob := True ∧ jKd T0 51 = 1 ∧ True ∧ True ∧ True ∧ (jKd T0 52 = 9 ∧ vp_in (a3 + 1) 33) ∧ True ∧ jKd T0 51 = 1 ∧ True ∧ (jKd T0 52 = 9 ∧ vp_in a3 33) ∧ True ∧ True ∧ True ∧ True ∧ True) rfl ⟨trivial, rfl, trivial, trivial, trivial, ⟨rfl, o1⟩, trivial, rfl, trivial, ⟨rfl, o2⟩, trivial, trivial, trivial, trivial, trivial⟩ ?_
      exact h
theorem v_X1_sumOfBytes_35 {X : jX} {d : Nat} {L A S Z : Nat} (hv : jLS L A S Z) (a2 : Int32) (a3 : Int32) (a4 : Int32) (a5 : Int32) (M : jMem) (Q : Option Value → jMem → Prop) (h : ((a4 ≤ a5 → jRun X T0 (d + 1) q_X1_sumOfBytes (4, [.ref L, .ref S, .int a2, .int (a3 + 1), .null, .null], [], M) Q) ∧ (¬ a4 ≤ a5 → jOk X T0 d q_X1_byteOf [.ref L, .ref S, .int a3, .int a5] M (fun v M1 => ∃ r1, v = some (.int r1) ∧ jRun X T0 (d + 1) q_X1_sumOfBytes (35, [.ref L, .ref S, .int (a2 + r1), .int a3, .int a4, .int (a5 + 1)], [], M1) Q)))) : jRun X T0 (d + 1) q_X1_sumOfBytes (35, [.ref L, .ref S, .int a2, .int a3, .int a4, .int a5], [], M) Q := by
  rcases hv with ⟨rfl, rfl, rfl, rfl⟩ | ⟨rfl, rfl, rfl, rfl⟩ | ⟨rfl, rfl, rfl, rfl⟩ | ⟨rfl, rfl, rfl, rfl⟩
  · refine jRun.cut (k := jk_X1_sumOfBytes) rfl 3 (c' := (if a4 ≤ a5 then 59 else 42, [.ref 42, .ref 22, .int a2, .int a3, .int a4, .int a5], [], M)) (ob := True ∧ True ∧ True ∧ True) rfl ⟨trivial, trivial, trivial, trivial⟩ ?_
    refine jRun.br (fun g => ?_) (fun g => ?_)
    · have h := h.1 g
      refine jRun.cut (k := jk_X1_sumOfBytes) rfl 2 (c' := (4, [.ref 42, .ref 22, .int a2, .int (a3 + 1), .int a4, .int a5], [], M)) (ob := True ∧ True ∧ True) rfl ⟨trivial, trivial, trivial⟩ ?_
      exact jRun.weak (by simp [jFew]) h
    · have h := h.2 g
      refine jRun.call (k := jk_X1_sumOfBytes) rfl 6 (f := q_X1_byteOf) (As := [.ref 42, .ref 22, .int a3, .int a5]) (c1 := (51, [.ref 42, .ref 22, .int a2, .int a3, .int a4, .int a5], [.int a2], M)) (ob := True ∧ True ∧ True ∧ True ∧ True ∧ jKd T0 42 = 1) rfl ⟨trivial, trivial, trivial, trivial, trivial, rfl⟩ h (fun v M1 h => ?_)
      obtain ⟨r1, rfl, h⟩ := h
      show jRun X T0 (d + 1) q_X1_sumOfBytes (51, [.ref 42, .ref 22, .int a2, .int a3, .int a4, .int a5], [.int r1, .int a2], M1) Q
      refine jRun.cut (k := jk_X1_sumOfBytes) rfl 4 (c' := (35, [.ref 42, .ref 22, .int (a2 + r1), .int a3, .int a4, .int (a5 + 1)], [], M1)) (ob := True ∧ True ∧ True ∧ True ∧ True) rfl ⟨trivial, trivial, trivial, trivial, trivial⟩ ?_
      exact h
  · refine jRun.cut (k := jk_X1_sumOfBytes) rfl 3 (c' := (if a4 ≤ a5 then 59 else 42, [.ref 44, .ref 22, .int a2, .int a3, .int a4, .int a5], [], M)) (ob := True ∧ True ∧ True ∧ True) rfl ⟨trivial, trivial, trivial, trivial⟩ ?_
    refine jRun.br (fun g => ?_) (fun g => ?_)
    · have h := h.1 g
      refine jRun.cut (k := jk_X1_sumOfBytes) rfl 2 (c' := (4, [.ref 44, .ref 22, .int a2, .int (a3 + 1), .int a4, .int a5], [], M)) (ob := True ∧ True ∧ True) rfl ⟨trivial, trivial, trivial⟩ ?_
      exact jRun.weak (by simp [jFew]) h
    · have h := h.2 g
      refine jRun.call (k := jk_X1_sumOfBytes) rfl 6 (f := q_X1_byteOf) (As := [.ref 44, .ref 22, .int a3, .int a5]) (c1 := (51, [.ref 44, .ref 22, .int a2, .int a3, .int a4, .int a5], [.int a2], M)) (ob := True ∧ True ∧ True ∧ True ∧ True ∧ jKd T0 44 = 1) rfl ⟨trivial, trivial, trivial, trivial, trivial, rfl⟩ h (fun v M1 h => ?_)
      obtain ⟨r1, rfl, h⟩ := h
      show jRun X T0 (d + 1) q_X1_sumOfBytes (51, [.ref 44, .ref 22, .int a2, .int a3, .int a4, .int a5], [.int r1, .int a2], M1) Q
      refine jRun.cut (k := jk_X1_sumOfBytes) rfl 4 (c' := (35, [.ref 44, .ref 22, .int (a2 + r1), .int a3, .int a4, .int (a5 + 1)], [], M1)) (ob := True ∧ True ∧ True ∧ True ∧ True) rfl ⟨trivial, trivial, trivial, trivial, trivial⟩ ?_
      exact h
  · refine jRun.cut (k := jk_X1_sumOfBytes) rfl 3 (c' := (if a4 ≤ a5 then 59 else 42, [.ref 46, .ref 22, .int a2, .int a3, .int a4, .int a5], [], M)) (ob := True ∧ True ∧ True ∧ True) rfl ⟨trivial, trivial, trivial, trivial⟩ ?_
    refine jRun.br (fun g => ?_) (fun g => ?_)
    · have h := h.1 g
      refine jRun.cut (k := jk_X1_sumOfBytes) rfl 2 (c' := (4, [.ref 46, .ref 22, .int a2, .int (a3 + 1), .int a4, .int a5], [], M)) (ob := True ∧ True ∧ True) rfl ⟨trivial, trivial, trivial⟩ ?_
      exact jRun.weak (by simp [jFew]) h
    · have h := h.2 g
      refine jRun.call (k := jk_X1_sumOfBytes) rfl 6 (f := q_X1_byteOf) (As := [.ref 46, .ref 22, .int a3, .int a5]) (c1 := (51, [.ref 46, .ref 22, .int a2, .int a3, .int a4, .int a5], [.int a2], M)) (ob := True ∧ True ∧ True ∧ True ∧ True ∧ jKd T0 46 = 1) rfl ⟨trivial, trivial, trivial, trivial, trivial, rfl⟩ h (fun v M1 h => ?_)
      obtain ⟨r1, rfl, h⟩ := h
      show jRun X T0 (d + 1) q_X1_sumOfBytes (51, [.ref 46, .ref 22, .int a2, .int a3, .int a4, .int a5], [.int r1, .int a2], M1) Q
      refine jRun.cut (k := jk_X1_sumOfBytes) rfl 4 (c' := (35, [.ref 46, .ref 22, .int (a2 + r1), .int a3, .int a4, .int (a5 + 1)], [], M1)) (ob := True ∧ True ∧ True ∧ True ∧ True) rfl ⟨trivial, trivial, trivial, trivial, trivial⟩ ?_
      exact h
  · refine jRun.cut (k := jk_X1_sumOfBytes) rfl 3 (c' := (if a4 ≤ a5 then 59 else 42, [.ref 51, .ref 49, .int a2, .int a3, .int a4, .int a5], [], M)) (ob := True ∧ True ∧ True ∧ True) rfl ⟨trivial, trivial, trivial, trivial⟩ ?_
    refine jRun.br (fun g => ?_) (fun g => ?_)
    · have h := h.1 g
      refine jRun.cut (k := jk_X1_sumOfBytes) rfl 2 (c' := (4, [.ref 51, .ref 49, .int a2, .int (a3 + 1), .int a4, .int a5], [], M)) (ob := True ∧ True ∧ True) rfl ⟨trivial, trivial, trivial⟩ ?_
      exact jRun.weak (by simp [jFew]) h
    · have h := h.2 g
      refine jRun.call (k := jk_X1_sumOfBytes) rfl 6 (f := q_X1_byteOf) (As := [.ref 51, .ref 49, .int a3, .int a5]) (c1 := (51, [.ref 51, .ref 49, .int a2, .int a3, .int a4, .int a5], [.int a2], M)) (ob := True ∧ True ∧ True ∧ True ∧ True ∧ jKd T0 51 = 1) rfl ⟨trivial, trivial, trivial, trivial, trivial, rfl⟩ h (fun v M1 h => ?_)
      obtain ⟨r1, rfl, h⟩ := h
      show jRun X T0 (d + 1) q_X1_sumOfBytes (51, [.ref 51, .ref 49, .int a2, .int a3, .int a4, .int a5], [.int r1, .int a2], M1) Q
      refine jRun.cut (k := jk_X1_sumOfBytes) rfl 4 (c' := (35, [.ref 51, .ref 49, .int (a2 + r1), .int a3, .int a4, .int (a5 + 1)], [], M1)) (ob := True ∧ True ∧ True ∧ True ∧ True) rfl ⟨trivial, trivial, trivial, trivial, trivial⟩ ?_
      exact h
theorem v_X1_itemOfByte {X : jX} {d : Nat} (hI : jInj X T0) {L A S Z : Nat} (hv : jLS L A S Z) (a1 : Int32) (M : jMem) (Q : Option Value → jMem → Prop) (h : ((0 ≤ a1 → jRun X T0 d q_X1_itemOfByte (8, [.ref L, .int a1, .int 0], [], M) Q) ∧ (¬ 0 ≤ a1 → Q (some (.int (-1))) M))) : jOk X T0 d q_X1_itemOfByte [.ref L, .int a1] M Q := by
  rcases hv with ⟨rfl, rfl, rfl, rfl⟩ | ⟨rfl, rfl, rfl, rfl⟩ | ⟨rfl, rfl, rfl, rfl⟩ | ⟨rfl, rfl, rfl, rfl⟩
  · refine jOk.intro (ml := 3) (ls := [.ref 42, .int a1, .null]) (jTl (by decide)) rfl (Nat.le_of_ble_eq_true rfl) rfl hI ?_
    refine jRun.cut (k := jk_X1_itemOfByte) rfl 2 (c' := (if 0 ≤ a1 then 6 else 4, [.ref 42, .int a1, .null], [], M)) (ob := True ∧ True ∧ True) rfl ⟨trivial, trivial, trivial⟩ ?_
    refine jRun.br (fun g => ?_) (fun g => ?_)
    · have h := h.1 g
      refine jRun.cut (k := jk_X1_itemOfByte) rfl 2 (c' := (8, [.ref 42, .int a1, .int 0], [], M)) (ob := True ∧ True ∧ True) rfl ⟨trivial, trivial, trivial⟩ ?_
      exact h
    · have h := h.2 g
      exact jRun.ret (k := jk_X1_itemOfByte) rfl 2 (v := some (.int (-1))) (M1 := M) (ob := True ∧ True) rfl ⟨trivial, trivial⟩ h
  · refine jOk.intro (ml := 3) (ls := [.ref 44, .int a1, .null]) (jTl (by decide)) rfl (Nat.le_of_ble_eq_true rfl) rfl hI ?_
    refine jRun.cut (k := jk_X1_itemOfByte) rfl 2 (c' := (if 0 ≤ a1 then 6 else 4, [.ref 44, .int a1, .null], [], M)) (ob := True ∧ True ∧ True) rfl ⟨trivial, trivial, trivial⟩ ?_
    refine jRun.br (fun g => ?_) (fun g => ?_)
    · have h := h.1 g
      refine jRun.cut (k := jk_X1_itemOfByte) rfl 2 (c' := (8, [.ref 44, .int a1, .int 0], [], M)) (ob := True ∧ True ∧ True) rfl ⟨trivial, trivial, trivial⟩ ?_
      exact h
    · have h := h.2 g
      exact jRun.ret (k := jk_X1_itemOfByte) rfl 2 (v := some (.int (-1))) (M1 := M) (ob := True ∧ True) rfl ⟨trivial, trivial⟩ h
  · refine jOk.intro (ml := 3) (ls := [.ref 46, .int a1, .null]) (jTl (by decide)) rfl (Nat.le_of_ble_eq_true rfl) rfl hI ?_
    refine jRun.cut (k := jk_X1_itemOfByte) rfl 2 (c' := (if 0 ≤ a1 then 6 else 4, [.ref 46, .int a1, .null], [], M)) (ob := True ∧ True ∧ True) rfl ⟨trivial, trivial, trivial⟩ ?_
    refine jRun.br (fun g => ?_) (fun g => ?_)
    · have h := h.1 g
      refine jRun.cut (k := jk_X1_itemOfByte) rfl 2 (c' := (8, [.ref 46, .int a1, .int 0], [], M)) (ob := True ∧ True ∧ True) rfl ⟨trivial, trivial, trivial⟩ ?_
      exact h
    · have h := h.2 g
      exact jRun.ret (k := jk_X1_itemOfByte) rfl 2 (v := some (.int (-1))) (M1 := M) (ob := True ∧ True) rfl ⟨trivial, trivial⟩ h
  · refine jOk.intro (ml := 3) (ls := [.ref 51, .int a1, .null]) (jTl (by decide)) rfl (Nat.le_of_ble_eq_true rfl) rfl hI ?_
    refine jRun.cut (k := jk_X1_itemOfByte) rfl 2 (c' := (if 0 ≤ a1 then 6 else 4, [.ref 51, .int a1, .null], [], M)) (ob := True ∧ True ∧ True) rfl ⟨trivial, trivial, trivial⟩ ?_
    refine jRun.br (fun g => ?_) (fun g => ?_)
    · have h := h.1 g
      refine jRun.cut (k := jk_X1_itemOfByte) rfl 2 (c' := (8, [.ref 51, .int a1, .int 0], [], M)) (ob := True ∧ True ∧ True) rfl ⟨trivial, trivial, trivial⟩ ?_
      exact h
    · have h := h.2 g
      exact jRun.ret (k := jk_X1_itemOfByte) rfl 2 (v := some (.int (-1))) (M1 := M) (ob := True ∧ True) rfl ⟨trivial, trivial⟩ h
theorem v_X1_itemOfByte_8 {X : jX} {d : Nat} {L A S Z : Nat} (hv : jLS L A S Z) (a1 : Int32) (a2 : Int32) (M : jMem) (Q : Option Value → jMem → Prop) (h : (((M 12 8) ≤ a2 → Q (some (.int (-1))) M) ∧ (¬ (M 12 8) ≤ a2 → vp_in (a2 + 1) 33 ∧ (((M A (a2 + 1).toNatClampNeg) ≤ a1 → jRun X T0 d q_X1_itemOfByte (8, [.ref L, .int a1, .int (a2 + 1)], [], M) Q) ∧ (¬ (M A (a2 + 1).toNatClampNeg) ≤ a1 → Q (some (.int a2)) M))))) : jRun X T0 d q_X1_itemOfByte (8, [.ref L, .int a1, .int a2], [], M) Q := by
  rcases hv with ⟨rfl, rfl, rfl, rfl⟩ | ⟨rfl, rfl, rfl, rfl⟩ | ⟨rfl, rfl, rfl, rfl⟩ | ⟨rfl, rfl, rfl, rfl⟩
  · refine jRun.cut (k := jk_X1_itemOfByte) rfl 5 (c' := (if (M 12 8) ≤ a2 then 39 else 19, [.ref 42, .int a1, .int a2], [], M)) (ob := True ∧ True ∧ jKd T0 42 = 1 ∧ jKd T0 12 = 3 ∧ True ∧ True) rfl ⟨trivial, trivial, rfl, rfl, trivial, trivial⟩ ?_
    refine jRun.br (fun g => ?_) (fun g => ?_)
    · have h := h.1 g
      exact jRun.ret (k := jk_X1_itemOfByte) rfl 2 (v := some (.int (-1))) (M1 := M) (ob := True ∧ True) rfl ⟨trivial, trivial⟩ h
    · have h := h.2 g
      obtain ⟨o1, h⟩ := h
      refine jRun.cut (k := jk_X1_itemOfByte) rfl 8 (c' := (if (M 43 (a2 + 1).toNatClampNeg) ≤ a1 then 33 else 31, [.ref 42, .int a1, .int a2], [], M)) (ob := True ∧ True ∧ jKd T0 42 = 1 ∧ True ∧ True ∧ True ∧ (jKd T0 43 = 9 ∧ vp_in (a2 + 1) 33) ∧ True ∧ True) rfl ⟨trivial, trivial, rfl, trivial, trivial, trivial, ⟨rfl, o1⟩, trivial, trivial⟩ ?_
      refine jRun.br (fun g => ?_) (fun g => ?_)
      · have h := h.1 g
        refine jRun.cut (k := jk_X1_itemOfByte) rfl 2 (c' := (8, [.ref 42, .int a1, .int (a2 + 1)], [], M)) (ob := True ∧ True ∧ True) rfl ⟨trivial, trivial, trivial⟩ ?_
        exact h
      · have h := h.2 g
        exact jRun.ret (k := jk_X1_itemOfByte) rfl 2 (v := some (.int a2)) (M1 := M) (ob := True ∧ True) rfl ⟨trivial, trivial⟩ h
  · refine jRun.cut (k := jk_X1_itemOfByte) rfl 5 (c' := (if (M 12 8) ≤ a2 then 39 else 19, [.ref 44, .int a1, .int a2], [], M)) (ob := True ∧ True ∧ jKd T0 44 = 1 ∧ jKd T0 12 = 3 ∧ True ∧ True) rfl ⟨trivial, trivial, rfl, rfl, trivial, trivial⟩ ?_
    refine jRun.br (fun g => ?_) (fun g => ?_)
    · have h := h.1 g
      exact jRun.ret (k := jk_X1_itemOfByte) rfl 2 (v := some (.int (-1))) (M1 := M) (ob := True ∧ True) rfl ⟨trivial, trivial⟩ h
    · have h := h.2 g
      obtain ⟨o1, h⟩ := h
      refine jRun.cut (k := jk_X1_itemOfByte) rfl 8 (c' := (if (M 45 (a2 + 1).toNatClampNeg) ≤ a1 then 33 else 31, [.ref 44, .int a1, .int a2], [], M)) (ob := True ∧ True ∧ jKd T0 44 = 1 ∧ True ∧ True ∧ True ∧ (jKd T0 45 = 9 ∧ vp_in (a2 + 1) 33) ∧ True ∧ True) rfl ⟨trivial, trivial, rfl, trivial, trivial, trivial, ⟨rfl, o1⟩, trivial, trivial⟩ ?_
      refine jRun.br (fun g => ?_) (fun g => ?_)
      · have h := h.1 g
        refine jRun.cut (k := jk_X1_itemOfByte) rfl 2 (c' := (8, [.ref 44, .int a1, .int (a2 + 1)], [], M)) (ob := True ∧ True ∧ True) rfl ⟨trivial, trivial, trivial⟩ ?_
        exact h
      · have h := h.2 g
        exact jRun.ret (k := jk_X1_itemOfByte) rfl 2 (v := some (.int a2)) (M1 := M) (ob := True ∧ True) rfl ⟨trivial, trivial⟩ h
  · refine jRun.cut (k := jk_X1_itemOfByte) rfl 5 (c' := (if (M 12 8) ≤ a2 then 39 else 19, [.ref 46, .int a1, .int a2], [], M)) (ob := True ∧ True ∧ jKd T0 46 = 1 ∧ jKd T0 12 = 3 ∧ True ∧ True) rfl ⟨trivial, trivial, rfl, rfl, trivial, trivial⟩ ?_
    refine jRun.br (fun g => ?_) (fun g => ?_)
    · have h := h.1 g
      exact jRun.ret (k := jk_X1_itemOfByte) rfl 2 (v := some (.int (-1))) (M1 := M) (ob := True ∧ True) rfl ⟨trivial, trivial⟩ h
    · have h := h.2 g
      obtain ⟨o1, h⟩ := h
      refine jRun.cut (k := jk_X1_itemOfByte) rfl 8 (c' := (if (M 47 (a2 + 1).toNatClampNeg) ≤ a1 then 33 else 31, [.ref 46, .int a1, .int a2], [], M)) (ob := True ∧ True ∧ jKd T0 46 = 1 ∧ True ∧ True ∧ True ∧ (jKd T0 47 = 9 ∧ vp_in (a2 + 1) 33) ∧ True ∧ True) rfl ⟨trivial, trivial, rfl, trivial, trivial, trivial, ⟨rfl, o1⟩, trivial, trivial⟩ ?_
      refine jRun.br (fun g => ?_) (fun g => ?_)
      · have h := h.1 g
        refine jRun.cut (k := jk_X1_itemOfByte) rfl 2 (c' := (8, [.ref 46, .int a1, .int (a2 + 1)], [], M)) (ob := True ∧ True ∧ True) rfl ⟨trivial, trivial, trivial⟩ ?_
        exact h
      · have h := h.2 g
        exact jRun.ret (k := jk_X1_itemOfByte) rfl 2 (v := some (.int a2)) (M1 := M) (ob := True ∧ True) rfl ⟨trivial, trivial⟩ h
  · refine jRun.cut (k := jk_X1_itemOfByte) rfl 5 (c' := (if (M 12 8) ≤ a2 then 39 else 19, [.ref 51, .int a1, .int a2], [], M)) (ob := True ∧ True ∧ jKd T0 51 = 1 ∧ jKd T0 12 = 3 ∧ True ∧ True) rfl ⟨trivial, trivial, rfl, rfl, trivial, trivial⟩ ?_
    refine jRun.br (fun g => ?_) (fun g => ?_)
    · have h := h.1 g
      exact jRun.ret (k := jk_X1_itemOfByte) rfl 2 (v := some (.int (-1))) (M1 := M) (ob := True ∧ True) rfl ⟨trivial, trivial⟩ h
    · have h := h.2 g
      obtain ⟨o1, h⟩ := h
      refine jRun.cut (k := jk_X1_itemOfByte) rfl 8 (c' := (if (M 52 (a2 + 1).toNatClampNeg) ≤ a1 then 33 else 31, [.ref 51, .int a1, .int a2], [], M)) (ob := True ∧ True ∧ jKd T0 51 = 1 ∧ True ∧ True ∧ True ∧ (jKd T0 52 = 9 ∧ vp_in (a2 + 1) 33) ∧ True ∧ True) rfl ⟨trivial, trivial, rfl, trivial, trivial, trivial, ⟨rfl, o1⟩, trivial, trivial⟩ ?_
      refine jRun.br (fun g => ?_) (fun g => ?_)
      · have h := h.1 g
        refine jRun.cut (k := jk_X1_itemOfByte) rfl 2 (c' := (8, [.ref 51, .int a1, .int (a2 + 1)], [], M)) (ob := True ∧ True ∧ True) rfl ⟨trivial, trivial, trivial⟩ ?_
        exact h
      · have h := h.2 g
        exact jRun.ret (k := jk_X1_itemOfByte) rfl 2 (v := some (.int a2)) (M1 := M) (ob := True ∧ True) rfl ⟨trivial, trivial⟩ h
theorem v_X1_byteOf {X : jX} {d : Nat} (hI : jInj X T0) {L A S Z : Nat} (hv : jLS L A S Z) (a2 : Int32) (a3 : Int32) (M : jMem) (Q : Option Value → jMem → Prop) (h : vp_in a2 32 ∧ (((M 13 a2.toNatClampNeg) = 0 → Q (some (.int 16)) M) ∧ (¬ (M 13 a2.toNatClampNeg) = 0 → (((M 13 a2.toNatClampNeg) = 1 → Q (some (.int 0)) M) ∧ (¬ (M 13 a2.toNatClampNeg) = 1 → (((M 13 a2.toNatClampNeg) = 2 → ((¬ a3 = 0 → jOk X T0 d q_X1_farOf [.ref L, .int a2] M (fun v M1 => ∃ r1, v = some (.int r1) ∧ jOk X T0 d q_X1_byteOfNumber [.int r1, .int (a3 - 1)] M1 (fun v M2 => ∃ r2, v = some (.int r2) ∧ Q (some (.int r2)) M2))) ∧ (a3 = 0 → jOk X T0 d q_X1_isLong [.ref L, .int (M 15 a2.toNatClampNeg)] M (fun v M3 => ∃ r3, v = some (.int r3) ∧ ((r3 = 0 → Q (some (.int 1)) M3) ∧ (¬ r3 = 0 → Q (some (.int 2)) M3)))))) ∧ (¬ (M 13 a2.toNatClampNeg) = 2 → (((M 13 a2.toNatClampNeg) = 3 → Q (some (.int 0)) M) ∧ (¬ (M 13 a2.toNatClampNeg) = 3 → (((M 13 a2.toNatClampNeg) = 4 → ((¬ a3 = 0 → jOk X T0 d q_X1_farServed [.ref L, .ref S, .int a2] M (fun v M4 => ∃ r4, v = some (.int r4) ∧ ((¬ r4 = (-1000000) → jOk X T0 d q_X1_byteOfNumber [.int r4, .int 0] M4 (fun v M5 => ∃ r5, v = some (.int r5) ∧ Q (some (.int r5)) M5)) ∧ (r4 = (-1000000) → Q (some (.int 0)) M4)))) ∧ (a3 = 0 → Q (some (.int 3)) M))) ∧ (¬ (M 13 a2.toNatClampNeg) = 4 → (((M 13 a2.toNatClampNeg) = 5 → ((¬ (a3 - a3 / 5 * 5) = 0 → jOk X T0 d q_X1_farOfIsland [.ref L, .ref S, .int a2, .int (a3 / 5)] M (fun v M6 => ∃ r6, v = some (.int r6) ∧ jOk X T0 d q_X1_byteOfNumber [.int r6, .int ((a3 - a3 / 5 * 5) - 1)] M6 (fun v M7 => ∃ r7, v = some (.int r7) ∧ Q (some (.int r7)) M7))) ∧ ((a3 - a3 / 5 * 5) = 0 → Q (some (.int 4)) M))) ∧ (¬ (M 13 a2.toNatClampNeg) = 5 → Q (some (.int 0)) M))))))))))))) : jOk X T0 (d + 1) q_X1_byteOf [.ref L, .ref S, .int a2, .int a3] M Q := by
  rcases hv with ⟨rfl, rfl, rfl, rfl⟩ | ⟨rfl, rfl, rfl, rfl⟩ | ⟨rfl, rfl, rfl, rfl⟩ | ⟨rfl, rfl, rfl, rfl⟩
  · refine jOk.intro (ml := 5) (ls := [.ref 42, .ref 22, .int a2, .int a3, .null]) (jTl (by decide)) rfl (Nat.le_of_ble_eq_true rfl) rfl hI ?_
    obtain ⟨o1, h⟩ := h
    refine jRun.cut (k := jk_X1_byteOf) rfl 6 (c' := (if (M 13 a2.toNatClampNeg) = 0 then 48 else if (M 13 a2.toNatClampNeg) = 1 then 147 else if (M 13 a2.toNatClampNeg) = 2 then 51 else if (M 13 a2.toNatClampNeg) = 3 then 147 else if (M 13 a2.toNatClampNeg) = 4 then 89 else if (M 13 a2.toNatClampNeg) = 5 then 121 else 147, [.ref 42, .ref 22, .int a2, .int a3, .null], [], M)) (ob := True ∧ jKd T0 42 = 1 ∧ jKd T0 12 = 3 ∧ True ∧ (jKd T0 13 = 9 ∧ vp_in a2 32) ∧ True ∧ True) rfl ⟨trivial, rfl, rfl, trivial, ⟨rfl, o1⟩, trivial, trivial⟩ ?_
    refine jRun.br (fun g => ?_) (fun g => ?_)
    · have h := h.1 g
      exact jRun.ret (k := jk_X1_byteOf) rfl 2 (v := some (.int 16)) (M1 := M) (ob := True ∧ True) rfl ⟨trivial, trivial⟩ h
    · have h := h.2 g
      refine jRun.br (fun g => ?_) (fun g => ?_)
      · have h := h.1 g
        exact jRun.ret (k := jk_X1_byteOf) rfl 2 (v := some (.int 0)) (M1 := M) (ob := True ∧ True) rfl ⟨trivial, trivial⟩ h
      · have h := h.2 g
        refine jRun.br (fun g => ?_) (fun g => ?_)
        · have h := h.1 g
          refine jRun.cut (k := jk_X1_byteOf) rfl 2 (c' := (if ¬ a3 = 0 then 77 else 55, [.ref 42, .ref 22, .int a2, .int a3, .null], [], M)) (ob := True ∧ True ∧ True) rfl ⟨trivial, trivial, trivial⟩ ?_
          refine jRun.brn (fun g => ?_) (fun g => ?_)
          · have h := h.1 g
            refine jRun.call (k := jk_X1_byteOf) rfl 3 (f := q_X1_farOf) (As := [.ref 42, .int a2]) (c1 := (82, [.ref 42, .ref 22, .int a2, .int a3, .null], [], M)) (ob := True ∧ True ∧ jKd T0 42 = 1) rfl ⟨trivial, trivial, rfl⟩ h (fun v M1 h => ?_)
            obtain ⟨r1, rfl, h⟩ := h
            show jRun X T0 (d + 1) q_X1_byteOf (82, [.ref 42, .ref 22, .int a2, .int a3, .null], [.int r1], M1) Q
            refine jRun.call (k := jk_X1_byteOf) rfl 4 (f := q_X1_byteOfNumber) (As := [.int r1, .int (a3 - 1)]) (c1 := (88, [.ref 42, .ref 22, .int a2, .int a3, .null], [], M1)) (ob := True ∧ True ∧ True ∧ True) rfl ⟨trivial, trivial, trivial, trivial⟩ h (fun v M2 h => ?_)
            obtain ⟨r2, rfl, h⟩ := h
            show jRun X T0 (d + 1) q_X1_byteOf (88, [.ref 42, .ref 22, .int a2, .int a3, .null], [.int r2], M2) Q
            exact jRun.ret (k := jk_X1_byteOf) rfl 1 (v := some (.int r2)) (M1 := M2) (ob := True) rfl trivial h
          · have h := h.2 g
            refine jRun.call (k := jk_X1_byteOf) rfl 7 (f := q_X1_isLong) (As := [.ref 42, .int (M 15 a2.toNatClampNeg)]) (c1 := (68, [.ref 42, .ref 22, .int a2, .int a3, .null], [], M)) (ob := True ∧ True ∧ jKd T0 42 = 1 ∧ jKd T0 12 = 3 ∧ True ∧ (jKd T0 15 = 9 ∧ vp_in a2 32) ∧ jKd T0 42 = 1) rfl ⟨trivial, trivial, rfl, rfl, trivial, ⟨rfl, o1⟩, rfl⟩ h (fun v M3 h => ?_)
            obtain ⟨r3, rfl, h⟩ := h
            show jRun X T0 (d + 1) q_X1_byteOf (68, [.ref 42, .ref 22, .int a2, .int a3, .null], [.int r3], M3) Q
            refine jRun.cut (k := jk_X1_byteOf) rfl 1 (c' := (if r3 = 0 then 75 else 71, [.ref 42, .ref 22, .int a2, .int a3, .null], [], M3)) (ob := True ∧ True) rfl ⟨trivial, trivial⟩ ?_
            refine jRun.br (fun g => ?_) (fun g => ?_)
            · have h := h.1 g
              exact jRun.ret (k := jk_X1_byteOf) rfl 2 (v := some (.int 1)) (M1 := M3) (ob := True ∧ True) rfl ⟨trivial, trivial⟩ h
            · have h := h.2 g
              exact jRun.ret (k := jk_X1_byteOf) rfl 3 (v := some (.int 2)) (M1 := M3) (ob := True ∧ True ∧ True) rfl ⟨trivial, trivial, trivial⟩ h
        · have h := h.2 g
          refine jRun.br (fun g => ?_) (fun g => ?_)
          · have h := h.1 g
            exact jRun.ret (k := jk_X1_byteOf) rfl 2 (v := some (.int 0)) (M1 := M) (ob := True ∧ True) rfl ⟨trivial, trivial⟩ h
          · have h := h.2 g
            refine jRun.br (fun g => ?_) (fun g => ?_)
            · have h := h.1 g
              refine jRun.cut (k := jk_X1_byteOf) rfl 2 (c' := (if ¬ a3 = 0 then 95 else 93, [.ref 42, .ref 22, .int a2, .int a3, .null], [], M)) (ob := True ∧ True ∧ True) rfl ⟨trivial, trivial, trivial⟩ ?_
              refine jRun.brn (fun g => ?_) (fun g => ?_)
              · have h := h.1 g
                refine jRun.call (k := jk_X1_byteOf) rfl 4 (f := q_X1_farServed) (As := [.ref 42, .ref 22, .int a2]) (c1 := (101, [.ref 42, .ref 22, .int a2, .int a3, .null], [], M)) (ob := True ∧ True ∧ True ∧ jKd T0 42 = 1) rfl ⟨trivial, trivial, trivial, rfl⟩ h (fun v M4 h => ?_)
                obtain ⟨r4, rfl, h⟩ := h
                show jRun X T0 (d + 1) q_X1_byteOf (101, [.ref 42, .ref 22, .int a2, .int a3, .null], [.int r4], M4) Q
                refine jRun.cut (k := jk_X1_byteOf) rfl 4 (c' := (if ¬ r4 = (-1000000) then 114 else 110, [.ref 42, .ref 22, .int a2, .int a3, .int r4], [], M4)) (ob := True ∧ True ∧ True ∧ True ∧ True) rfl ⟨trivial, trivial, trivial, trivial, trivial⟩ ?_
                refine jRun.brn (fun g => ?_) (fun g => ?_)
                · have h := h.1 g
                  refine jRun.call (k := jk_X1_byteOf) rfl 3 (f := q_X1_byteOfNumber) (As := [.int r4, .int 0]) (c1 := (120, [.ref 42, .ref 22, .int a2, .int a3, .int r4], [], M4)) (ob := True ∧ True ∧ True) rfl ⟨trivial, trivial, trivial⟩ h (fun v M5 h => ?_)
                  obtain ⟨r5, rfl, h⟩ := h
                  show jRun X T0 (d + 1) q_X1_byteOf (120, [.ref 42, .ref 22, .int a2, .int a3, .int r4], [.int r5], M5) Q
                  exact jRun.ret (k := jk_X1_byteOf) rfl 1 (v := some (.int r5)) (M1 := M5) (ob := True) rfl trivial h
                · have h := h.2 g
                  exact jRun.ret (k := jk_X1_byteOf) rfl 3 (v := some (.int 0)) (M1 := M4) (ob := True ∧ True ∧ True) rfl ⟨trivial, trivial, trivial⟩ h
              · have h := h.2 g
                exact jRun.ret (k := jk_X1_byteOf) rfl 2 (v := some (.int 3)) (M1 := M) (ob := True ∧ True) rfl ⟨trivial, trivial⟩ h
            · have h := h.2 g
              refine jRun.br (fun g => ?_) (fun g => ?_)
              · have h := h.1 g
                refine jRun.cut (k := jk_X1_byteOf) rfl 4 (c' := (if ¬ (a3 - a3 / 5 * 5) = 0 then 129 else 127, [.ref 42, .ref 22, .int a2, .int a3, .null], [], M)) (ob := True ∧ True ∧ ¬ 5 = 0 ∧ True ∧ True) rfl ⟨trivial, trivial, (by decide), trivial, trivial⟩ ?_
                refine jRun.brn (fun g => ?_) (fun g => ?_)
                · have h := h.1 g
                  refine jRun.call (k := jk_X1_byteOf) rfl 7 (f := q_X1_farOfIsland) (As := [.ref 42, .ref 22, .int a2, .int (a3 / 5)]) (c1 := (138, [.ref 42, .ref 22, .int a2, .int a3, .null], [], M)) (ob := True ∧ True ∧ True ∧ True ∧ True ∧ ¬ 5 = 0 ∧ jKd T0 42 = 1) rfl ⟨trivial, trivial, trivial, trivial, trivial, (by decide), rfl⟩ h (fun v M6 h => ?_)
                  obtain ⟨r6, rfl, h⟩ := h
                  show jRun X T0 (d + 1) q_X1_byteOf (138, [.ref 42, .ref 22, .int a2, .int a3, .null], [.int r6], M6) Q
                  refine jRun.call (k := jk_X1_byteOf) rfl 6 (f := q_X1_byteOfNumber) (As := [.int r6, .int ((a3 - a3 / 5 * 5) - 1)]) (c1 := (146, [.ref 42, .ref 22, .int a2, .int a3, .null], [], M6)) (ob := True ∧ True ∧ ¬ 5 = 0 ∧ True ∧ True ∧ True) rfl ⟨trivial, trivial, (by decide), trivial, trivial, trivial⟩ h (fun v M7 h => ?_)
                  obtain ⟨r7, rfl, h⟩ := h
                  show jRun X T0 (d + 1) q_X1_byteOf (146, [.ref 42, .ref 22, .int a2, .int a3, .null], [.int r7], M7) Q
                  exact jRun.ret (k := jk_X1_byteOf) rfl 1 (v := some (.int r7)) (M1 := M7) (ob := True) rfl trivial h
                · have h := h.2 g
                  exact jRun.ret (k := jk_X1_byteOf) rfl 2 (v := some (.int 4)) (M1 := M) (ob := True ∧ True) rfl ⟨trivial, trivial⟩ h
              · have h := h.2 g
                exact jRun.ret (k := jk_X1_byteOf) rfl 2 (v := some (.int 0)) (M1 := M) (ob := True ∧ True) rfl ⟨trivial, trivial⟩ h
  · refine jOk.intro (ml := 5) (ls := [.ref 44, .ref 22, .int a2, .int a3, .null]) (jTl (by decide)) rfl (Nat.le_of_ble_eq_true rfl) rfl hI ?_
    obtain ⟨o1, h⟩ := h
    refine jRun.cut (k := jk_X1_byteOf) rfl 6 (c' := (if (M 13 a2.toNatClampNeg) = 0 then 48 else if (M 13 a2.toNatClampNeg) = 1 then 147 else if (M 13 a2.toNatClampNeg) = 2 then 51 else if (M 13 a2.toNatClampNeg) = 3 then 147 else if (M 13 a2.toNatClampNeg) = 4 then 89 else if (M 13 a2.toNatClampNeg) = 5 then 121 else 147, [.ref 44, .ref 22, .int a2, .int a3, .null], [], M)) (ob := True ∧ jKd T0 44 = 1 ∧ jKd T0 12 = 3 ∧ True ∧ (jKd T0 13 = 9 ∧ vp_in a2 32) ∧ True ∧ True) rfl ⟨trivial, rfl, rfl, trivial, ⟨rfl, o1⟩, trivial, trivial⟩ ?_
    refine jRun.br (fun g => ?_) (fun g => ?_)
    · have h := h.1 g
      exact jRun.ret (k := jk_X1_byteOf) rfl 2 (v := some (.int 16)) (M1 := M) (ob := True ∧ True) rfl ⟨trivial, trivial⟩ h
    · have h := h.2 g
      refine jRun.br (fun g => ?_) (fun g => ?_)
      · have h := h.1 g
        exact jRun.ret (k := jk_X1_byteOf) rfl 2 (v := some (.int 0)) (M1 := M) (ob := True ∧ True) rfl ⟨trivial, trivial⟩ h
      · have h := h.2 g
        refine jRun.br (fun g => ?_) (fun g => ?_)
        · have h := h.1 g
          refine jRun.cut (k := jk_X1_byteOf) rfl 2 (c' := (if ¬ a3 = 0 then 77 else 55, [.ref 44, .ref 22, .int a2, .int a3, .null], [], M)) (ob := True ∧ True ∧ True) rfl ⟨trivial, trivial, trivial⟩ ?_
          refine jRun.brn (fun g => ?_) (fun g => ?_)
          · have h := h.1 g
            refine jRun.call (k := jk_X1_byteOf) rfl 3 (f := q_X1_farOf) (As := [.ref 44, .int a2]) (c1 := (82, [.ref 44, .ref 22, .int a2, .int a3, .null], [], M)) (ob := True ∧ True ∧ jKd T0 44 = 1) rfl ⟨trivial, trivial, rfl⟩ h (fun v M1 h => ?_)
            obtain ⟨r1, rfl, h⟩ := h
            show jRun X T0 (d + 1) q_X1_byteOf (82, [.ref 44, .ref 22, .int a2, .int a3, .null], [.int r1], M1) Q
            refine jRun.call (k := jk_X1_byteOf) rfl 4 (f := q_X1_byteOfNumber) (As := [.int r1, .int (a3 - 1)]) (c1 := (88, [.ref 44, .ref 22, .int a2, .int a3, .null], [], M1)) (ob := True ∧ True ∧ True ∧ True) rfl ⟨trivial, trivial, trivial, trivial⟩ h (fun v M2 h => ?_)
            obtain ⟨r2, rfl, h⟩ := h
            show jRun X T0 (d + 1) q_X1_byteOf (88, [.ref 44, .ref 22, .int a2, .int a3, .null], [.int r2], M2) Q
            exact jRun.ret (k := jk_X1_byteOf) rfl 1 (v := some (.int r2)) (M1 := M2) (ob := True) rfl trivial h
          · have h := h.2 g
            refine jRun.call (k := jk_X1_byteOf) rfl 7 (f := q_X1_isLong) (As := [.ref 44, .int (M 15 a2.toNatClampNeg)]) (c1 := (68, [.ref 44, .ref 22, .int a2, .int a3, .null], [], M)) (ob := True ∧ True ∧ jKd T0 44 = 1 ∧ jKd T0 12 = 3 ∧ True ∧ (jKd T0 15 = 9 ∧ vp_in a2 32) ∧ jKd T0 44 = 1) rfl ⟨trivial, trivial, rfl, rfl, trivial, ⟨rfl, o1⟩, rfl⟩ h (fun v M3 h => ?_)
            obtain ⟨r3, rfl, h⟩ := h
            show jRun X T0 (d + 1) q_X1_byteOf (68, [.ref 44, .ref 22, .int a2, .int a3, .null], [.int r3], M3) Q
            refine jRun.cut (k := jk_X1_byteOf) rfl 1 (c' := (if r3 = 0 then 75 else 71, [.ref 44, .ref 22, .int a2, .int a3, .null], [], M3)) (ob := True ∧ True) rfl ⟨trivial, trivial⟩ ?_
            refine jRun.br (fun g => ?_) (fun g => ?_)
            · have h := h.1 g
              exact jRun.ret (k := jk_X1_byteOf) rfl 2 (v := some (.int 1)) (M1 := M3) (ob := True ∧ True) rfl ⟨trivial, trivial⟩ h
            · have h := h.2 g
              exact jRun.ret (k := jk_X1_byteOf) rfl 3 (v := some (.int 2)) (M1 := M3) (ob := True ∧ True ∧ True) rfl ⟨trivial, trivial, trivial⟩ h
        · have h := h.2 g
          refine jRun.br (fun g => ?_) (fun g => ?_)
          · have h := h.1 g
            exact jRun.ret (k := jk_X1_byteOf) rfl 2 (v := some (.int 0)) (M1 := M) (ob := True ∧ True) rfl ⟨trivial, trivial⟩ h
          · have h := h.2 g
            refine jRun.br (fun g => ?_) (fun g => ?_)
            · have h := h.1 g
              refine jRun.cut (k := jk_X1_byteOf) rfl 2 (c' := (if ¬ a3 = 0 then 95 else 93, [.ref 44, .ref 22, .int a2, .int a3, .null], [], M)) (ob := True ∧ True ∧ True) rfl ⟨trivial, trivial, trivial⟩ ?_
              refine jRun.brn (fun g => ?_) (fun g => ?_)
              · have h := h.1 g
                refine jRun.call (k := jk_X1_byteOf) rfl 4 (f := q_X1_farServed) (As := [.ref 44, .ref 22, .int a2]) (c1 := (101, [.ref 44, .ref 22, .int a2, .int a3, .null], [], M)) (ob := True ∧ True ∧ True ∧ jKd T0 44 = 1) rfl ⟨trivial, trivial, trivial, rfl⟩ h (fun v M4 h => ?_)
                obtain ⟨r4, rfl, h⟩ := h
                show jRun X T0 (d + 1) q_X1_byteOf (101, [.ref 44, .ref 22, .int a2, .int a3, .null], [.int r4], M4) Q
                refine jRun.cut (k := jk_X1_byteOf) rfl 4 (c' := (if ¬ r4 = (-1000000) then 114 else 110, [.ref 44, .ref 22, .int a2, .int a3, .int r4], [], M4)) (ob := True ∧ True ∧ True ∧ True ∧ True) rfl ⟨trivial, trivial, trivial, trivial, trivial⟩ ?_
                refine jRun.brn (fun g => ?_) (fun g => ?_)
                · have h := h.1 g
                  refine jRun.call (k := jk_X1_byteOf) rfl 3 (f := q_X1_byteOfNumber) (As := [.int r4, .int 0]) (c1 := (120, [.ref 44, .ref 22, .int a2, .int a3, .int r4], [], M4)) (ob := True ∧ True ∧ True) rfl ⟨trivial, trivial, trivial⟩ h (fun v M5 h => ?_)
                  obtain ⟨r5, rfl, h⟩ := h
                  show jRun X T0 (d + 1) q_X1_byteOf (120, [.ref 44, .ref 22, .int a2, .int a3, .int r4], [.int r5], M5) Q
                  exact jRun.ret (k := jk_X1_byteOf) rfl 1 (v := some (.int r5)) (M1 := M5) (ob := True) rfl trivial h
                · have h := h.2 g
                  exact jRun.ret (k := jk_X1_byteOf) rfl 3 (v := some (.int 0)) (M1 := M4) (ob := True ∧ True ∧ True) rfl ⟨trivial, trivial, trivial⟩ h
              · have h := h.2 g
                exact jRun.ret (k := jk_X1_byteOf) rfl 2 (v := some (.int 3)) (M1 := M) (ob := True ∧ True) rfl ⟨trivial, trivial⟩ h
            · have h := h.2 g
              refine jRun.br (fun g => ?_) (fun g => ?_)
              · have h := h.1 g
                refine jRun.cut (k := jk_X1_byteOf) rfl 4 (c' := (if ¬ (a3 - a3 / 5 * 5) = 0 then 129 else 127, [.ref 44, .ref 22, .int a2, .int a3, .null], [], M)) (ob := True ∧ True ∧ ¬ 5 = 0 ∧ True ∧ True) rfl ⟨trivial, trivial, (by decide), trivial, trivial⟩ ?_
                refine jRun.brn (fun g => ?_) (fun g => ?_)
                · have h := h.1 g
                  refine jRun.call (k := jk_X1_byteOf) rfl 7 (f := q_X1_farOfIsland) (As := [.ref 44, .ref 22, .int a2, .int (a3 / 5)]) (c1 := (138, [.ref 44, .ref 22, .int a2, .int a3, .null], [], M)) (ob := True ∧ True ∧ True ∧ True ∧ True ∧ ¬ 5 = 0 ∧ jKd T0 44 = 1) rfl ⟨trivial, trivial, trivial, trivial, trivial, (by decide), rfl⟩ h (fun v M6 h => ?_)
                  obtain ⟨r6, rfl, h⟩ := h
                  show jRun X T0 (d + 1) q_X1_byteOf (138, [.ref 44, .ref 22, .int a2, .int a3, .null], [.int r6], M6) Q
                  refine jRun.call (k := jk_X1_byteOf) rfl 6 (f := q_X1_byteOfNumber) (As := [.int r6, .int ((a3 - a3 / 5 * 5) - 1)]) (c1 := (146, [.ref 44, .ref 22, .int a2, .int a3, .null], [], M6)) (ob := True ∧ True ∧ ¬ 5 = 0 ∧ True ∧ True ∧ True) rfl ⟨trivial, trivial, (by decide), trivial, trivial, trivial⟩ h (fun v M7 h => ?_)
                  obtain ⟨r7, rfl, h⟩ := h
                  show jRun X T0 (d + 1) q_X1_byteOf (146, [.ref 44, .ref 22, .int a2, .int a3, .null], [.int r7], M7) Q
                  exact jRun.ret (k := jk_X1_byteOf) rfl 1 (v := some (.int r7)) (M1 := M7) (ob := True) rfl trivial h
                · have h := h.2 g
                  exact jRun.ret (k := jk_X1_byteOf) rfl 2 (v := some (.int 4)) (M1 := M) (ob := True ∧ True) rfl ⟨trivial, trivial⟩ h
              · have h := h.2 g
                exact jRun.ret (k := jk_X1_byteOf) rfl 2 (v := some (.int 0)) (M1 := M) (ob := True ∧ True) rfl ⟨trivial, trivial⟩ h
  · refine jOk.intro (ml := 5) (ls := [.ref 46, .ref 22, .int a2, .int a3, .null]) (jTl (by decide)) rfl (Nat.le_of_ble_eq_true rfl) rfl hI ?_
    obtain ⟨o1, h⟩ := h
    refine jRun.cut (k := jk_X1_byteOf) rfl 6 (c' := (if (M 13 a2.toNatClampNeg) = 0 then 48 else if (M 13 a2.toNatClampNeg) = 1 then 147 else if (M 13 a2.toNatClampNeg) = 2 then 51 else if (M 13 a2.toNatClampNeg) = 3 then 147 else if (M 13 a2.toNatClampNeg) = 4 then 89 else if (M 13 a2.toNatClampNeg) = 5 then 121 else 147, [.ref 46, .ref 22, .int a2, .int a3, .null], [], M)) (ob := True ∧ jKd T0 46 = 1 ∧ jKd T0 12 = 3 ∧ True ∧ (jKd T0 13 = 9 ∧ vp_in a2 32) ∧ True ∧ True) rfl ⟨trivial, rfl, rfl, trivial, ⟨rfl, o1⟩, trivial, trivial⟩ ?_
    refine jRun.br (fun g => ?_) (fun g => ?_)
    · have h := h.1 g
      exact jRun.ret (k := jk_X1_byteOf) rfl 2 (v := some (.int 16)) (M1 := M) (ob := True ∧ True) rfl ⟨trivial, trivial⟩ h
    · have h := h.2 g
      refine jRun.br (fun g => ?_) (fun g => ?_)
      · have h := h.1 g
        exact jRun.ret (k := jk_X1_byteOf) rfl 2 (v := some (.int 0)) (M1 := M) (ob := True ∧ True) rfl ⟨trivial, trivial⟩ h
      · have h := h.2 g
        refine jRun.br (fun g => ?_) (fun g => ?_)
        · have h := h.1 g
          refine jRun.cut (k := jk_X1_byteOf) rfl 2 (c' := (if ¬ a3 = 0 then 77 else 55, [.ref 46, .ref 22, .int a2, .int a3, .null], [], M)) (ob := True ∧ True ∧ True) rfl ⟨trivial, trivial, trivial⟩ ?_
          refine jRun.brn (fun g => ?_) (fun g => ?_)
          · have h := h.1 g
            refine jRun.call (k := jk_X1_byteOf) rfl 3 (f := q_X1_farOf) (As := [.ref 46, .int a2]) (c1 := (82, [.ref 46, .ref 22, .int a2, .int a3, .null], [], M)) (ob := True ∧ True ∧ jKd T0 46 = 1) rfl ⟨trivial, trivial, rfl⟩ h (fun v M1 h => ?_)
            obtain ⟨r1, rfl, h⟩ := h
            show jRun X T0 (d + 1) q_X1_byteOf (82, [.ref 46, .ref 22, .int a2, .int a3, .null], [.int r1], M1) Q
            refine jRun.call (k := jk_X1_byteOf) rfl 4 (f := q_X1_byteOfNumber) (As := [.int r1, .int (a3 - 1)]) (c1 := (88, [.ref 46, .ref 22, .int a2, .int a3, .null], [], M1)) (ob := True ∧ True ∧ True ∧ True) rfl ⟨trivial, trivial, trivial, trivial⟩ h (fun v M2 h => ?_)
            obtain ⟨r2, rfl, h⟩ := h
            show jRun X T0 (d + 1) q_X1_byteOf (88, [.ref 46, .ref 22, .int a2, .int a3, .null], [.int r2], M2) Q
            exact jRun.ret (k := jk_X1_byteOf) rfl 1 (v := some (.int r2)) (M1 := M2) (ob := True) rfl trivial h
          · have h := h.2 g
            refine jRun.call (k := jk_X1_byteOf) rfl 7 (f := q_X1_isLong) (As := [.ref 46, .int (M 15 a2.toNatClampNeg)]) (c1 := (68, [.ref 46, .ref 22, .int a2, .int a3, .null], [], M)) (ob := True ∧ True ∧ jKd T0 46 = 1 ∧ jKd T0 12 = 3 ∧ True ∧ (jKd T0 15 = 9 ∧ vp_in a2 32) ∧ jKd T0 46 = 1) rfl ⟨trivial, trivial, rfl, rfl, trivial, ⟨rfl, o1⟩, rfl⟩ h (fun v M3 h => ?_)
            obtain ⟨r3, rfl, h⟩ := h
            show jRun X T0 (d + 1) q_X1_byteOf (68, [.ref 46, .ref 22, .int a2, .int a3, .null], [.int r3], M3) Q
            refine jRun.cut (k := jk_X1_byteOf) rfl 1 (c' := (if r3 = 0 then 75 else 71, [.ref 46, .ref 22, .int a2, .int a3, .null], [], M3)) (ob := True ∧ True) rfl ⟨trivial, trivial⟩ ?_
            refine jRun.br (fun g => ?_) (fun g => ?_)
            · have h := h.1 g
              exact jRun.ret (k := jk_X1_byteOf) rfl 2 (v := some (.int 1)) (M1 := M3) (ob := True ∧ True) rfl ⟨trivial, trivial⟩ h
            · have h := h.2 g
              exact jRun.ret (k := jk_X1_byteOf) rfl 3 (v := some (.int 2)) (M1 := M3) (ob := True ∧ True ∧ True) rfl ⟨trivial, trivial, trivial⟩ h
        · have h := h.2 g
          refine jRun.br (fun g => ?_) (fun g => ?_)
          · have h := h.1 g
            exact jRun.ret (k := jk_X1_byteOf) rfl 2 (v := some (.int 0)) (M1 := M) (ob := True ∧ True) rfl ⟨trivial, trivial⟩ h
          · have h := h.2 g
            refine jRun.br (fun g => ?_) (fun g => ?_)
            · have h := h.1 g
              refine jRun.cut (k := jk_X1_byteOf) rfl 2 (c' := (if ¬ a3 = 0 then 95 else 93, [.ref 46, .ref 22, .int a2, .int a3, .null], [], M)) (ob := True ∧ True ∧ True) rfl ⟨trivial, trivial, trivial⟩ ?_
              refine jRun.brn (fun g => ?_) (fun g => ?_)
              · have h := h.1 g
                refine jRun.call (k := jk_X1_byteOf) rfl 4 (f := q_X1_farServed) (As := [.ref 46, .ref 22, .int a2]) (c1 := (101, [.ref 46, .ref 22, .int a2, .int a3, .null], [], M)) (ob := True ∧ True ∧ True ∧ jKd T0 46 = 1) rfl ⟨trivial, trivial, trivial, rfl⟩ h (fun v M4 h => ?_)
                obtain ⟨r4, rfl, h⟩ := h
                show jRun X T0 (d + 1) q_X1_byteOf (101, [.ref 46, .ref 22, .int a2, .int a3, .null], [.int r4], M4) Q
                refine jRun.cut (k := jk_X1_byteOf) rfl 4 (c' := (if ¬ r4 = (-1000000) then 114 else 110, [.ref 46, .ref 22, .int a2, .int a3, .int r4], [], M4)) (ob := True ∧ True ∧ True ∧ True ∧ True) rfl ⟨trivial, trivial, trivial, trivial, trivial⟩ ?_
                refine jRun.brn (fun g => ?_) (fun g => ?_)
                · have h := h.1 g
                  refine jRun.call (k := jk_X1_byteOf) rfl 3 (f := q_X1_byteOfNumber) (As := [.int r4, .int 0]) (c1 := (120, [.ref 46, .ref 22, .int a2, .int a3, .int r4], [], M4)) (ob := True ∧ True ∧ True) rfl ⟨trivial, trivial, trivial⟩ h (fun v M5 h => ?_)
                  obtain ⟨r5, rfl, h⟩ := h
                  show jRun X T0 (d + 1) q_X1_byteOf (120, [.ref 46, .ref 22, .int a2, .int a3, .int r4], [.int r5], M5) Q
                  exact jRun.ret (k := jk_X1_byteOf) rfl 1 (v := some (.int r5)) (M1 := M5) (ob := True) rfl trivial h
                · have h := h.2 g
                  exact jRun.ret (k := jk_X1_byteOf) rfl 3 (v := some (.int 0)) (M1 := M4) (ob := True ∧ True ∧ True) rfl ⟨trivial, trivial, trivial⟩ h
              · have h := h.2 g
                exact jRun.ret (k := jk_X1_byteOf) rfl 2 (v := some (.int 3)) (M1 := M) (ob := True ∧ True) rfl ⟨trivial, trivial⟩ h
            · have h := h.2 g
              refine jRun.br (fun g => ?_) (fun g => ?_)
              · have h := h.1 g
                refine jRun.cut (k := jk_X1_byteOf) rfl 4 (c' := (if ¬ (a3 - a3 / 5 * 5) = 0 then 129 else 127, [.ref 46, .ref 22, .int a2, .int a3, .null], [], M)) (ob := True ∧ True ∧ ¬ 5 = 0 ∧ True ∧ True) rfl ⟨trivial, trivial, (by decide), trivial, trivial⟩ ?_
                refine jRun.brn (fun g => ?_) (fun g => ?_)
                · have h := h.1 g
                  refine jRun.call (k := jk_X1_byteOf) rfl 7 (f := q_X1_farOfIsland) (As := [.ref 46, .ref 22, .int a2, .int (a3 / 5)]) (c1 := (138, [.ref 46, .ref 22, .int a2, .int a3, .null], [], M)) (ob := True ∧ True ∧ True ∧ True ∧ True ∧ ¬ 5 = 0 ∧ jKd T0 46 = 1) rfl ⟨trivial, trivial, trivial, trivial, trivial, (by decide), rfl⟩ h (fun v M6 h => ?_)
                  obtain ⟨r6, rfl, h⟩ := h
                  show jRun X T0 (d + 1) q_X1_byteOf (138, [.ref 46, .ref 22, .int a2, .int a3, .null], [.int r6], M6) Q
                  refine jRun.call (k := jk_X1_byteOf) rfl 6 (f := q_X1_byteOfNumber) (As := [.int r6, .int ((a3 - a3 / 5 * 5) - 1)]) (c1 := (146, [.ref 46, .ref 22, .int a2, .int a3, .null], [], M6)) (ob := True ∧ True ∧ ¬ 5 = 0 ∧ True ∧ True ∧ True) rfl ⟨trivial, trivial, (by decide), trivial, trivial, trivial⟩ h (fun v M7 h => ?_)
                  obtain ⟨r7, rfl, h⟩ := h
                  show jRun X T0 (d + 1) q_X1_byteOf (146, [.ref 46, .ref 22, .int a2, .int a3, .null], [.int r7], M7) Q
                  exact jRun.ret (k := jk_X1_byteOf) rfl 1 (v := some (.int r7)) (M1 := M7) (ob := True) rfl trivial h
                · have h := h.2 g
                  exact jRun.ret (k := jk_X1_byteOf) rfl 2 (v := some (.int 4)) (M1 := M) (ob := True ∧ True) rfl ⟨trivial, trivial⟩ h
              · have h := h.2 g
                exact jRun.ret (k := jk_X1_byteOf) rfl 2 (v := some (.int 0)) (M1 := M) (ob := True ∧ True) rfl ⟨trivial, trivial⟩ h
  · refine jOk.intro (ml := 5) (ls := [.ref 51, .ref 49, .int a2, .int a3, .null]) (jTl (by decide)) rfl (Nat.le_of_ble_eq_true rfl) rfl hI ?_
    obtain ⟨o1, h⟩ := h
    refine jRun.cut (k := jk_X1_byteOf) rfl 6 (c' := (if (M 13 a2.toNatClampNeg) = 0 then 48 else if (M 13 a2.toNatClampNeg) = 1 then 147 else if (M 13 a2.toNatClampNeg) = 2 then 51 else if (M 13 a2.toNatClampNeg) = 3 then 147 else if (M 13 a2.toNatClampNeg) = 4 then 89 else if (M 13 a2.toNatClampNeg) = 5 then 121 else 147, [.ref 51, .ref 49, .int a2, .int a3, .null], [], M)) (ob := True ∧ jKd T0 51 = 1 ∧ jKd T0 12 = 3 ∧ True ∧ (jKd T0 13 = 9 ∧ vp_in a2 32) ∧ True ∧ True) rfl ⟨trivial, rfl, rfl, trivial, ⟨rfl, o1⟩, trivial, trivial⟩ ?_
    refine jRun.br (fun g => ?_) (fun g => ?_)
    · have h := h.1 g
      exact jRun.ret (k := jk_X1_byteOf) rfl 2 (v := some (.int 16)) (M1 := M) (ob := True ∧ True) rfl ⟨trivial, trivial⟩ h
    · have h := h.2 g
      refine jRun.br (fun g => ?_) (fun g => ?_)
      · have h := h.1 g
        exact jRun.ret (k := jk_X1_byteOf) rfl 2 (v := some (.int 0)) (M1 := M) (ob := True ∧ True) rfl ⟨trivial, trivial⟩ h
      · have h := h.2 g
        refine jRun.br (fun g => ?_) (fun g => ?_)
        · have h := h.1 g
          refine jRun.cut (k := jk_X1_byteOf) rfl 2 (c' := (if ¬ a3 = 0 then 77 else 55, [.ref 51, .ref 49, .int a2, .int a3, .null], [], M)) (ob := True ∧ True ∧ True) rfl ⟨trivial, trivial, trivial⟩ ?_
          refine jRun.brn (fun g => ?_) (fun g => ?_)
          · have h := h.1 g
            refine jRun.call (k := jk_X1_byteOf) rfl 3 (f := q_X1_farOf) (As := [.ref 51, .int a2]) (c1 := (82, [.ref 51, .ref 49, .int a2, .int a3, .null], [], M)) (ob := True ∧ True ∧ jKd T0 51 = 1) rfl ⟨trivial, trivial, rfl⟩ h (fun v M1 h => ?_)
            obtain ⟨r1, rfl, h⟩ := h
            show jRun X T0 (d + 1) q_X1_byteOf (82, [.ref 51, .ref 49, .int a2, .int a3, .null], [.int r1], M1) Q
            refine jRun.call (k := jk_X1_byteOf) rfl 4 (f := q_X1_byteOfNumber) (As := [.int r1, .int (a3 - 1)]) (c1 := (88, [.ref 51, .ref 49, .int a2, .int a3, .null], [], M1)) (ob := True ∧ True ∧ True ∧ True) rfl ⟨trivial, trivial, trivial, trivial⟩ h (fun v M2 h => ?_)
            obtain ⟨r2, rfl, h⟩ := h
            show jRun X T0 (d + 1) q_X1_byteOf (88, [.ref 51, .ref 49, .int a2, .int a3, .null], [.int r2], M2) Q
            exact jRun.ret (k := jk_X1_byteOf) rfl 1 (v := some (.int r2)) (M1 := M2) (ob := True) rfl trivial h
          · have h := h.2 g
            refine jRun.call (k := jk_X1_byteOf) rfl 7 (f := q_X1_isLong) (As := [.ref 51, .int (M 15 a2.toNatClampNeg)]) (c1 := (68, [.ref 51, .ref 49, .int a2, .int a3, .null], [], M)) (ob := True ∧ True ∧ jKd T0 51 = 1 ∧ jKd T0 12 = 3 ∧ True ∧ (jKd T0 15 = 9 ∧ vp_in a2 32) ∧ jKd T0 51 = 1) rfl ⟨trivial, trivial, rfl, rfl, trivial, ⟨rfl, o1⟩, rfl⟩ h (fun v M3 h => ?_)
            obtain ⟨r3, rfl, h⟩ := h
            show jRun X T0 (d + 1) q_X1_byteOf (68, [.ref 51, .ref 49, .int a2, .int a3, .null], [.int r3], M3) Q
            refine jRun.cut (k := jk_X1_byteOf) rfl 1 (c' := (if r3 = 0 then 75 else 71, [.ref 51, .ref 49, .int a2, .int a3, .null], [], M3)) (ob := True ∧ True) rfl ⟨trivial, trivial⟩ ?_
            refine jRun.br (fun g => ?_) (fun g => ?_)
            · have h := h.1 g
              exact jRun.ret (k := jk_X1_byteOf) rfl 2 (v := some (.int 1)) (M1 := M3) (ob := True ∧ True) rfl ⟨trivial, trivial⟩ h
            · have h := h.2 g
              exact jRun.ret (k := jk_X1_byteOf) rfl 3 (v := some (.int 2)) (M1 := M3) (ob := True ∧ True ∧ True) rfl ⟨trivial, trivial, trivial⟩ h
        · have h := h.2 g
          refine jRun.br (fun g => ?_) (fun g => ?_)
          · have h := h.1 g
            exact jRun.ret (k := jk_X1_byteOf) rfl 2 (v := some (.int 0)) (M1 := M) (ob := True ∧ True) rfl ⟨trivial, trivial⟩ h
          · have h := h.2 g
            refine jRun.br (fun g => ?_) (fun g => ?_)
            · have h := h.1 g
              refine jRun.cut (k := jk_X1_byteOf) rfl 2 (c' := (if ¬ a3 = 0 then 95 else 93, [.ref 51, .ref 49, .int a2, .int a3, .null], [], M)) (ob := True ∧ True ∧ True) rfl ⟨trivial, trivial, trivial⟩ ?_
              refine jRun.brn (fun g => ?_) (fun g => ?_)
              · have h := h.1 g
                refine jRun.call (k := jk_X1_byteOf) rfl 4 (f := q_X1_farServed) (As := [.ref 51, .ref 49, .int a2]) (c1 := (101, [.ref 51, .ref 49, .int a2, .int a3, .null], [], M)) (ob := True ∧ True ∧ True ∧ jKd T0 51 = 1) rfl ⟨trivial, trivial, trivial, rfl⟩ h (fun v M4 h => ?_)
                obtain ⟨r4, rfl, h⟩ := h
                show jRun X T0 (d + 1) q_X1_byteOf (101, [.ref 51, .ref 49, .int a2, .int a3, .null], [.int r4], M4) Q
                refine jRun.cut (k := jk_X1_byteOf) rfl 4 (c' := (if ¬ r4 = (-1000000) then 114 else 110, [.ref 51, .ref 49, .int a2, .int a3, .int r4], [], M4)) (ob := True ∧ True ∧ True ∧ True ∧ True) rfl ⟨trivial, trivial, trivial, trivial, trivial⟩ ?_
                refine jRun.brn (fun g => ?_) (fun g => ?_)
                · have h := h.1 g
                  refine jRun.call (k := jk_X1_byteOf) rfl 3 (f := q_X1_byteOfNumber) (As := [.int r4, .int 0]) (c1 := (120, [.ref 51, .ref 49, .int a2, .int a3, .int r4], [], M4)) (ob := True ∧ True ∧ True) rfl ⟨trivial, trivial, trivial⟩ h (fun v M5 h => ?_)
                  obtain ⟨r5, rfl, h⟩ := h
                  show jRun X T0 (d + 1) q_X1_byteOf (120, [.ref 51, .ref 49, .int a2, .int a3, .int r4], [.int r5], M5) Q
                  exact jRun.ret (k := jk_X1_byteOf) rfl 1 (v := some (.int r5)) (M1 := M5) (ob := True) rfl trivial h
                · have h := h.2 g
                  exact jRun.ret (k := jk_X1_byteOf) rfl 3 (v := some (.int 0)) (M1 := M4) (ob := True ∧ True ∧ True) rfl ⟨trivial, trivial, trivial⟩ h
              · have h := h.2 g
                exact jRun.ret (k := jk_X1_byteOf) rfl 2 (v := some (.int 3)) (M1 := M) (ob := True ∧ True) rfl ⟨trivial, trivial⟩ h
            · have h := h.2 g
              refine jRun.br (fun g => ?_) (fun g => ?_)
              · have h := h.1 g
                refine jRun.cut (k := jk_X1_byteOf) rfl 4 (c' := (if ¬ (a3 - a3 / 5 * 5) = 0 then 129 else 127, [.ref 51, .ref 49, .int a2, .int a3, .null], [], M)) (ob := True ∧ True ∧ ¬ 5 = 0 ∧ True ∧ True) rfl ⟨trivial, trivial, (by decide), trivial, trivial⟩ ?_
                refine jRun.brn (fun g => ?_) (fun g => ?_)
                · have h := h.1 g
                  refine jRun.call (k := jk_X1_byteOf) rfl 7 (f := q_X1_farOfIsland) (As := [.ref 51, .ref 49, .int a2, .int (a3 / 5)]) (c1 := (138, [.ref 51, .ref 49, .int a2, .int a3, .null], [], M)) (ob := True ∧ True ∧ True ∧ True ∧ True ∧ ¬ 5 = 0 ∧ jKd T0 51 = 1) rfl ⟨trivial, trivial, trivial, trivial, trivial, (by decide), rfl⟩ h (fun v M6 h => ?_)
                  obtain ⟨r6, rfl, h⟩ := h
                  show jRun X T0 (d + 1) q_X1_byteOf (138, [.ref 51, .ref 49, .int a2, .int a3, .null], [.int r6], M6) Q
                  refine jRun.call (k := jk_X1_byteOf) rfl 6 (f := q_X1_byteOfNumber) (As := [.int r6, .int ((a3 - a3 / 5 * 5) - 1)]) (c1 := (146, [.ref 51, .ref 49, .int a2, .int a3, .null], [], M6)) (ob := True ∧ True ∧ ¬ 5 = 0 ∧ True ∧ True ∧ True) rfl ⟨trivial, trivial, (by decide), trivial, trivial, trivial⟩ h (fun v M7 h => ?_)
                  obtain ⟨r7, rfl, h⟩ := h
                  show jRun X T0 (d + 1) q_X1_byteOf (146, [.ref 51, .ref 49, .int a2, .int a3, .null], [.int r7], M7) Q
                  exact jRun.ret (k := jk_X1_byteOf) rfl 1 (v := some (.int r7)) (M1 := M7) (ob := True) rfl trivial h
                · have h := h.2 g
                  exact jRun.ret (k := jk_X1_byteOf) rfl 2 (v := some (.int 4)) (M1 := M) (ob := True ∧ True) rfl ⟨trivial, trivial⟩ h
              · have h := h.2 g
                exact jRun.ret (k := jk_X1_byteOf) rfl 2 (v := some (.int 0)) (M1 := M) (ob := True ∧ True) rfl ⟨trivial, trivial⟩ h
theorem v_X1_byteOfNumber {X : jX} {d : Nat} (hI : jInj X T0) (a0 : Int32) (a1 : Int32) (M : jMem) (Q : Option Value → jMem → Prop) (h : Q (some (.int ((a0 >>> ((8 * a1) &&& 31)) &&& 255))) M) : jOk X T0 d q_X1_byteOfNumber [.int a0, .int a1] M Q := by
  refine jOk.intro (ml := 2) (ls := [.int a0, .int a1]) (jTl (by decide)) rfl (Nat.le_of_ble_eq_true rfl) rfl hI ?_
  exact jRun.ret (k := jk_X1_byteOfNumber) rfl 8 (v := some (.int ((a0 >>> ((8 * a1) &&& 31)) &&& 255))) (M1 := M) (ob := True ∧ True ∧ True ∧ True ∧ True ∧ True ∧ True ∧ True) rfl ⟨trivial, trivial, trivial, trivial, trivial, trivial, trivial, trivial⟩ h
theorem v_X1_lay {X : jX} {d : Nat} (hI : jInj X T0) {L A S Z : Nat} (hv : jLS L A S Z) (a2 : Int32) (M : jMem) (Q : Option Value → jMem → Prop) (h : (∀ M1, M1 = jP M L 2 a2 → jRun X T0 (d + 1) q_X1_lay (10, [.ref L, .ref S, .int a2, .int 0, .int 0], [], M1) Q)) : jOk X T0 (d + 1) q_X1_lay [.ref L, .ref S, .int a2] M Q := by
  rcases hv with ⟨rfl, rfl, rfl, rfl⟩ | ⟨rfl, rfl, rfl, rfl⟩ | ⟨rfl, rfl, rfl, rfl⟩ | ⟨rfl, rfl, rfl, rfl⟩
  · refine jOk.intro (ml := 5) (ls := [.ref 42, .ref 22, .int a2, .null, .null]) (jTl (by decide)) rfl (Nat.le_of_ble_eq_true rfl) rfl hI ?_
    refine jRun.cut (k := jk_X1_lay) rfl 3 (c' := (5, [.ref 42, .ref 22, .int a2, .null, .null], [], (jP M 42 2 a2))) (ob := True ∧ True ∧ jKd T0 42 = 1 ∧ True) rfl ⟨trivial, trivial, rfl, trivial⟩ ?_
    refine jRun.nm (fun M1 eM1 => ?_)
    have h := h M1 eM1
    refine jRun.cut (k := jk_X1_lay) rfl 4 (c' := (10, [.ref 42, .ref 22, .int a2, .int 0, .int 0], [], M1)) (ob := True ∧ True ∧ True ∧ True ∧ True) rfl ⟨trivial, trivial, trivial, trivial, trivial⟩ ?_
    exact h
  · refine jOk.intro (ml := 5) (ls := [.ref 44, .ref 22, .int a2, .null, .null]) (jTl (by decide)) rfl (Nat.le_of_ble_eq_true rfl) rfl hI ?_
    refine jRun.cut (k := jk_X1_lay) rfl 3 (c' := (5, [.ref 44, .ref 22, .int a2, .null, .null], [], (jP M 44 2 a2))) (ob := True ∧ True ∧ jKd T0 44 = 1 ∧ True) rfl ⟨trivial, trivial, rfl, trivial⟩ ?_
    refine jRun.nm (fun M1 eM1 => ?_)
    have h := h M1 eM1
    refine jRun.cut (k := jk_X1_lay) rfl 4 (c' := (10, [.ref 44, .ref 22, .int a2, .int 0, .int 0], [], M1)) (ob := True ∧ True ∧ True ∧ True ∧ True) rfl ⟨trivial, trivial, trivial, trivial, trivial⟩ ?_
    exact h
  · refine jOk.intro (ml := 5) (ls := [.ref 46, .ref 22, .int a2, .null, .null]) (jTl (by decide)) rfl (Nat.le_of_ble_eq_true rfl) rfl hI ?_
    refine jRun.cut (k := jk_X1_lay) rfl 3 (c' := (5, [.ref 46, .ref 22, .int a2, .null, .null], [], (jP M 46 2 a2))) (ob := True ∧ True ∧ jKd T0 46 = 1 ∧ True) rfl ⟨trivial, trivial, rfl, trivial⟩ ?_
    refine jRun.nm (fun M1 eM1 => ?_)
    have h := h M1 eM1
    refine jRun.cut (k := jk_X1_lay) rfl 4 (c' := (10, [.ref 46, .ref 22, .int a2, .int 0, .int 0], [], M1)) (ob := True ∧ True ∧ True ∧ True ∧ True) rfl ⟨trivial, trivial, trivial, trivial, trivial⟩ ?_
    exact h
  · refine jOk.intro (ml := 5) (ls := [.ref 51, .ref 49, .int a2, .null, .null]) (jTl (by decide)) rfl (Nat.le_of_ble_eq_true rfl) rfl hI ?_
    refine jRun.cut (k := jk_X1_lay) rfl 3 (c' := (5, [.ref 51, .ref 49, .int a2, .null, .null], [], (jP M 51 2 a2))) (ob := True ∧ True ∧ jKd T0 51 = 1 ∧ True) rfl ⟨trivial, trivial, rfl, trivial⟩ ?_
    refine jRun.nm (fun M1 eM1 => ?_)
    have h := h M1 eM1
    refine jRun.cut (k := jk_X1_lay) rfl 4 (c' := (10, [.ref 51, .ref 49, .int a2, .int 0, .int 0], [], M1)) (ob := True ∧ True ∧ True ∧ True ∧ True) rfl ⟨trivial, trivial, trivial, trivial, trivial⟩ ?_
    exact h
theorem v_X1_lay_10 {X : jX} {d : Nat} {L A S Z : Nat} (hv : jLS L A S Z) (a2 : Int32) (a3 : Int32) (a4 : Int32) (M : jMem) (Q : Option Value → jMem → Prop) (h : (((M 12 8) ≤ a4 → vp_in (M 12 8) 33 ∧ (∀ M1, M1 = jP M A ((M 12 8).toNatClampNeg) a3 → Q none M1)) ∧ (¬ (M 12 8) ≤ a4 → vp_in a4 33 ∧ (∀ M2, M2 = jP M A a4.toNatClampNeg a3 → jOk X T0 d q_X1_bytesOf [.ref L, .ref S, .int a4, .int a3] M2 (fun v M3 => ∃ r1, v = some (.int r1) ∧ jRun X T0 (d + 1) q_X1_lay (10, [.ref L, .ref S, .int a2, .int (a3 + r1), .int (a4 + 1)], [], M3) Q))))) : jRun X T0 (d + 1) q_X1_lay (10, [.ref L, .ref S, .int a2, .int a3, .int a4], [], M) Q := by
  rcases hv with ⟨rfl, rfl, rfl, rfl⟩ | ⟨rfl, rfl, rfl, rfl⟩ | ⟨rfl, rfl, rfl, rfl⟩ | ⟨rfl, rfl, rfl, rfl⟩
  · refine jRun.cut (k := jk_X1_lay) rfl 5 (c' := (if (M 12 8) ≤ a4 then 47 else 22, [.ref 42, .ref 22, .int a2, .int a3, .int a4], [], M)) (ob := True ∧ True ∧ jKd T0 42 = 1 ∧ jKd T0 12 = 3 ∧ True ∧ True) rfl ⟨trivial, trivial, rfl, rfl, trivial, trivial⟩ ?_
    refine jRun.br (fun g => ?_) (fun g => ?_)
    · have h := h.1 g
      obtain ⟨o1, h⟩ := h
      refine jRun.cut (k := jk_X1_lay) rfl 7 (c' := (60, [.ref 42, .ref 22, .int a2, .int a3, .int a4], [], (jP M 43 ((M 12 8).toNatClampNeg) a3))) (ob := True ∧ jKd T0 42 = 1 ∧ True ∧ jKd T0 42 = 1 ∧ jKd T0 12 = 3 ∧ True ∧ (jKd T0 43 = 9 ∧ vp_in (M 12 8) 33) ∧ True) rfl ⟨trivial, rfl, trivial, rfl, rfl, trivial, ⟨rfl, o1⟩, trivial⟩ ?_
      refine jRun.nm (fun M1 eM1 => ?_)
      have h := h M1 eM1
      exact jRun.ret (k := jk_X1_lay) rfl 1 (v := none) (M1 := M1) (ob := True) rfl trivial h
    · have h := h.2 g
      obtain ⟨o2, h⟩ := h
      refine jRun.cut (k := jk_X1_lay) rfl 5 (c' := (30, [.ref 42, .ref 22, .int a2, .int a3, .int a4], [], (jP M 43 a4.toNatClampNeg a3))) (ob := True ∧ jKd T0 42 = 1 ∧ True ∧ True ∧ (jKd T0 43 = 9 ∧ vp_in a4 33) ∧ True) rfl ⟨trivial, rfl, trivial, trivial, ⟨rfl, o2⟩, trivial⟩ ?_
      refine jRun.nm (fun M2 eM2 => ?_)
      have h := h M2 eM2
      refine jRun.call (k := jk_X1_lay) rfl 6 (f := q_X1_bytesOf) (As := [.ref 42, .ref 22, .int a4, .int a3]) (c1 := (39, [.ref 42, .ref 22, .int a2, .int a3, .int a4], [.int a3], M2)) (ob := True ∧ True ∧ True ∧ True ∧ True ∧ jKd T0 42 = 1) rfl ⟨trivial, trivial, trivial, trivial, trivial, rfl⟩ h (fun v M3 h => ?_)
      obtain ⟨r1, rfl, h⟩ := h
      show jRun X T0 (d + 1) q_X1_lay (39, [.ref 42, .ref 22, .int a2, .int a3, .int a4], [.int r1, .int a3], M3) Q
      refine jRun.cut (k := jk_X1_lay) rfl 4 (c' := (10, [.ref 42, .ref 22, .int a2, .int (a3 + r1), .int (a4 + 1)], [], M3)) (ob := True ∧ True ∧ True ∧ True ∧ True) rfl ⟨trivial, trivial, trivial, trivial, trivial⟩ ?_
      exact h
  · refine jRun.cut (k := jk_X1_lay) rfl 5 (c' := (if (M 12 8) ≤ a4 then 47 else 22, [.ref 44, .ref 22, .int a2, .int a3, .int a4], [], M)) (ob := True ∧ True ∧ jKd T0 44 = 1 ∧ jKd T0 12 = 3 ∧ True ∧ True) rfl ⟨trivial, trivial, rfl, rfl, trivial, trivial⟩ ?_
    refine jRun.br (fun g => ?_) (fun g => ?_)
    · have h := h.1 g
      obtain ⟨o1, h⟩ := h
      refine jRun.cut (k := jk_X1_lay) rfl 7 (c' := (60, [.ref 44, .ref 22, .int a2, .int a3, .int a4], [], (jP M 45 ((M 12 8).toNatClampNeg) a3))) (ob := True ∧ jKd T0 44 = 1 ∧ True ∧ jKd T0 44 = 1 ∧ jKd T0 12 = 3 ∧ True ∧ (jKd T0 45 = 9 ∧ vp_in (M 12 8) 33) ∧ True) rfl ⟨trivial, rfl, trivial, rfl, rfl, trivial, ⟨rfl, o1⟩, trivial⟩ ?_
      refine jRun.nm (fun M1 eM1 => ?_)
      have h := h M1 eM1
      exact jRun.ret (k := jk_X1_lay) rfl 1 (v := none) (M1 := M1) (ob := True) rfl trivial h
    · have h := h.2 g
      obtain ⟨o2, h⟩ := h
      refine jRun.cut (k := jk_X1_lay) rfl 5 (c' := (30, [.ref 44, .ref 22, .int a2, .int a3, .int a4], [], (jP M 45 a4.toNatClampNeg a3))) (ob := True ∧ jKd T0 44 = 1 ∧ True ∧ True ∧ (jKd T0 45 = 9 ∧ vp_in a4 33) ∧ True) rfl ⟨trivial, rfl, trivial, trivial, ⟨rfl, o2⟩, trivial⟩ ?_
      refine jRun.nm (fun M2 eM2 => ?_)
      have h := h M2 eM2
      refine jRun.call (k := jk_X1_lay) rfl 6 (f := q_X1_bytesOf) (As := [.ref 44, .ref 22, .int a4, .int a3]) (c1 := (39, [.ref 44, .ref 22, .int a2, .int a3, .int a4], [.int a3], M2)) (ob := True ∧ True ∧ True ∧ True ∧ True ∧ jKd T0 44 = 1) rfl ⟨trivial, trivial, trivial, trivial, trivial, rfl⟩ h (fun v M3 h => ?_)
      obtain ⟨r1, rfl, h⟩ := h
      show jRun X T0 (d + 1) q_X1_lay (39, [.ref 44, .ref 22, .int a2, .int a3, .int a4], [.int r1, .int a3], M3) Q
      refine jRun.cut (k := jk_X1_lay) rfl 4 (c' := (10, [.ref 44, .ref 22, .int a2, .int (a3 + r1), .int (a4 + 1)], [], M3)) (ob := True ∧ True ∧ True ∧ True ∧ True) rfl ⟨trivial, trivial, trivial, trivial, trivial⟩ ?_
      exact h
  · refine jRun.cut (k := jk_X1_lay) rfl 5 (c' := (if (M 12 8) ≤ a4 then 47 else 22, [.ref 46, .ref 22, .int a2, .int a3, .int a4], [], M)) (ob := True ∧ True ∧ jKd T0 46 = 1 ∧ jKd T0 12 = 3 ∧ True ∧ True) rfl ⟨trivial, trivial, rfl, rfl, trivial, trivial⟩ ?_
    refine jRun.br (fun g => ?_) (fun g => ?_)
    · have h := h.1 g
      obtain ⟨o1, h⟩ := h
      refine jRun.cut (k := jk_X1_lay) rfl 7 (c' := (60, [.ref 46, .ref 22, .int a2, .int a3, .int a4], [], (jP M 47 ((M 12 8).toNatClampNeg) a3))) (ob := True ∧ jKd T0 46 = 1 ∧ True ∧ jKd T0 46 = 1 ∧ jKd T0 12 = 3 ∧ True ∧ (jKd T0 47 = 9 ∧ vp_in (M 12 8) 33) ∧ True) rfl ⟨trivial, rfl, trivial, rfl, rfl, trivial, ⟨rfl, o1⟩, trivial⟩ ?_
      refine jRun.nm (fun M1 eM1 => ?_)
      have h := h M1 eM1
      exact jRun.ret (k := jk_X1_lay) rfl 1 (v := none) (M1 := M1) (ob := True) rfl trivial h
    · have h := h.2 g
      obtain ⟨o2, h⟩ := h
      refine jRun.cut (k := jk_X1_lay) rfl 5 (c' := (30, [.ref 46, .ref 22, .int a2, .int a3, .int a4], [], (jP M 47 a4.toNatClampNeg a3))) (ob := True ∧ jKd T0 46 = 1 ∧ True ∧ True ∧ (jKd T0 47 = 9 ∧ vp_in a4 33) ∧ True) rfl ⟨trivial, rfl, trivial, trivial, ⟨rfl, o2⟩, trivial⟩ ?_
      refine jRun.nm (fun M2 eM2 => ?_)
      have h := h M2 eM2
      refine jRun.call (k := jk_X1_lay) rfl 6 (f := q_X1_bytesOf) (As := [.ref 46, .ref 22, .int a4, .int a3]) (c1 := (39, [.ref 46, .ref 22, .int a2, .int a3, .int a4], [.int a3], M2)) (ob := True ∧ True ∧ True ∧ True ∧ True ∧ jKd T0 46 = 1) rfl ⟨trivial, trivial, trivial, trivial, trivial, rfl⟩ h (fun v M3 h => ?_)
      obtain ⟨r1, rfl, h⟩ := h
      show jRun X T0 (d + 1) q_X1_lay (39, [.ref 46, .ref 22, .int a2, .int a3, .int a4], [.int r1, .int a3], M3) Q
      refine jRun.cut (k := jk_X1_lay) rfl 4 (c' := (10, [.ref 46, .ref 22, .int a2, .int (a3 + r1), .int (a4 + 1)], [], M3)) (ob := True ∧ True ∧ True ∧ True ∧ True) rfl ⟨trivial, trivial, trivial, trivial, trivial⟩ ?_
      exact h
  · refine jRun.cut (k := jk_X1_lay) rfl 5 (c' := (if (M 12 8) ≤ a4 then 47 else 22, [.ref 51, .ref 49, .int a2, .int a3, .int a4], [], M)) (ob := True ∧ True ∧ jKd T0 51 = 1 ∧ jKd T0 12 = 3 ∧ True ∧ True) rfl ⟨trivial, trivial, rfl, rfl, trivial, trivial⟩ ?_
    refine jRun.br (fun g => ?_) (fun g => ?_)
    · have h := h.1 g
      obtain ⟨o1, h⟩ := h
      refine jRun.cut (k := jk_X1_lay) rfl 7 (c' := (60, [.ref 51, .ref 49, .int a2, .int a3, .int a4], [], (jP M 52 ((M 12 8).toNatClampNeg) a3))) (ob := True ∧ jKd T0 51 = 1 ∧ True ∧ jKd T0 51 = 1 ∧ jKd T0 12 = 3 ∧ True ∧ (jKd T0 52 = 9 ∧ vp_in (M 12 8) 33) ∧ True) rfl ⟨trivial, rfl, trivial, rfl, rfl, trivial, ⟨rfl, o1⟩, trivial⟩ ?_
      refine jRun.nm (fun M1 eM1 => ?_)
      have h := h M1 eM1
      exact jRun.ret (k := jk_X1_lay) rfl 1 (v := none) (M1 := M1) (ob := True) rfl trivial h
    · have h := h.2 g
      obtain ⟨o2, h⟩ := h
      refine jRun.cut (k := jk_X1_lay) rfl 5 (c' := (30, [.ref 51, .ref 49, .int a2, .int a3, .int a4], [], (jP M 52 a4.toNatClampNeg a3))) (ob := True ∧ jKd T0 51 = 1 ∧ True ∧ True ∧ (jKd T0 52 = 9 ∧ vp_in a4 33) ∧ True) rfl ⟨trivial, rfl, trivial, trivial, ⟨rfl, o2⟩, trivial⟩ ?_
      refine jRun.nm (fun M2 eM2 => ?_)
      have h := h M2 eM2
      refine jRun.call (k := jk_X1_lay) rfl 6 (f := q_X1_bytesOf) (As := [.ref 51, .ref 49, .int a4, .int a3]) (c1 := (39, [.ref 51, .ref 49, .int a2, .int a3, .int a4], [.int a3], M2)) (ob := True ∧ True ∧ True ∧ True ∧ True ∧ jKd T0 51 = 1) rfl ⟨trivial, trivial, trivial, trivial, trivial, rfl⟩ h (fun v M3 h => ?_)
      obtain ⟨r1, rfl, h⟩ := h
      show jRun X T0 (d + 1) q_X1_lay (39, [.ref 51, .ref 49, .int a2, .int a3, .int a4], [.int r1, .int a3], M3) Q
      refine jRun.cut (k := jk_X1_lay) rfl 4 (c' := (10, [.ref 51, .ref 49, .int a2, .int (a3 + r1), .int (a4 + 1)], [], M3)) (ob := True ∧ True ∧ True ∧ True ∧ True) rfl ⟨trivial, trivial, trivial, trivial, trivial⟩ ?_
      exact h
theorem v_X1_bytesOf {X : jX} {d : Nat} (hI : jInj X T0) {L A S Z : Nat} (hv : jLS L A S Z) (a2 : Int32) (a3 : Int32) (M : jMem) (Q : Option Value → jMem → Prop) (h : vp_in a2 32 ∧ (((M 13 a2.toNatClampNeg) = 0 → Q (some (.int (M Z a2.toNatClampNeg))) M) ∧ (¬ (M 13 a2.toNatClampNeg) = 0 → (((M 13 a2.toNatClampNeg) = 1 → Q (some (.int 0)) M) ∧ (¬ (M 13 a2.toNatClampNeg) = 1 → (((M 13 a2.toNatClampNeg) = 2 → jOk X T0 d q_X1_isLong [.ref L, .int (M 15 a2.toNatClampNeg)] M (fun v M1 => ∃ r1, v = some (.int r1) ∧ ((r1 = 0 → Q (some (.int 2)) M1) ∧ (¬ r1 = 0 → Q (some (.int 5)) M1)))) ∧ (¬ (M 13 a2.toNatClampNeg) = 2 → (((M 13 a2.toNatClampNeg) = 3 → Q (some (.int ((-a3) &&& ((M 14 a2.toNatClampNeg) - 1)))) M) ∧ (¬ (M 13 a2.toNatClampNeg) = 3 → (((M 13 a2.toNatClampNeg) = 4 → Q (some (.int 2)) M) ∧ (¬ (M 13 a2.toNatClampNeg) = 4 → (((M 13 a2.toNatClampNeg) = 5 → jOk X T0 d q_X5_labelsIn [.ref S, .int (M 15 a2.toNatClampNeg)] M (fun v M2 => ∃ r2, v = some (.int r2) ∧ jOk X T0 d q_J6_bitCount_0f7a4 [.int r2] M2 (fun v M3 => ∃ r3, v = some (.int r3) ∧ Q (some (.int (5 * r3))) M3))) ∧ (¬ (M 13 a2.toNatClampNeg) = 5 → Q (some (.int 0)) M))))))))))))) : jOk X T0 (d + 1) q_X1_bytesOf [.ref L, .ref S, .int a2, .int a3] M Q := by
  rcases hv with ⟨rfl, rfl, rfl, rfl⟩ | ⟨rfl, rfl, rfl, rfl⟩ | ⟨rfl, rfl, rfl, rfl⟩ | ⟨rfl, rfl, rfl, rfl⟩
  · refine jOk.intro (ml := 4) (ls := [.ref 42, .ref 22, .int a2, .int a3]) (jTl (by decide)) rfl (Nat.le_of_ble_eq_true rfl) rfl hI ?_
    obtain ⟨o1, h⟩ := h
    refine jRun.cut (k := jk_X1_bytesOf) rfl 6 (c' := (if (M 13 a2.toNatClampNeg) = 0 then 48 else if (M 13 a2.toNatClampNeg) = 1 then 113 else if (M 13 a2.toNatClampNeg) = 2 then 55 else if (M 13 a2.toNatClampNeg) = 3 then 77 else if (M 13 a2.toNatClampNeg) = 4 then 92 else if (M 13 a2.toNatClampNeg) = 5 then 94 else 113, [.ref 42, .ref 22, .int a2, .int a3], [], M)) (ob := True ∧ jKd T0 42 = 1 ∧ jKd T0 12 = 3 ∧ True ∧ (jKd T0 13 = 9 ∧ vp_in a2 32) ∧ True ∧ True) rfl ⟨trivial, rfl, rfl, trivial, ⟨rfl, o1⟩, trivial, trivial⟩ ?_
    refine jRun.br (fun g => ?_) (fun g => ?_)
    · have h := h.1 g
      exact jRun.ret (k := jk_X1_bytesOf) rfl 5 (v := some (.int (M 23 a2.toNatClampNeg))) (M1 := M) (ob := True ∧ jKd T0 22 = 5 ∧ True ∧ (jKd T0 23 = 9 ∧ vp_in a2 32) ∧ True) rfl ⟨trivial, rfl, trivial, ⟨rfl, o1⟩, trivial⟩ h
    · have h := h.2 g
      refine jRun.br (fun g => ?_) (fun g => ?_)
      · have h := h.1 g
        exact jRun.ret (k := jk_X1_bytesOf) rfl 2 (v := some (.int 0)) (M1 := M) (ob := True ∧ True) rfl ⟨trivial, trivial⟩ h
      · have h := h.2 g
        refine jRun.br (fun g => ?_) (fun g => ?_)
        · have h := h.1 g
          refine jRun.call (k := jk_X1_bytesOf) rfl 7 (f := q_X1_isLong) (As := [.ref 42, .int (M 15 a2.toNatClampNeg)]) (c1 := (68, [.ref 42, .ref 22, .int a2, .int a3], [], M)) (ob := True ∧ True ∧ jKd T0 42 = 1 ∧ jKd T0 12 = 3 ∧ True ∧ (jKd T0 15 = 9 ∧ vp_in a2 32) ∧ jKd T0 42 = 1) rfl ⟨trivial, trivial, rfl, rfl, trivial, ⟨rfl, o1⟩, rfl⟩ h (fun v M1 h => ?_)
          obtain ⟨r1, rfl, h⟩ := h
          show jRun X T0 (d + 1) q_X1_bytesOf (68, [.ref 42, .ref 22, .int a2, .int a3], [.int r1], M1) Q
          refine jRun.cut (k := jk_X1_bytesOf) rfl 1 (c' := (if r1 = 0 then 75 else 71, [.ref 42, .ref 22, .int a2, .int a3], [], M1)) (ob := True ∧ True) rfl ⟨trivial, trivial⟩ ?_
          refine jRun.br (fun g => ?_) (fun g => ?_)
          · have h := h.1 g
            exact jRun.ret (k := jk_X1_bytesOf) rfl 2 (v := some (.int 2)) (M1 := M1) (ob := True ∧ True) rfl ⟨trivial, trivial⟩ h
          · have h := h.2 g
            exact jRun.ret (k := jk_X1_bytesOf) rfl 3 (v := some (.int 5)) (M1 := M1) (ob := True ∧ True ∧ True) rfl ⟨trivial, trivial, trivial⟩ h
        · have h := h.2 g
          refine jRun.br (fun g => ?_) (fun g => ?_)
          · have h := h.1 g
            exact jRun.ret (k := jk_X1_bytesOf) rfl 11 (v := some (.int ((-a3) &&& ((M 14 a2.toNatClampNeg) - 1)))) (M1 := M) (ob := True ∧ True ∧ True ∧ jKd T0 42 = 1 ∧ jKd T0 12 = 3 ∧ True ∧ (jKd T0 14 = 9 ∧ vp_in a2 32) ∧ True ∧ True ∧ True ∧ True) rfl ⟨trivial, trivial, trivial, rfl, rfl, trivial, ⟨rfl, o1⟩, trivial, trivial, trivial, trivial⟩ h
          · have h := h.2 g
            refine jRun.br (fun g => ?_) (fun g => ?_)
            · have h := h.1 g
              exact jRun.ret (k := jk_X1_bytesOf) rfl 2 (v := some (.int 2)) (M1 := M) (ob := True ∧ True) rfl ⟨trivial, trivial⟩ h
            · have h := h.2 g
              refine jRun.br (fun g => ?_) (fun g => ?_)
              · have h := h.1 g
                refine jRun.call (k := jk_X1_bytesOf) rfl 8 (f := q_X5_labelsIn) (As := [.ref 22, .int (M 15 a2.toNatClampNeg)]) (c1 := (108, [.ref 42, .ref 22, .int a2, .int a3], [.int 5], M)) (ob := True ∧ True ∧ True ∧ jKd T0 42 = 1 ∧ jKd T0 12 = 3 ∧ True ∧ (jKd T0 15 = 9 ∧ vp_in a2 32) ∧ jKd T0 22 = 5) rfl ⟨trivial, trivial, trivial, rfl, rfl, trivial, ⟨rfl, o1⟩, rfl⟩ h (fun v M2 h => ?_)
                obtain ⟨r2, rfl, h⟩ := h
                show jRun X T0 (d + 1) q_X1_bytesOf (108, [.ref 42, .ref 22, .int a2, .int a3], [.int r2, .int 5], M2) Q
                refine jRun.call (k := jk_X1_bytesOf) rfl 1 (f := q_J6_bitCount_0f7a4) (As := [.int r2]) (c1 := (111, [.ref 42, .ref 22, .int a2, .int a3], [.int 5], M2)) (ob := True) rfl trivial h (fun v M3 h => ?_)
                obtain ⟨r3, rfl, h⟩ := h
                show jRun X T0 (d + 1) q_X1_bytesOf (111, [.ref 42, .ref 22, .int a2, .int a3], [.int r3, .int 5], M3) Q
                exact jRun.ret (k := jk_X1_bytesOf) rfl 2 (v := some (.int (5 * r3))) (M1 := M3) (ob := True ∧ True) rfl ⟨trivial, trivial⟩ h
              · have h := h.2 g
                exact jRun.ret (k := jk_X1_bytesOf) rfl 2 (v := some (.int 0)) (M1 := M) (ob := True ∧ True) rfl ⟨trivial, trivial⟩ h
  · refine jOk.intro (ml := 4) (ls := [.ref 44, .ref 22, .int a2, .int a3]) (jTl (by decide)) rfl (Nat.le_of_ble_eq_true rfl) rfl hI ?_
    obtain ⟨o1, h⟩ := h
    refine jRun.cut (k := jk_X1_bytesOf) rfl 6 (c' := (if (M 13 a2.toNatClampNeg) = 0 then 48 else if (M 13 a2.toNatClampNeg) = 1 then 113 else if (M 13 a2.toNatClampNeg) = 2 then 55 else if (M 13 a2.toNatClampNeg) = 3 then 77 else if (M 13 a2.toNatClampNeg) = 4 then 92 else if (M 13 a2.toNatClampNeg) = 5 then 94 else 113, [.ref 44, .ref 22, .int a2, .int a3], [], M)) (ob := True ∧ jKd T0 44 = 1 ∧ jKd T0 12 = 3 ∧ True ∧ (jKd T0 13 = 9 ∧ vp_in a2 32) ∧ True ∧ True) rfl ⟨trivial, rfl, rfl, trivial, ⟨rfl, o1⟩, trivial, trivial⟩ ?_
    refine jRun.br (fun g => ?_) (fun g => ?_)
    · have h := h.1 g
      exact jRun.ret (k := jk_X1_bytesOf) rfl 5 (v := some (.int (M 23 a2.toNatClampNeg))) (M1 := M) (ob := True ∧ jKd T0 22 = 5 ∧ True ∧ (jKd T0 23 = 9 ∧ vp_in a2 32) ∧ True) rfl ⟨trivial, rfl, trivial, ⟨rfl, o1⟩, trivial⟩ h
    · have h := h.2 g
      refine jRun.br (fun g => ?_) (fun g => ?_)
      · have h := h.1 g
        exact jRun.ret (k := jk_X1_bytesOf) rfl 2 (v := some (.int 0)) (M1 := M) (ob := True ∧ True) rfl ⟨trivial, trivial⟩ h
      · have h := h.2 g
        refine jRun.br (fun g => ?_) (fun g => ?_)
        · have h := h.1 g
          refine jRun.call (k := jk_X1_bytesOf) rfl 7 (f := q_X1_isLong) (As := [.ref 44, .int (M 15 a2.toNatClampNeg)]) (c1 := (68, [.ref 44, .ref 22, .int a2, .int a3], [], M)) (ob := True ∧ True ∧ jKd T0 44 = 1 ∧ jKd T0 12 = 3 ∧ True ∧ (jKd T0 15 = 9 ∧ vp_in a2 32) ∧ jKd T0 44 = 1) rfl ⟨trivial, trivial, rfl, rfl, trivial, ⟨rfl, o1⟩, rfl⟩ h (fun v M1 h => ?_)
          obtain ⟨r1, rfl, h⟩ := h
          show jRun X T0 (d + 1) q_X1_bytesOf (68, [.ref 44, .ref 22, .int a2, .int a3], [.int r1], M1) Q
          refine jRun.cut (k := jk_X1_bytesOf) rfl 1 (c' := (if r1 = 0 then 75 else 71, [.ref 44, .ref 22, .int a2, .int a3], [], M1)) (ob := True ∧ True) rfl ⟨trivial, trivial⟩ ?_
          refine jRun.br (fun g => ?_) (fun g => ?_)
          · have h := h.1 g
            exact jRun.ret (k := jk_X1_bytesOf) rfl 2 (v := some (.int 2)) (M1 := M1) (ob := True ∧ True) rfl ⟨trivial, trivial⟩ h
          · have h := h.2 g
            exact jRun.ret (k := jk_X1_bytesOf) rfl 3 (v := some (.int 5)) (M1 := M1) (ob := True ∧ True ∧ True) rfl ⟨trivial, trivial, trivial⟩ h
        · have h := h.2 g
          refine jRun.br (fun g => ?_) (fun g => ?_)
          · have h := h.1 g
            exact jRun.ret (k := jk_X1_bytesOf) rfl 11 (v := some (.int ((-a3) &&& ((M 14 a2.toNatClampNeg) - 1)))) (M1 := M) (ob := True ∧ True ∧ True ∧ jKd T0 44 = 1 ∧ jKd T0 12 = 3 ∧ True ∧ (jKd T0 14 = 9 ∧ vp_in a2 32) ∧ True ∧ True ∧ True ∧ True) rfl ⟨trivial, trivial, trivial, rfl, rfl, trivial, ⟨rfl, o1⟩, trivial, trivial, trivial, trivial⟩ h
          · have h := h.2 g
            refine jRun.br (fun g => ?_) (fun g => ?_)
            · have h := h.1 g
              exact jRun.ret (k := jk_X1_bytesOf) rfl 2 (v := some (.int 2)) (M1 := M) (ob := True ∧ True) rfl ⟨trivial, trivial⟩ h
            · have h := h.2 g
              refine jRun.br (fun g => ?_) (fun g => ?_)
              · have h := h.1 g
                refine jRun.call (k := jk_X1_bytesOf) rfl 8 (f := q_X5_labelsIn) (As := [.ref 22, .int (M 15 a2.toNatClampNeg)]) (c1 := (108, [.ref 44, .ref 22, .int a2, .int a3], [.int 5], M)) (ob := True ∧ True ∧ True ∧ jKd T0 44 = 1 ∧ jKd T0 12 = 3 ∧ True ∧ (jKd T0 15 = 9 ∧ vp_in a2 32) ∧ jKd T0 22 = 5) rfl ⟨trivial, trivial, trivial, rfl, rfl, trivial, ⟨rfl, o1⟩, rfl⟩ h (fun v M2 h => ?_)
                obtain ⟨r2, rfl, h⟩ := h
                show jRun X T0 (d + 1) q_X1_bytesOf (108, [.ref 44, .ref 22, .int a2, .int a3], [.int r2, .int 5], M2) Q
                refine jRun.call (k := jk_X1_bytesOf) rfl 1 (f := q_J6_bitCount_0f7a4) (As := [.int r2]) (c1 := (111, [.ref 44, .ref 22, .int a2, .int a3], [.int 5], M2)) (ob := True) rfl trivial h (fun v M3 h => ?_)
                obtain ⟨r3, rfl, h⟩ := h
                show jRun X T0 (d + 1) q_X1_bytesOf (111, [.ref 44, .ref 22, .int a2, .int a3], [.int r3, .int 5], M3) Q
                exact jRun.ret (k := jk_X1_bytesOf) rfl 2 (v := some (.int (5 * r3))) (M1 := M3) (ob := True ∧ True) rfl ⟨trivial, trivial⟩ h
              · have h := h.2 g
                exact jRun.ret (k := jk_X1_bytesOf) rfl 2 (v := some (.int 0)) (M1 := M) (ob := True ∧ True) rfl ⟨trivial, trivial⟩ h
  · refine jOk.intro (ml := 4) (ls := [.ref 46, .ref 22, .int a2, .int a3]) (jTl (by decide)) rfl (Nat.le_of_ble_eq_true rfl) rfl hI ?_
    obtain ⟨o1, h⟩ := h
    refine jRun.cut (k := jk_X1_bytesOf) rfl 6 (c' := (if (M 13 a2.toNatClampNeg) = 0 then 48 else if (M 13 a2.toNatClampNeg) = 1 then 113 else if (M 13 a2.toNatClampNeg) = 2 then 55 else if (M 13 a2.toNatClampNeg) = 3 then 77 else if (M 13 a2.toNatClampNeg) = 4 then 92 else if (M 13 a2.toNatClampNeg) = 5 then 94 else 113, [.ref 46, .ref 22, .int a2, .int a3], [], M)) (ob := True ∧ jKd T0 46 = 1 ∧ jKd T0 12 = 3 ∧ True ∧ (jKd T0 13 = 9 ∧ vp_in a2 32) ∧ True ∧ True) rfl ⟨trivial, rfl, rfl, trivial, ⟨rfl, o1⟩, trivial, trivial⟩ ?_
    refine jRun.br (fun g => ?_) (fun g => ?_)
    · have h := h.1 g
      exact jRun.ret (k := jk_X1_bytesOf) rfl 5 (v := some (.int (M 23 a2.toNatClampNeg))) (M1 := M) (ob := True ∧ jKd T0 22 = 5 ∧ True ∧ (jKd T0 23 = 9 ∧ vp_in a2 32) ∧ True) rfl ⟨trivial, rfl, trivial, ⟨rfl, o1⟩, trivial⟩ h
    · have h := h.2 g
      refine jRun.br (fun g => ?_) (fun g => ?_)
      · have h := h.1 g
        exact jRun.ret (k := jk_X1_bytesOf) rfl 2 (v := some (.int 0)) (M1 := M) (ob := True ∧ True) rfl ⟨trivial, trivial⟩ h
      · have h := h.2 g
        refine jRun.br (fun g => ?_) (fun g => ?_)
        · have h := h.1 g
          refine jRun.call (k := jk_X1_bytesOf) rfl 7 (f := q_X1_isLong) (As := [.ref 46, .int (M 15 a2.toNatClampNeg)]) (c1 := (68, [.ref 46, .ref 22, .int a2, .int a3], [], M)) (ob := True ∧ True ∧ jKd T0 46 = 1 ∧ jKd T0 12 = 3 ∧ True ∧ (jKd T0 15 = 9 ∧ vp_in a2 32) ∧ jKd T0 46 = 1) rfl ⟨trivial, trivial, rfl, rfl, trivial, ⟨rfl, o1⟩, rfl⟩ h (fun v M1 h => ?_)
          obtain ⟨r1, rfl, h⟩ := h
          show jRun X T0 (d + 1) q_X1_bytesOf (68, [.ref 46, .ref 22, .int a2, .int a3], [.int r1], M1) Q
          refine jRun.cut (k := jk_X1_bytesOf) rfl 1 (c' := (if r1 = 0 then 75 else 71, [.ref 46, .ref 22, .int a2, .int a3], [], M1)) (ob := True ∧ True) rfl ⟨trivial, trivial⟩ ?_
          refine jRun.br (fun g => ?_) (fun g => ?_)
          · have h := h.1 g
            exact jRun.ret (k := jk_X1_bytesOf) rfl 2 (v := some (.int 2)) (M1 := M1) (ob := True ∧ True) rfl ⟨trivial, trivial⟩ h
          · have h := h.2 g
            exact jRun.ret (k := jk_X1_bytesOf) rfl 3 (v := some (.int 5)) (M1 := M1) (ob := True ∧ True ∧ True) rfl ⟨trivial, trivial, trivial⟩ h
        · have h := h.2 g
          refine jRun.br (fun g => ?_) (fun g => ?_)
          · have h := h.1 g
            exact jRun.ret (k := jk_X1_bytesOf) rfl 11 (v := some (.int ((-a3) &&& ((M 14 a2.toNatClampNeg) - 1)))) (M1 := M) (ob := True ∧ True ∧ True ∧ jKd T0 46 = 1 ∧ jKd T0 12 = 3 ∧ True ∧ (jKd T0 14 = 9 ∧ vp_in a2 32) ∧ True ∧ True ∧ True ∧ True) rfl ⟨trivial, trivial, trivial, rfl, rfl, trivial, ⟨rfl, o1⟩, trivial, trivial, trivial, trivial⟩ h
          · have h := h.2 g
            refine jRun.br (fun g => ?_) (fun g => ?_)
            · have h := h.1 g
              exact jRun.ret (k := jk_X1_bytesOf) rfl 2 (v := some (.int 2)) (M1 := M) (ob := True ∧ True) rfl ⟨trivial, trivial⟩ h
            · have h := h.2 g
              refine jRun.br (fun g => ?_) (fun g => ?_)
              · have h := h.1 g
                refine jRun.call (k := jk_X1_bytesOf) rfl 8 (f := q_X5_labelsIn) (As := [.ref 22, .int (M 15 a2.toNatClampNeg)]) (c1 := (108, [.ref 46, .ref 22, .int a2, .int a3], [.int 5], M)) (ob := True ∧ True ∧ True ∧ jKd T0 46 = 1 ∧ jKd T0 12 = 3 ∧ True ∧ (jKd T0 15 = 9 ∧ vp_in a2 32) ∧ jKd T0 22 = 5) rfl ⟨trivial, trivial, trivial, rfl, rfl, trivial, ⟨rfl, o1⟩, rfl⟩ h (fun v M2 h => ?_)
                obtain ⟨r2, rfl, h⟩ := h
                show jRun X T0 (d + 1) q_X1_bytesOf (108, [.ref 46, .ref 22, .int a2, .int a3], [.int r2, .int 5], M2) Q
                refine jRun.call (k := jk_X1_bytesOf) rfl 1 (f := q_J6_bitCount_0f7a4) (As := [.int r2]) (c1 := (111, [.ref 46, .ref 22, .int a2, .int a3], [.int 5], M2)) (ob := True) rfl trivial h (fun v M3 h => ?_)
                obtain ⟨r3, rfl, h⟩ := h
                show jRun X T0 (d + 1) q_X1_bytesOf (111, [.ref 46, .ref 22, .int a2, .int a3], [.int r3, .int 5], M3) Q
                exact jRun.ret (k := jk_X1_bytesOf) rfl 2 (v := some (.int (5 * r3))) (M1 := M3) (ob := True ∧ True) rfl ⟨trivial, trivial⟩ h
              · have h := h.2 g
                exact jRun.ret (k := jk_X1_bytesOf) rfl 2 (v := some (.int 0)) (M1 := M) (ob := True ∧ True) rfl ⟨trivial, trivial⟩ h
  · refine jOk.intro (ml := 4) (ls := [.ref 51, .ref 49, .int a2, .int a3]) (jTl (by decide)) rfl (Nat.le_of_ble_eq_true rfl) rfl hI ?_
    obtain ⟨o1, h⟩ := h
    refine jRun.cut (k := jk_X1_bytesOf) rfl 6 (c' := (if (M 13 a2.toNatClampNeg) = 0 then 48 else if (M 13 a2.toNatClampNeg) = 1 then 113 else if (M 13 a2.toNatClampNeg) = 2 then 55 else if (M 13 a2.toNatClampNeg) = 3 then 77 else if (M 13 a2.toNatClampNeg) = 4 then 92 else if (M 13 a2.toNatClampNeg) = 5 then 94 else 113, [.ref 51, .ref 49, .int a2, .int a3], [], M)) (ob := True ∧ jKd T0 51 = 1 ∧ jKd T0 12 = 3 ∧ True ∧ (jKd T0 13 = 9 ∧ vp_in a2 32) ∧ True ∧ True) rfl ⟨trivial, rfl, rfl, trivial, ⟨rfl, o1⟩, trivial, trivial⟩ ?_
    refine jRun.br (fun g => ?_) (fun g => ?_)
    · have h := h.1 g
      exact jRun.ret (k := jk_X1_bytesOf) rfl 5 (v := some (.int (M 50 a2.toNatClampNeg))) (M1 := M) (ob := True ∧ jKd T0 49 = 5 ∧ True ∧ (jKd T0 50 = 9 ∧ vp_in a2 32) ∧ True) rfl ⟨trivial, rfl, trivial, ⟨rfl, o1⟩, trivial⟩ h
    · have h := h.2 g
      refine jRun.br (fun g => ?_) (fun g => ?_)
      · have h := h.1 g
        exact jRun.ret (k := jk_X1_bytesOf) rfl 2 (v := some (.int 0)) (M1 := M) (ob := True ∧ True) rfl ⟨trivial, trivial⟩ h
      · have h := h.2 g
        refine jRun.br (fun g => ?_) (fun g => ?_)
        · have h := h.1 g
          refine jRun.call (k := jk_X1_bytesOf) rfl 7 (f := q_X1_isLong) (As := [.ref 51, .int (M 15 a2.toNatClampNeg)]) (c1 := (68, [.ref 51, .ref 49, .int a2, .int a3], [], M)) (ob := True ∧ True ∧ jKd T0 51 = 1 ∧ jKd T0 12 = 3 ∧ True ∧ (jKd T0 15 = 9 ∧ vp_in a2 32) ∧ jKd T0 51 = 1) rfl ⟨trivial, trivial, rfl, rfl, trivial, ⟨rfl, o1⟩, rfl⟩ h (fun v M1 h => ?_)
          obtain ⟨r1, rfl, h⟩ := h
          show jRun X T0 (d + 1) q_X1_bytesOf (68, [.ref 51, .ref 49, .int a2, .int a3], [.int r1], M1) Q
          refine jRun.cut (k := jk_X1_bytesOf) rfl 1 (c' := (if r1 = 0 then 75 else 71, [.ref 51, .ref 49, .int a2, .int a3], [], M1)) (ob := True ∧ True) rfl ⟨trivial, trivial⟩ ?_
          refine jRun.br (fun g => ?_) (fun g => ?_)
          · have h := h.1 g
            exact jRun.ret (k := jk_X1_bytesOf) rfl 2 (v := some (.int 2)) (M1 := M1) (ob := True ∧ True) rfl ⟨trivial, trivial⟩ h
          · have h := h.2 g
            exact jRun.ret (k := jk_X1_bytesOf) rfl 3 (v := some (.int 5)) (M1 := M1) (ob := True ∧ True ∧ True) rfl ⟨trivial, trivial, trivial⟩ h
        · have h := h.2 g
          refine jRun.br (fun g => ?_) (fun g => ?_)
          · have h := h.1 g
            exact jRun.ret (k := jk_X1_bytesOf) rfl 11 (v := some (.int ((-a3) &&& ((M 14 a2.toNatClampNeg) - 1)))) (M1 := M) (ob := True ∧ True ∧ True ∧ jKd T0 51 = 1 ∧ jKd T0 12 = 3 ∧ True ∧ (jKd T0 14 = 9 ∧ vp_in a2 32) ∧ True ∧ True ∧ True ∧ True) rfl ⟨trivial, trivial, trivial, rfl, rfl, trivial, ⟨rfl, o1⟩, trivial, trivial, trivial, trivial⟩ h
          · have h := h.2 g
            refine jRun.br (fun g => ?_) (fun g => ?_)
            · have h := h.1 g
              exact jRun.ret (k := jk_X1_bytesOf) rfl 2 (v := some (.int 2)) (M1 := M) (ob := True ∧ True) rfl ⟨trivial, trivial⟩ h
            · have h := h.2 g
              refine jRun.br (fun g => ?_) (fun g => ?_)
              · have h := h.1 g
                refine jRun.call (k := jk_X1_bytesOf) rfl 8 (f := q_X5_labelsIn) (As := [.ref 49, .int (M 15 a2.toNatClampNeg)]) (c1 := (108, [.ref 51, .ref 49, .int a2, .int a3], [.int 5], M)) (ob := True ∧ True ∧ True ∧ jKd T0 51 = 1 ∧ jKd T0 12 = 3 ∧ True ∧ (jKd T0 15 = 9 ∧ vp_in a2 32) ∧ jKd T0 49 = 5) rfl ⟨trivial, trivial, trivial, rfl, rfl, trivial, ⟨rfl, o1⟩, rfl⟩ h (fun v M2 h => ?_)
                obtain ⟨r2, rfl, h⟩ := h
                show jRun X T0 (d + 1) q_X1_bytesOf (108, [.ref 51, .ref 49, .int a2, .int a3], [.int r2, .int 5], M2) Q
                refine jRun.call (k := jk_X1_bytesOf) rfl 1 (f := q_J6_bitCount_0f7a4) (As := [.int r2]) (c1 := (111, [.ref 51, .ref 49, .int a2, .int a3], [.int 5], M2)) (ob := True) rfl trivial h (fun v M3 h => ?_)
                obtain ⟨r3, rfl, h⟩ := h
                show jRun X T0 (d + 1) q_X1_bytesOf (111, [.ref 51, .ref 49, .int a2, .int a3], [.int r3, .int 5], M3) Q
                exact jRun.ret (k := jk_X1_bytesOf) rfl 2 (v := some (.int (5 * r3))) (M1 := M3) (ob := True ∧ True) rfl ⟨trivial, trivial⟩ h
              · have h := h.2 g
                exact jRun.ret (k := jk_X1_bytesOf) rfl 2 (v := some (.int 0)) (M1 := M) (ob := True ∧ True) rfl ⟨trivial, trivial⟩ h
theorem v_X1_strandedJumps {X : jX} {d : Nat} (hI : jInj X T0) {L A S Z : Nat} (hv : jLS L A S Z)  (M : jMem) (Q : Option Value → jMem → Prop) (h : jRun X T0 (d + 1) q_X1_strandedJumps (4, [.ref L, .ref S, .int 0, .int 0], [], M) Q) : jOk X T0 (d + 1) q_X1_strandedJumps [.ref L, .ref S] M Q := by
  rcases hv with ⟨rfl, rfl, rfl, rfl⟩ | ⟨rfl, rfl, rfl, rfl⟩ | ⟨rfl, rfl, rfl, rfl⟩ | ⟨rfl, rfl, rfl, rfl⟩
  · refine jOk.intro (ml := 4) (ls := [.ref 42, .ref 22, .null, .null]) (jTl (by decide)) rfl (Nat.le_of_ble_eq_true rfl) rfl hI ?_
    refine jRun.cut (k := jk_X1_strandedJumps) rfl 4 (c' := (4, [.ref 42, .ref 22, .int 0, .int 0], [], M)) (ob := True ∧ True ∧ True ∧ True ∧ True) rfl ⟨trivial, trivial, trivial, trivial, trivial⟩ ?_
    exact h
  · refine jOk.intro (ml := 4) (ls := [.ref 44, .ref 22, .null, .null]) (jTl (by decide)) rfl (Nat.le_of_ble_eq_true rfl) rfl hI ?_
    refine jRun.cut (k := jk_X1_strandedJumps) rfl 4 (c' := (4, [.ref 44, .ref 22, .int 0, .int 0], [], M)) (ob := True ∧ True ∧ True ∧ True ∧ True) rfl ⟨trivial, trivial, trivial, trivial, trivial⟩ ?_
    exact h
  · refine jOk.intro (ml := 4) (ls := [.ref 46, .ref 22, .null, .null]) (jTl (by decide)) rfl (Nat.le_of_ble_eq_true rfl) rfl hI ?_
    refine jRun.cut (k := jk_X1_strandedJumps) rfl 4 (c' := (4, [.ref 46, .ref 22, .int 0, .int 0], [], M)) (ob := True ∧ True ∧ True ∧ True ∧ True) rfl ⟨trivial, trivial, trivial, trivial, trivial⟩ ?_
    exact h
  · refine jOk.intro (ml := 4) (ls := [.ref 51, .ref 49, .null, .null]) (jTl (by decide)) rfl (Nat.le_of_ble_eq_true rfl) rfl hI ?_
    refine jRun.cut (k := jk_X1_strandedJumps) rfl 4 (c' := (4, [.ref 51, .ref 49, .int 0, .int 0], [], M)) (ob := True ∧ True ∧ True ∧ True ∧ True) rfl ⟨trivial, trivial, trivial, trivial, trivial⟩ ?_
    exact h
theorem v_X1_strandedJumps_4 {X : jX} {d : Nat} {L A S Z : Nat} (hv : jLS L A S Z) (a2 : Int32) (a3 : Int32) (M : jMem) (Q : Option Value → jMem → Prop) (h : (((M 12 10) ≤ a3 → Q (some (.int a2)) M) ∧ (¬ (M 12 10) ≤ a3 → jOk X T0 d q_X1_isLong [.ref L, .int a3] M (fun v M1 => ∃ r1, v = some (.int r1) ∧ ((¬ r1 = 0 → jRun X T0 (d + 1) q_X1_strandedJumps (4, [.ref L, .ref S, .int a2, .int (a3 + 1)], [], M1) Q) ∧ (r1 = 0 → vp_in a3 10 ∧ jOk X T0 d q_X1_farOf [.ref L, .int (M1 18 a3.toNatClampNeg)] M1 (fun v M2 => ∃ r2, v = some (.int r2) ∧ jOk X T0 d q_X5_reaches [.ref S, .int r2] M2 (fun v M3 => ∃ r3, v = some (.int r3) ∧ ((¬ r3 = 0 → jRun X T0 (d + 1) q_X1_strandedJumps (4, [.ref L, .ref S, .int a2, .int (a3 + 1)], [], M3) Q) ∧ (r3 = 0 → jRun X T0 (d + 1) q_X1_strandedJumps (4, [.ref L, .ref S, .int (a2 ||| (1 <<< (a3 &&& 31))), .int (a3 + 1)], [], M3) Q)))))))))) : jRun X T0 (d + 1) q_X1_strandedJumps (4, [.ref L, .ref S, .int a2, .int a3], [], M) Q := by
  rcases hv with ⟨rfl, rfl, rfl, rfl⟩ | ⟨rfl, rfl, rfl, rfl⟩ | ⟨rfl, rfl, rfl, rfl⟩ | ⟨rfl, rfl, rfl, rfl⟩
  · refine jRun.cut (k := jk_X1_strandedJumps) rfl 5 (c' := (if (M 12 10) ≤ a3 then 55 else 15, [.ref 42, .ref 22, .int a2, .int a3], [], M)) (ob := True ∧ True ∧ jKd T0 42 = 1 ∧ jKd T0 12 = 3 ∧ True ∧ True) rfl ⟨trivial, trivial, rfl, rfl, trivial, trivial⟩ ?_
    refine jRun.br (fun g => ?_) (fun g => ?_)
    · have h := h.1 g
      exact jRun.ret (k := jk_X1_strandedJumps) rfl 2 (v := some (.int a2)) (M1 := M) (ob := True ∧ True) rfl ⟨trivial, trivial⟩ h
    · have h := h.2 g
      refine jRun.call (k := jk_X1_strandedJumps) rfl 3 (f := q_X1_isLong) (As := [.ref 42, .int a3]) (c1 := (20, [.ref 42, .ref 22, .int a2, .int a3], [], M)) (ob := True ∧ True ∧ jKd T0 42 = 1) rfl ⟨trivial, trivial, rfl⟩ h (fun v M1 h => ?_)
      obtain ⟨r1, rfl, h⟩ := h
      show jRun X T0 (d + 1) q_X1_strandedJumps (20, [.ref 42, .ref 22, .int a2, .int a3], [.int r1], M1) Q
      refine jRun.cut (k := jk_X1_strandedJumps) rfl 1 (c' := (if ¬ r1 = 0 then 49 else 23, [.ref 42, .ref 22, .int a2, .int a3], [], M1)) (ob := True ∧ True) rfl ⟨trivial, trivial⟩ ?_
      refine jRun.brn (fun g => ?_) (fun g => ?_)
      · have h := h.1 g
        refine jRun.cut (k := jk_X1_strandedJumps) rfl 2 (c' := (4, [.ref 42, .ref 22, .int a2, .int (a3 + 1)], [], M1)) (ob := True ∧ True ∧ True) rfl ⟨trivial, trivial, trivial⟩ ?_
        exact h
      · have h := h.2 g
        obtain ⟨o1, h⟩ := h
        refine jRun.call (k := jk_X1_strandedJumps) rfl 8 (f := q_X1_farOf) (As := [.ref 42, .int (M1 18 a3.toNatClampNeg)]) (c1 := (37, [.ref 42, .ref 22, .int a2, .int a3], [.ref 22], M1)) (ob := True ∧ True ∧ True ∧ jKd T0 42 = 1 ∧ jKd T0 12 = 3 ∧ True ∧ (jKd T0 18 = 9 ∧ vp_in a3 10) ∧ jKd T0 42 = 1) rfl ⟨trivial, trivial, trivial, rfl, rfl, trivial, ⟨rfl, o1⟩, rfl⟩ h (fun v M2 h => ?_)
        obtain ⟨r2, rfl, h⟩ := h
        show jRun X T0 (d + 1) q_X1_strandedJumps (37, [.ref 42, .ref 22, .int a2, .int a3], [.int r2, .ref 22], M2) Q
        refine jRun.call (k := jk_X1_strandedJumps) rfl 1 (f := q_X5_reaches) (As := [.ref 22, .int r2]) (c1 := (40, [.ref 42, .ref 22, .int a2, .int a3], [], M2)) (ob := jKd T0 22 = 5) rfl rfl h (fun v M3 h => ?_)
        obtain ⟨r3, rfl, h⟩ := h
        show jRun X T0 (d + 1) q_X1_strandedJumps (40, [.ref 42, .ref 22, .int a2, .int a3], [.int r3], M3) Q
        refine jRun.cut (k := jk_X1_strandedJumps) rfl 1 (c' := (if ¬ r3 = 0 then 49 else 43, [.ref 42, .ref 22, .int a2, .int a3], [], M3)) (ob := True ∧ True) rfl ⟨trivial, trivial⟩ ?_
        refine jRun.brn (fun g => ?_) (fun g => ?_)
        · have h := h.1 g
          refine jRun.cut (k := jk_X1_strandedJumps) rfl 2 (c' := (4, [.ref 42, .ref 22, .int a2, .int (a3 + 1)], [], M3)) (ob := True ∧ True ∧ True) rfl ⟨trivial, trivial, trivial⟩ ?_
          exact h
        · have h := h.2 g
          refine jRun.cut (k := jk_X1_strandedJumps) rfl 8 (c' := (4, [.ref 42, .ref 22, .int (a2 ||| (1 <<< (a3 &&& 31))), .int (a3 + 1)], [], M3)) (ob := True ∧ True ∧ True ∧ True ∧ True ∧ True ∧ True ∧ True ∧ True) rfl ⟨trivial, trivial, trivial, trivial, trivial, trivial, trivial, trivial, trivial⟩ ?_
          exact h
  · refine jRun.cut (k := jk_X1_strandedJumps) rfl 5 (c' := (if (M 12 10) ≤ a3 then 55 else 15, [.ref 44, .ref 22, .int a2, .int a3], [], M)) (ob := True ∧ True ∧ jKd T0 44 = 1 ∧ jKd T0 12 = 3 ∧ True ∧ True) rfl ⟨trivial, trivial, rfl, rfl, trivial, trivial⟩ ?_
    refine jRun.br (fun g => ?_) (fun g => ?_)
    · have h := h.1 g
      exact jRun.ret (k := jk_X1_strandedJumps) rfl 2 (v := some (.int a2)) (M1 := M) (ob := True ∧ True) rfl ⟨trivial, trivial⟩ h
    · have h := h.2 g
      refine jRun.call (k := jk_X1_strandedJumps) rfl 3 (f := q_X1_isLong) (As := [.ref 44, .int a3]) (c1 := (20, [.ref 44, .ref 22, .int a2, .int a3], [], M)) (ob := True ∧ True ∧ jKd T0 44 = 1) rfl ⟨trivial, trivial, rfl⟩ h (fun v M1 h => ?_)
      obtain ⟨r1, rfl, h⟩ := h
      show jRun X T0 (d + 1) q_X1_strandedJumps (20, [.ref 44, .ref 22, .int a2, .int a3], [.int r1], M1) Q
      refine jRun.cut (k := jk_X1_strandedJumps) rfl 1 (c' := (if ¬ r1 = 0 then 49 else 23, [.ref 44, .ref 22, .int a2, .int a3], [], M1)) (ob := True ∧ True) rfl ⟨trivial, trivial⟩ ?_
      refine jRun.brn (fun g => ?_) (fun g => ?_)
      · have h := h.1 g
        refine jRun.cut (k := jk_X1_strandedJumps) rfl 2 (c' := (4, [.ref 44, .ref 22, .int a2, .int (a3 + 1)], [], M1)) (ob := True ∧ True ∧ True) rfl ⟨trivial, trivial, trivial⟩ ?_
        exact h
      · have h := h.2 g
        obtain ⟨o1, h⟩ := h
        refine jRun.call (k := jk_X1_strandedJumps) rfl 8 (f := q_X1_farOf) (As := [.ref 44, .int (M1 18 a3.toNatClampNeg)]) (c1 := (37, [.ref 44, .ref 22, .int a2, .int a3], [.ref 22], M1)) (ob := True ∧ True ∧ True ∧ jKd T0 44 = 1 ∧ jKd T0 12 = 3 ∧ True ∧ (jKd T0 18 = 9 ∧ vp_in a3 10) ∧ jKd T0 44 = 1) rfl ⟨trivial, trivial, trivial, rfl, rfl, trivial, ⟨rfl, o1⟩, rfl⟩ h (fun v M2 h => ?_)
        obtain ⟨r2, rfl, h⟩ := h
        show jRun X T0 (d + 1) q_X1_strandedJumps (37, [.ref 44, .ref 22, .int a2, .int a3], [.int r2, .ref 22], M2) Q
        refine jRun.call (k := jk_X1_strandedJumps) rfl 1 (f := q_X5_reaches) (As := [.ref 22, .int r2]) (c1 := (40, [.ref 44, .ref 22, .int a2, .int a3], [], M2)) (ob := jKd T0 22 = 5) rfl rfl h (fun v M3 h => ?_)
        obtain ⟨r3, rfl, h⟩ := h
        show jRun X T0 (d + 1) q_X1_strandedJumps (40, [.ref 44, .ref 22, .int a2, .int a3], [.int r3], M3) Q
        refine jRun.cut (k := jk_X1_strandedJumps) rfl 1 (c' := (if ¬ r3 = 0 then 49 else 43, [.ref 44, .ref 22, .int a2, .int a3], [], M3)) (ob := True ∧ True) rfl ⟨trivial, trivial⟩ ?_
        refine jRun.brn (fun g => ?_) (fun g => ?_)
        · have h := h.1 g
          refine jRun.cut (k := jk_X1_strandedJumps) rfl 2 (c' := (4, [.ref 44, .ref 22, .int a2, .int (a3 + 1)], [], M3)) (ob := True ∧ True ∧ True) rfl ⟨trivial, trivial, trivial⟩ ?_
          exact h
        · have h := h.2 g
          refine jRun.cut (k := jk_X1_strandedJumps) rfl 8 (c' := (4, [.ref 44, .ref 22, .int (a2 ||| (1 <<< (a3 &&& 31))), .int (a3 + 1)], [], M3)) (ob := True ∧ True ∧ True ∧ True ∧ True ∧ True ∧ True ∧ True ∧ True) rfl ⟨trivial, trivial, trivial, trivial, trivial, trivial, trivial, trivial, trivial⟩ ?_
          exact h
  · refine jRun.cut (k := jk_X1_strandedJumps) rfl 5 (c' := (if (M 12 10) ≤ a3 then 55 else 15, [.ref 46, .ref 22, .int a2, .int a3], [], M)) (ob := True ∧ True ∧ jKd T0 46 = 1 ∧ jKd T0 12 = 3 ∧ True ∧ True) rfl ⟨trivial, trivial, rfl, rfl, trivial, trivial⟩ ?_
    refine jRun.br (fun g => ?_) (fun g => ?_)
    · have h := h.1 g
      exact jRun.ret (k := jk_X1_strandedJumps) rfl 2 (v := some (.int a2)) (M1 := M) (ob := True ∧ True) rfl ⟨trivial, trivial⟩ h
    · have h := h.2 g
      refine jRun.call (k := jk_X1_strandedJumps) rfl 3 (f := q_X1_isLong) (As := [.ref 46, .int a3]) (c1 := (20, [.ref 46, .ref 22, .int a2, .int a3], [], M)) (ob := True ∧ True ∧ jKd T0 46 = 1) rfl ⟨trivial, trivial, rfl⟩ h (fun v M1 h => ?_)
      obtain ⟨r1, rfl, h⟩ := h
      show jRun X T0 (d + 1) q_X1_strandedJumps (20, [.ref 46, .ref 22, .int a2, .int a3], [.int r1], M1) Q
      refine jRun.cut (k := jk_X1_strandedJumps) rfl 1 (c' := (if ¬ r1 = 0 then 49 else 23, [.ref 46, .ref 22, .int a2, .int a3], [], M1)) (ob := True ∧ True) rfl ⟨trivial, trivial⟩ ?_
      refine jRun.brn (fun g => ?_) (fun g => ?_)
      · have h := h.1 g
        refine jRun.cut (k := jk_X1_strandedJumps) rfl 2 (c' := (4, [.ref 46, .ref 22, .int a2, .int (a3 + 1)], [], M1)) (ob := True ∧ True ∧ True) rfl ⟨trivial, trivial, trivial⟩ ?_
        exact h
      · have h := h.2 g
        obtain ⟨o1, h⟩ := h
        refine jRun.call (k := jk_X1_strandedJumps) rfl 8 (f := q_X1_farOf) (As := [.ref 46, .int (M1 18 a3.toNatClampNeg)]) (c1 := (37, [.ref 46, .ref 22, .int a2, .int a3], [.ref 22], M1)) (ob := True ∧ True ∧ True ∧ jKd T0 46 = 1 ∧ jKd T0 12 = 3 ∧ True ∧ (jKd T0 18 = 9 ∧ vp_in a3 10) ∧ jKd T0 46 = 1) rfl ⟨trivial, trivial, trivial, rfl, rfl, trivial, ⟨rfl, o1⟩, rfl⟩ h (fun v M2 h => ?_)
        obtain ⟨r2, rfl, h⟩ := h
        show jRun X T0 (d + 1) q_X1_strandedJumps (37, [.ref 46, .ref 22, .int a2, .int a3], [.int r2, .ref 22], M2) Q
        refine jRun.call (k := jk_X1_strandedJumps) rfl 1 (f := q_X5_reaches) (As := [.ref 22, .int r2]) (c1 := (40, [.ref 46, .ref 22, .int a2, .int a3], [], M2)) (ob := jKd T0 22 = 5) rfl rfl h (fun v M3 h => ?_)
        obtain ⟨r3, rfl, h⟩ := h
        show jRun X T0 (d + 1) q_X1_strandedJumps (40, [.ref 46, .ref 22, .int a2, .int a3], [.int r3], M3) Q
        refine jRun.cut (k := jk_X1_strandedJumps) rfl 1 (c' := (if ¬ r3 = 0 then 49 else 43, [.ref 46, .ref 22, .int a2, .int a3], [], M3)) (ob := True ∧ True) rfl ⟨trivial, trivial⟩ ?_
        refine jRun.brn (fun g => ?_) (fun g => ?_)
        · have h := h.1 g
          refine jRun.cut (k := jk_X1_strandedJumps) rfl 2 (c' := (4, [.ref 46, .ref 22, .int a2, .int (a3 + 1)], [], M3)) (ob := True ∧ True ∧ True) rfl ⟨trivial, trivial, trivial⟩ ?_
          exact h
        · have h := h.2 g
          refine jRun.cut (k := jk_X1_strandedJumps) rfl 8 (c' := (4, [.ref 46, .ref 22, .int (a2 ||| (1 <<< (a3 &&& 31))), .int (a3 + 1)], [], M3)) (ob := True ∧ True ∧ True ∧ True ∧ True ∧ True ∧ True ∧ True ∧ True) rfl ⟨trivial, trivial, trivial, trivial, trivial, trivial, trivial, trivial, trivial⟩ ?_
          exact h
  · refine jRun.cut (k := jk_X1_strandedJumps) rfl 5 (c' := (if (M 12 10) ≤ a3 then 55 else 15, [.ref 51, .ref 49, .int a2, .int a3], [], M)) (ob := True ∧ True ∧ jKd T0 51 = 1 ∧ jKd T0 12 = 3 ∧ True ∧ True) rfl ⟨trivial, trivial, rfl, rfl, trivial, trivial⟩ ?_
    refine jRun.br (fun g => ?_) (fun g => ?_)
    · have h := h.1 g
      exact jRun.ret (k := jk_X1_strandedJumps) rfl 2 (v := some (.int a2)) (M1 := M) (ob := True ∧ True) rfl ⟨trivial, trivial⟩ h
    · have h := h.2 g
      refine jRun.call (k := jk_X1_strandedJumps) rfl 3 (f := q_X1_isLong) (As := [.ref 51, .int a3]) (c1 := (20, [.ref 51, .ref 49, .int a2, .int a3], [], M)) (ob := True ∧ True ∧ jKd T0 51 = 1) rfl ⟨trivial, trivial, rfl⟩ h (fun v M1 h => ?_)
      obtain ⟨r1, rfl, h⟩ := h
      show jRun X T0 (d + 1) q_X1_strandedJumps (20, [.ref 51, .ref 49, .int a2, .int a3], [.int r1], M1) Q
      refine jRun.cut (k := jk_X1_strandedJumps) rfl 1 (c' := (if ¬ r1 = 0 then 49 else 23, [.ref 51, .ref 49, .int a2, .int a3], [], M1)) (ob := True ∧ True) rfl ⟨trivial, trivial⟩ ?_
      refine jRun.brn (fun g => ?_) (fun g => ?_)
      · have h := h.1 g
        refine jRun.cut (k := jk_X1_strandedJumps) rfl 2 (c' := (4, [.ref 51, .ref 49, .int a2, .int (a3 + 1)], [], M1)) (ob := True ∧ True ∧ True) rfl ⟨trivial, trivial, trivial⟩ ?_
        exact h
      · have h := h.2 g
        obtain ⟨o1, h⟩ := h
        refine jRun.call (k := jk_X1_strandedJumps) rfl 8 (f := q_X1_farOf) (As := [.ref 51, .int (M1 18 a3.toNatClampNeg)]) (c1 := (37, [.ref 51, .ref 49, .int a2, .int a3], [.ref 49], M1)) (ob := True ∧ True ∧ True ∧ jKd T0 51 = 1 ∧ jKd T0 12 = 3 ∧ True ∧ (jKd T0 18 = 9 ∧ vp_in a3 10) ∧ jKd T0 51 = 1) rfl ⟨trivial, trivial, trivial, rfl, rfl, trivial, ⟨rfl, o1⟩, rfl⟩ h (fun v M2 h => ?_)
        obtain ⟨r2, rfl, h⟩ := h
        show jRun X T0 (d + 1) q_X1_strandedJumps (37, [.ref 51, .ref 49, .int a2, .int a3], [.int r2, .ref 49], M2) Q
        refine jRun.call (k := jk_X1_strandedJumps) rfl 1 (f := q_X5_reaches) (As := [.ref 49, .int r2]) (c1 := (40, [.ref 51, .ref 49, .int a2, .int a3], [], M2)) (ob := jKd T0 49 = 5) rfl rfl h (fun v M3 h => ?_)
        obtain ⟨r3, rfl, h⟩ := h
        show jRun X T0 (d + 1) q_X1_strandedJumps (40, [.ref 51, .ref 49, .int a2, .int a3], [.int r3], M3) Q
        refine jRun.cut (k := jk_X1_strandedJumps) rfl 1 (c' := (if ¬ r3 = 0 then 49 else 43, [.ref 51, .ref 49, .int a2, .int a3], [], M3)) (ob := True ∧ True) rfl ⟨trivial, trivial⟩ ?_
        refine jRun.brn (fun g => ?_) (fun g => ?_)
        · have h := h.1 g
          refine jRun.cut (k := jk_X1_strandedJumps) rfl 2 (c' := (4, [.ref 51, .ref 49, .int a2, .int (a3 + 1)], [], M3)) (ob := True ∧ True ∧ True) rfl ⟨trivial, trivial, trivial⟩ ?_
          exact h
        · have h := h.2 g
          refine jRun.cut (k := jk_X1_strandedJumps) rfl 8 (c' := (4, [.ref 51, .ref 49, .int (a2 ||| (1 <<< (a3 &&& 31))), .int (a3 + 1)], [], M3)) (ob := True ∧ True ∧ True ∧ True ∧ True ∧ True ∧ True ∧ True ∧ True) rfl ⟨trivial, trivial, trivial, trivial, trivial, trivial, trivial, trivial, trivial⟩ ?_
          exact h
theorem v_X1_wouldReach {X : jX} {d : Nat} (hI : jInj X T0) {L A S Z : Nat} (hv : jLS L A S Z)  (M : jMem) (Q : Option Value → jMem → Prop) (h : jRun X T0 (d + 1) q_X1_wouldReach (4, [.ref L, .ref S, .int 0, .int 0, .null], [], M) Q) : jOk X T0 (d + 1) q_X1_wouldReach [.ref L, .ref S] M Q := by
  rcases hv with ⟨rfl, rfl, rfl, rfl⟩ | ⟨rfl, rfl, rfl, rfl⟩ | ⟨rfl, rfl, rfl, rfl⟩ | ⟨rfl, rfl, rfl, rfl⟩
  · refine jOk.intro (ml := 5) (ls := [.ref 42, .ref 22, .null, .null, .null]) (jTl (by decide)) rfl (Nat.le_of_ble_eq_true rfl) rfl hI ?_
    refine jRun.cut (k := jk_X1_wouldReach) rfl 4 (c' := (4, [.ref 42, .ref 22, .int 0, .int 0, .null], [], M)) (ob := True ∧ True ∧ True ∧ True ∧ True) rfl ⟨trivial, trivial, trivial, trivial, trivial⟩ ?_
    exact h
  · refine jOk.intro (ml := 5) (ls := [.ref 44, .ref 22, .null, .null, .null]) (jTl (by decide)) rfl (Nat.le_of_ble_eq_true rfl) rfl hI ?_
    refine jRun.cut (k := jk_X1_wouldReach) rfl 4 (c' := (4, [.ref 44, .ref 22, .int 0, .int 0, .null], [], M)) (ob := True ∧ True ∧ True ∧ True ∧ True) rfl ⟨trivial, trivial, trivial, trivial, trivial⟩ ?_
    exact h
  · refine jOk.intro (ml := 5) (ls := [.ref 46, .ref 22, .null, .null, .null]) (jTl (by decide)) rfl (Nat.le_of_ble_eq_true rfl) rfl hI ?_
    refine jRun.cut (k := jk_X1_wouldReach) rfl 4 (c' := (4, [.ref 46, .ref 22, .int 0, .int 0, .null], [], M)) (ob := True ∧ True ∧ True ∧ True ∧ True) rfl ⟨trivial, trivial, trivial, trivial, trivial⟩ ?_
    exact h
  · refine jOk.intro (ml := 5) (ls := [.ref 51, .ref 49, .null, .null, .null]) (jTl (by decide)) rfl (Nat.le_of_ble_eq_true rfl) rfl hI ?_
    refine jRun.cut (k := jk_X1_wouldReach) rfl 4 (c' := (4, [.ref 51, .ref 49, .int 0, .int 0, .null], [], M)) (ob := True ∧ True ∧ True ∧ True ∧ True) rfl ⟨trivial, trivial, trivial, trivial, trivial⟩ ?_
    exact h
theorem v_X1_wouldReach_4 {X : jX} {d : Nat} {L A S Z : Nat} (hv : jLS L A S Z) (a2 : Int32) (a3 : Int32) (M : jMem) (Q : Option Value → jMem → Prop) (h : (((M 12 10) ≤ a3 → Q (some (.int a2)) M) ∧ (¬ (M 12 10) ≤ a3 → vp_in a3 10 ∧ jOk X T0 d q_X1_farOf [.ref L, .int (M 18 a3.toNatClampNeg)] M (fun v M1 => ∃ r1, v = some (.int r1) ∧ ((0 ≤ r1 → jRun X T0 (d + 1) q_X1_wouldReach (38, [.ref L, .ref S, .int a2, .int a3, .int r1], [], M1) Q) ∧ (¬ 0 ≤ r1 → jRun X T0 (d + 1) q_X1_wouldReach (38, [.ref L, .ref S, .int a2, .int a3, .int (r1 + 3)], [], M1) Q)))))) : jRun X T0 (d + 1) q_X1_wouldReach (4, [.ref L, .ref S, .int a2, .int a3, .null], [], M) Q := by
  rcases hv with ⟨rfl, rfl, rfl, rfl⟩ | ⟨rfl, rfl, rfl, rfl⟩ | ⟨rfl, rfl, rfl, rfl⟩ | ⟨rfl, rfl, rfl, rfl⟩
  · refine jRun.cut (k := jk_X1_wouldReach) rfl 5 (c' := (if (M 12 10) ≤ a3 then 67 else 15, [.ref 42, .ref 22, .int a2, .int a3, .null], [], M)) (ob := True ∧ True ∧ jKd T0 42 = 1 ∧ jKd T0 12 = 3 ∧ True ∧ True) rfl ⟨trivial, trivial, rfl, rfl, trivial, trivial⟩ ?_
    refine jRun.br (fun g => ?_) (fun g => ?_)
    · have h := h.1 g
      exact jRun.ret (k := jk_X1_wouldReach) rfl 2 (v := some (.int a2)) (M1 := M) (ob := True ∧ True) rfl ⟨trivial, trivial⟩ h
    · have h := h.2 g
      obtain ⟨o1, h⟩ := h
      refine jRun.call (k := jk_X1_wouldReach) rfl 7 (f := q_X1_farOf) (As := [.ref 42, .int (M 18 a3.toNatClampNeg)]) (c1 := (28, [.ref 42, .ref 22, .int a2, .int a3, .null], [], M)) (ob := True ∧ True ∧ jKd T0 42 = 1 ∧ jKd T0 12 = 3 ∧ True ∧ (jKd T0 18 = 9 ∧ vp_in a3 10) ∧ jKd T0 42 = 1) rfl ⟨trivial, trivial, rfl, rfl, trivial, ⟨rfl, o1⟩, rfl⟩ h (fun v M1 h => ?_)
      obtain ⟨r1, rfl, h⟩ := h
      show jRun X T0 (d + 1) q_X1_wouldReach (28, [.ref 42, .ref 22, .int a2, .int a3, .null], [.int r1], M1) Q
      refine jRun.cut (k := jk_X1_wouldReach) rfl 3 (c' := (if 0 ≤ r1 then 38 else 35, [.ref 42, .ref 22, .int a2, .int a3, .int r1], [], M1)) (ob := True ∧ True ∧ True ∧ True) rfl ⟨trivial, trivial, trivial, trivial⟩ ?_
      refine jRun.br (fun g => ?_) (fun g => ?_)
      · have h := h.1 g
        exact h
      · have h := h.2 g
        refine jRun.cut (k := jk_X1_wouldReach) rfl 1 (c' := (38, [.ref 42, .ref 22, .int a2, .int a3, .int (r1 + 3)], [], M1)) (ob := True ∧ True) rfl ⟨trivial, trivial⟩ ?_
        exact h
  · refine jRun.cut (k := jk_X1_wouldReach) rfl 5 (c' := (if (M 12 10) ≤ a3 then 67 else 15, [.ref 44, .ref 22, .int a2, .int a3, .null], [], M)) (ob := True ∧ True ∧ jKd T0 44 = 1 ∧ jKd T0 12 = 3 ∧ True ∧ True) rfl ⟨trivial, trivial, rfl, rfl, trivial, trivial⟩ ?_
    refine jRun.br (fun g => ?_) (fun g => ?_)
    · have h := h.1 g
      exact jRun.ret (k := jk_X1_wouldReach) rfl 2 (v := some (.int a2)) (M1 := M) (ob := True ∧ True) rfl ⟨trivial, trivial⟩ h
    · have h := h.2 g
      obtain ⟨o1, h⟩ := h
      refine jRun.call (k := jk_X1_wouldReach) rfl 7 (f := q_X1_farOf) (As := [.ref 44, .int (M 18 a3.toNatClampNeg)]) (c1 := (28, [.ref 44, .ref 22, .int a2, .int a3, .null], [], M)) (ob := True ∧ True ∧ jKd T0 44 = 1 ∧ jKd T0 12 = 3 ∧ True ∧ (jKd T0 18 = 9 ∧ vp_in a3 10) ∧ jKd T0 44 = 1) rfl ⟨trivial, trivial, rfl, rfl, trivial, ⟨rfl, o1⟩, rfl⟩ h (fun v M1 h => ?_)
      obtain ⟨r1, rfl, h⟩ := h
      show jRun X T0 (d + 1) q_X1_wouldReach (28, [.ref 44, .ref 22, .int a2, .int a3, .null], [.int r1], M1) Q
      refine jRun.cut (k := jk_X1_wouldReach) rfl 3 (c' := (if 0 ≤ r1 then 38 else 35, [.ref 44, .ref 22, .int a2, .int a3, .int r1], [], M1)) (ob := True ∧ True ∧ True ∧ True) rfl ⟨trivial, trivial, trivial, trivial⟩ ?_
      refine jRun.br (fun g => ?_) (fun g => ?_)
      · have h := h.1 g
        exact h
      · have h := h.2 g
        refine jRun.cut (k := jk_X1_wouldReach) rfl 1 (c' := (38, [.ref 44, .ref 22, .int a2, .int a3, .int (r1 + 3)], [], M1)) (ob := True ∧ True) rfl ⟨trivial, trivial⟩ ?_
        exact h
  · refine jRun.cut (k := jk_X1_wouldReach) rfl 5 (c' := (if (M 12 10) ≤ a3 then 67 else 15, [.ref 46, .ref 22, .int a2, .int a3, .null], [], M)) (ob := True ∧ True ∧ jKd T0 46 = 1 ∧ jKd T0 12 = 3 ∧ True ∧ True) rfl ⟨trivial, trivial, rfl, rfl, trivial, trivial⟩ ?_
    refine jRun.br (fun g => ?_) (fun g => ?_)
    · have h := h.1 g
      exact jRun.ret (k := jk_X1_wouldReach) rfl 2 (v := some (.int a2)) (M1 := M) (ob := True ∧ True) rfl ⟨trivial, trivial⟩ h
    · have h := h.2 g
      obtain ⟨o1, h⟩ := h
      refine jRun.call (k := jk_X1_wouldReach) rfl 7 (f := q_X1_farOf) (As := [.ref 46, .int (M 18 a3.toNatClampNeg)]) (c1 := (28, [.ref 46, .ref 22, .int a2, .int a3, .null], [], M)) (ob := True ∧ True ∧ jKd T0 46 = 1 ∧ jKd T0 12 = 3 ∧ True ∧ (jKd T0 18 = 9 ∧ vp_in a3 10) ∧ jKd T0 46 = 1) rfl ⟨trivial, trivial, rfl, rfl, trivial, ⟨rfl, o1⟩, rfl⟩ h (fun v M1 h => ?_)
      obtain ⟨r1, rfl, h⟩ := h
      show jRun X T0 (d + 1) q_X1_wouldReach (28, [.ref 46, .ref 22, .int a2, .int a3, .null], [.int r1], M1) Q
      refine jRun.cut (k := jk_X1_wouldReach) rfl 3 (c' := (if 0 ≤ r1 then 38 else 35, [.ref 46, .ref 22, .int a2, .int a3, .int r1], [], M1)) (ob := True ∧ True ∧ True ∧ True) rfl ⟨trivial, trivial, trivial, trivial⟩ ?_
      refine jRun.br (fun g => ?_) (fun g => ?_)
      · have h := h.1 g
        exact h
      · have h := h.2 g
        refine jRun.cut (k := jk_X1_wouldReach) rfl 1 (c' := (38, [.ref 46, .ref 22, .int a2, .int a3, .int (r1 + 3)], [], M1)) (ob := True ∧ True) rfl ⟨trivial, trivial⟩ ?_
        exact h
  · refine jRun.cut (k := jk_X1_wouldReach) rfl 5 (c' := (if (M 12 10) ≤ a3 then 67 else 15, [.ref 51, .ref 49, .int a2, .int a3, .null], [], M)) (ob := True ∧ True ∧ jKd T0 51 = 1 ∧ jKd T0 12 = 3 ∧ True ∧ True) rfl ⟨trivial, trivial, rfl, rfl, trivial, trivial⟩ ?_
    refine jRun.br (fun g => ?_) (fun g => ?_)
    · have h := h.1 g
      exact jRun.ret (k := jk_X1_wouldReach) rfl 2 (v := some (.int a2)) (M1 := M) (ob := True ∧ True) rfl ⟨trivial, trivial⟩ h
    · have h := h.2 g
      obtain ⟨o1, h⟩ := h
      refine jRun.call (k := jk_X1_wouldReach) rfl 7 (f := q_X1_farOf) (As := [.ref 51, .int (M 18 a3.toNatClampNeg)]) (c1 := (28, [.ref 51, .ref 49, .int a2, .int a3, .null], [], M)) (ob := True ∧ True ∧ jKd T0 51 = 1 ∧ jKd T0 12 = 3 ∧ True ∧ (jKd T0 18 = 9 ∧ vp_in a3 10) ∧ jKd T0 51 = 1) rfl ⟨trivial, trivial, rfl, rfl, trivial, ⟨rfl, o1⟩, rfl⟩ h (fun v M1 h => ?_)
      obtain ⟨r1, rfl, h⟩ := h
      show jRun X T0 (d + 1) q_X1_wouldReach (28, [.ref 51, .ref 49, .int a2, .int a3, .null], [.int r1], M1) Q
      refine jRun.cut (k := jk_X1_wouldReach) rfl 3 (c' := (if 0 ≤ r1 then 38 else 35, [.ref 51, .ref 49, .int a2, .int a3, .int r1], [], M1)) (ob := True ∧ True ∧ True ∧ True) rfl ⟨trivial, trivial, trivial, trivial⟩ ?_
      refine jRun.br (fun g => ?_) (fun g => ?_)
      · have h := h.1 g
        exact h
      · have h := h.2 g
        refine jRun.cut (k := jk_X1_wouldReach) rfl 1 (c' := (38, [.ref 51, .ref 49, .int a2, .int a3, .int (r1 + 3)], [], M1)) (ob := True ∧ True) rfl ⟨trivial, trivial⟩ ?_
        exact h
theorem v_X1_wouldReach_38 {X : jX} {d : Nat} {L A S Z : Nat} (hv : jLS L A S Z) (a2 : Int32) (a3 : Int32) (a4 : Int32) (M : jMem) (Q : Option Value → jMem → Prop) (h : jOk X T0 d q_X1_isLong [.ref L, .int a3] M (fun v M1 => ∃ r1, v = some (.int r1) ∧ ((r1 = 0 → jRun X T0 (d + 1) q_X1_wouldReach (61, [.ref L, .ref S, .int a2, .int a3, .int a4], [], M1) Q) ∧ (¬ r1 = 0 → jOk X T0 d q_X5_reaches [.ref S, .int a4] M1 (fun v M2 => ∃ r2, v = some (.int r2) ∧ ((r2 = 0 → jRun X T0 (d + 1) q_X1_wouldReach (61, [.ref L, .ref S, .int a2, .int a3, .int a4], [], M2) Q) ∧ (¬ r2 = 0 → jRun X T0 (d + 1) q_X1_wouldReach (61, [.ref L, .ref S, .int (a2 ||| (1 <<< (a3 &&& 31))), .int a3, .int a4], [], M2) Q))))))) : jRun X T0 (d + 1) q_X1_wouldReach (38, [.ref L, .ref S, .int a2, .int a3, .int a4], [], M) Q := by
  rcases hv with ⟨rfl, rfl, rfl, rfl⟩ | ⟨rfl, rfl, rfl, rfl⟩ | ⟨rfl, rfl, rfl, rfl⟩ | ⟨rfl, rfl, rfl, rfl⟩
  · refine jRun.call (k := jk_X1_wouldReach) rfl 3 (f := q_X1_isLong) (As := [.ref 42, .int a3]) (c1 := (43, [.ref 42, .ref 22, .int a2, .int a3, .int a4], [], M)) (ob := True ∧ True ∧ jKd T0 42 = 1) rfl ⟨trivial, trivial, rfl⟩ h (fun v M1 h => ?_)
    obtain ⟨r1, rfl, h⟩ := h
    show jRun X T0 (d + 1) q_X1_wouldReach (43, [.ref 42, .ref 22, .int a2, .int a3, .int a4], [.int r1], M1) Q
    refine jRun.cut (k := jk_X1_wouldReach) rfl 1 (c' := (if r1 = 0 then 61 else 46, [.ref 42, .ref 22, .int a2, .int a3, .int a4], [], M1)) (ob := True ∧ True) rfl ⟨trivial, trivial⟩ ?_
    refine jRun.br (fun g => ?_) (fun g => ?_)
    · have h := h.1 g
      exact h
    · have h := h.2 g
      refine jRun.call (k := jk_X1_wouldReach) rfl 3 (f := q_X5_reaches) (As := [.ref 22, .int a4]) (c1 := (52, [.ref 42, .ref 22, .int a2, .int a3, .int a4], [], M1)) (ob := True ∧ True ∧ jKd T0 22 = 5) rfl ⟨trivial, trivial, rfl⟩ h (fun v M2 h => ?_)
      obtain ⟨r2, rfl, h⟩ := h
      show jRun X T0 (d + 1) q_X1_wouldReach (52, [.ref 42, .ref 22, .int a2, .int a3, .int a4], [.int r2], M2) Q
      refine jRun.cut (k := jk_X1_wouldReach) rfl 1 (c' := (if r2 = 0 then 61 else 55, [.ref 42, .ref 22, .int a2, .int a3, .int a4], [], M2)) (ob := True ∧ True) rfl ⟨trivial, trivial⟩ ?_
      refine jRun.br (fun g => ?_) (fun g => ?_)
      · have h := h.1 g
        exact h
      · have h := h.2 g
        refine jRun.cut (k := jk_X1_wouldReach) rfl 6 (c' := (61, [.ref 42, .ref 22, .int (a2 ||| (1 <<< (a3 &&& 31))), .int a3, .int a4], [], M2)) (ob := True ∧ True ∧ True ∧ True ∧ True ∧ True ∧ True) rfl ⟨trivial, trivial, trivial, trivial, trivial, trivial, trivial⟩ ?_
        exact h
  · refine jRun.call (k := jk_X1_wouldReach) rfl 3 (f := q_X1_isLong) (As := [.ref 44, .int a3]) (c1 := (43, [.ref 44, .ref 22, .int a2, .int a3, .int a4], [], M)) (ob := True ∧ True ∧ jKd T0 44 = 1) rfl ⟨trivial, trivial, rfl⟩ h (fun v M1 h => ?_)
    obtain ⟨r1, rfl, h⟩ := h
    show jRun X T0 (d + 1) q_X1_wouldReach (43, [.ref 44, .ref 22, .int a2, .int a3, .int a4], [.int r1], M1) Q
    refine jRun.cut (k := jk_X1_wouldReach) rfl 1 (c' := (if r1 = 0 then 61 else 46, [.ref 44, .ref 22, .int a2, .int a3, .int a4], [], M1)) (ob := True ∧ True) rfl ⟨trivial, trivial⟩ ?_
    refine jRun.br (fun g => ?_) (fun g => ?_)
    · have h := h.1 g
      exact h
    · have h := h.2 g
      refine jRun.call (k := jk_X1_wouldReach) rfl 3 (f := q_X5_reaches) (As := [.ref 22, .int a4]) (c1 := (52, [.ref 44, .ref 22, .int a2, .int a3, .int a4], [], M1)) (ob := True ∧ True ∧ jKd T0 22 = 5) rfl ⟨trivial, trivial, rfl⟩ h (fun v M2 h => ?_)
      obtain ⟨r2, rfl, h⟩ := h
      show jRun X T0 (d + 1) q_X1_wouldReach (52, [.ref 44, .ref 22, .int a2, .int a3, .int a4], [.int r2], M2) Q
      refine jRun.cut (k := jk_X1_wouldReach) rfl 1 (c' := (if r2 = 0 then 61 else 55, [.ref 44, .ref 22, .int a2, .int a3, .int a4], [], M2)) (ob := True ∧ True) rfl ⟨trivial, trivial⟩ ?_
      refine jRun.br (fun g => ?_) (fun g => ?_)
      · have h := h.1 g
        exact h
      · have h := h.2 g
        refine jRun.cut (k := jk_X1_wouldReach) rfl 6 (c' := (61, [.ref 44, .ref 22, .int (a2 ||| (1 <<< (a3 &&& 31))), .int a3, .int a4], [], M2)) (ob := True ∧ True ∧ True ∧ True ∧ True ∧ True ∧ True) rfl ⟨trivial, trivial, trivial, trivial, trivial, trivial, trivial⟩ ?_
        exact h
  · refine jRun.call (k := jk_X1_wouldReach) rfl 3 (f := q_X1_isLong) (As := [.ref 46, .int a3]) (c1 := (43, [.ref 46, .ref 22, .int a2, .int a3, .int a4], [], M)) (ob := True ∧ True ∧ jKd T0 46 = 1) rfl ⟨trivial, trivial, rfl⟩ h (fun v M1 h => ?_)
    obtain ⟨r1, rfl, h⟩ := h
    show jRun X T0 (d + 1) q_X1_wouldReach (43, [.ref 46, .ref 22, .int a2, .int a3, .int a4], [.int r1], M1) Q
    refine jRun.cut (k := jk_X1_wouldReach) rfl 1 (c' := (if r1 = 0 then 61 else 46, [.ref 46, .ref 22, .int a2, .int a3, .int a4], [], M1)) (ob := True ∧ True) rfl ⟨trivial, trivial⟩ ?_
    refine jRun.br (fun g => ?_) (fun g => ?_)
    · have h := h.1 g
      exact h
    · have h := h.2 g
      refine jRun.call (k := jk_X1_wouldReach) rfl 3 (f := q_X5_reaches) (As := [.ref 22, .int a4]) (c1 := (52, [.ref 46, .ref 22, .int a2, .int a3, .int a4], [], M1)) (ob := True ∧ True ∧ jKd T0 22 = 5) rfl ⟨trivial, trivial, rfl⟩ h (fun v M2 h => ?_)
      obtain ⟨r2, rfl, h⟩ := h
      show jRun X T0 (d + 1) q_X1_wouldReach (52, [.ref 46, .ref 22, .int a2, .int a3, .int a4], [.int r2], M2) Q
      refine jRun.cut (k := jk_X1_wouldReach) rfl 1 (c' := (if r2 = 0 then 61 else 55, [.ref 46, .ref 22, .int a2, .int a3, .int a4], [], M2)) (ob := True ∧ True) rfl ⟨trivial, trivial⟩ ?_
      refine jRun.br (fun g => ?_) (fun g => ?_)
      · have h := h.1 g
        exact h
      · have h := h.2 g
        refine jRun.cut (k := jk_X1_wouldReach) rfl 6 (c' := (61, [.ref 46, .ref 22, .int (a2 ||| (1 <<< (a3 &&& 31))), .int a3, .int a4], [], M2)) (ob := True ∧ True ∧ True ∧ True ∧ True ∧ True ∧ True) rfl ⟨trivial, trivial, trivial, trivial, trivial, trivial, trivial⟩ ?_
        exact h
  · refine jRun.call (k := jk_X1_wouldReach) rfl 3 (f := q_X1_isLong) (As := [.ref 51, .int a3]) (c1 := (43, [.ref 51, .ref 49, .int a2, .int a3, .int a4], [], M)) (ob := True ∧ True ∧ jKd T0 51 = 1) rfl ⟨trivial, trivial, rfl⟩ h (fun v M1 h => ?_)
    obtain ⟨r1, rfl, h⟩ := h
    show jRun X T0 (d + 1) q_X1_wouldReach (43, [.ref 51, .ref 49, .int a2, .int a3, .int a4], [.int r1], M1) Q
    refine jRun.cut (k := jk_X1_wouldReach) rfl 1 (c' := (if r1 = 0 then 61 else 46, [.ref 51, .ref 49, .int a2, .int a3, .int a4], [], M1)) (ob := True ∧ True) rfl ⟨trivial, trivial⟩ ?_
    refine jRun.br (fun g => ?_) (fun g => ?_)
    · have h := h.1 g
      exact h
    · have h := h.2 g
      refine jRun.call (k := jk_X1_wouldReach) rfl 3 (f := q_X5_reaches) (As := [.ref 49, .int a4]) (c1 := (52, [.ref 51, .ref 49, .int a2, .int a3, .int a4], [], M1)) (ob := True ∧ True ∧ jKd T0 49 = 5) rfl ⟨trivial, trivial, rfl⟩ h (fun v M2 h => ?_)
      obtain ⟨r2, rfl, h⟩ := h
      show jRun X T0 (d + 1) q_X1_wouldReach (52, [.ref 51, .ref 49, .int a2, .int a3, .int a4], [.int r2], M2) Q
      refine jRun.cut (k := jk_X1_wouldReach) rfl 1 (c' := (if r2 = 0 then 61 else 55, [.ref 51, .ref 49, .int a2, .int a3, .int a4], [], M2)) (ob := True ∧ True) rfl ⟨trivial, trivial⟩ ?_
      refine jRun.br (fun g => ?_) (fun g => ?_)
      · have h := h.1 g
        exact h
      · have h := h.2 g
        refine jRun.cut (k := jk_X1_wouldReach) rfl 6 (c' := (61, [.ref 51, .ref 49, .int (a2 ||| (1 <<< (a3 &&& 31))), .int a3, .int a4], [], M2)) (ob := True ∧ True ∧ True ∧ True ∧ True ∧ True ∧ True) rfl ⟨trivial, trivial, trivial, trivial, trivial, trivial, trivial⟩ ?_
        exact h
theorem v_X1_wouldReach_61 {X : jX} {d : Nat} {L A S Z : Nat} (hv : jLS L A S Z) (a2 : Int32) (a3 : Int32) (a4 : Int32) (M : jMem) (Q : Option Value → jMem → Prop) (h : jRun X T0 (d + 1) q_X1_wouldReach (4, [.ref L, .ref S, .int a2, .int (a3 + 1), .null], [], M) Q) : jRun X T0 (d + 1) q_X1_wouldReach (61, [.ref L, .ref S, .int a2, .int a3, .int a4], [], M) Q := by
  rcases hv with ⟨rfl, rfl, rfl, rfl⟩ | ⟨rfl, rfl, rfl, rfl⟩ | ⟨rfl, rfl, rfl, rfl⟩ | ⟨rfl, rfl, rfl, rfl⟩
  · refine jRun.cut (k := jk_X1_wouldReach) rfl 2 (c' := (4, [.ref 42, .ref 22, .int a2, .int (a3 + 1), .int a4], [], M)) (ob := True ∧ True ∧ True) rfl ⟨trivial, trivial, trivial⟩ ?_
    exact jRun.weak (by simp [jFew]) h
  · refine jRun.cut (k := jk_X1_wouldReach) rfl 2 (c' := (4, [.ref 44, .ref 22, .int a2, .int (a3 + 1), .int a4], [], M)) (ob := True ∧ True ∧ True) rfl ⟨trivial, trivial, trivial⟩ ?_
    exact jRun.weak (by simp [jFew]) h
  · refine jRun.cut (k := jk_X1_wouldReach) rfl 2 (c' := (4, [.ref 46, .ref 22, .int a2, .int (a3 + 1), .int a4], [], M)) (ob := True ∧ True ∧ True) rfl ⟨trivial, trivial, trivial⟩ ?_
    exact jRun.weak (by simp [jFew]) h
  · refine jRun.cut (k := jk_X1_wouldReach) rfl 2 (c' := (4, [.ref 51, .ref 49, .int a2, .int (a3 + 1), .int a4], [], M)) (ob := True ∧ True ∧ True) rfl ⟨trivial, trivial, trivial⟩ ?_
    exact jRun.weak (by simp [jFew]) h
theorem v_X1_farServed {X : jX} {d : Nat} (hI : jInj X T0) {L A S Z : Nat} (hv : jLS L A S Z) (a2 : Int32) (M : jMem) (Q : Option Value → jMem → Prop) (h : jOk X T0 d q_X1_farOf [.ref L, .int a2] M (fun v M1 => ∃ r1, v = some (.int r1) ∧ jOk X T0 d q_X5_reaches [.ref S, .int r1] M1 (fun v M2 => ∃ r2, v = some (.int r2) ∧ ((r2 = 0 → vp_in a2 32 ∧ jRun X T0 (d + 1) q_X1_farServed (30, [.ref L, .ref S, .int a2, .int r1, .int (M2 14 a2.toNatClampNeg), .int 0, .null], [], M2) Q) ∧ (¬ r2 = 0 → Q (some (.int r1)) M2))))) : jOk X T0 (d + 1) q_X1_farServed [.ref L, .ref S, .int a2] M Q := by
  rcases hv with ⟨rfl, rfl, rfl, rfl⟩ | ⟨rfl, rfl, rfl, rfl⟩ | ⟨rfl, rfl, rfl, rfl⟩ | ⟨rfl, rfl, rfl, rfl⟩
  · refine jOk.intro (ml := 7) (ls := [.ref 42, .ref 22, .int a2, .null, .null, .null, .null]) (jTl (by decide)) rfl (Nat.le_of_ble_eq_true rfl) rfl hI ?_
    refine jRun.call (k := jk_X1_farServed) rfl 3 (f := q_X1_farOf) (As := [.ref 42, .int a2]) (c1 := (5, [.ref 42, .ref 22, .int a2, .null, .null, .null, .null], [], M)) (ob := True ∧ True ∧ jKd T0 42 = 1) rfl ⟨trivial, trivial, rfl⟩ h (fun v M1 h => ?_)
    obtain ⟨r1, rfl, h⟩ := h
    show jRun X T0 (d + 1) q_X1_farServed (5, [.ref 42, .ref 22, .int a2, .null, .null, .null, .null], [.int r1], M1) Q
    refine jRun.call (k := jk_X1_farServed) rfl 4 (f := q_X5_reaches) (As := [.ref 22, .int r1]) (c1 := (11, [.ref 42, .ref 22, .int a2, .int r1, .null, .null, .null], [], M1)) (ob := True ∧ True ∧ True ∧ jKd T0 22 = 5) rfl ⟨trivial, trivial, trivial, rfl⟩ h (fun v M2 h => ?_)
    obtain ⟨r2, rfl, h⟩ := h
    show jRun X T0 (d + 1) q_X1_farServed (11, [.ref 42, .ref 22, .int a2, .int r1, .null, .null, .null], [.int r2], M2) Q
    refine jRun.cut (k := jk_X1_farServed) rfl 1 (c' := (if r2 = 0 then 16 else 14, [.ref 42, .ref 22, .int a2, .int r1, .null, .null, .null], [], M2)) (ob := True ∧ True) rfl ⟨trivial, trivial⟩ ?_
    refine jRun.br (fun g => ?_) (fun g => ?_)
    · have h := h.1 g
      obtain ⟨o1, h⟩ := h
      refine jRun.cut (k := jk_X1_farServed) rfl 8 (c' := (30, [.ref 42, .ref 22, .int a2, .int r1, .int (M2 14 a2.toNatClampNeg), .int 0, .null], [], M2)) (ob := True ∧ jKd T0 42 = 1 ∧ jKd T0 12 = 3 ∧ True ∧ (jKd T0 14 = 9 ∧ vp_in a2 32) ∧ True ∧ True ∧ True ∧ True) rfl ⟨trivial, rfl, rfl, trivial, ⟨rfl, o1⟩, trivial, trivial, trivial, trivial⟩ ?_
      exact h
    · have h := h.2 g
      exact jRun.ret (k := jk_X1_farServed) rfl 2 (v := some (.int r1)) (M1 := M2) (ob := True ∧ True) rfl ⟨trivial, trivial⟩ h
  · refine jOk.intro (ml := 7) (ls := [.ref 44, .ref 22, .int a2, .null, .null, .null, .null]) (jTl (by decide)) rfl (Nat.le_of_ble_eq_true rfl) rfl hI ?_
    refine jRun.call (k := jk_X1_farServed) rfl 3 (f := q_X1_farOf) (As := [.ref 44, .int a2]) (c1 := (5, [.ref 44, .ref 22, .int a2, .null, .null, .null, .null], [], M)) (ob := True ∧ True ∧ jKd T0 44 = 1) rfl ⟨trivial, trivial, rfl⟩ h (fun v M1 h => ?_)
    obtain ⟨r1, rfl, h⟩ := h
    show jRun X T0 (d + 1) q_X1_farServed (5, [.ref 44, .ref 22, .int a2, .null, .null, .null, .null], [.int r1], M1) Q
    refine jRun.call (k := jk_X1_farServed) rfl 4 (f := q_X5_reaches) (As := [.ref 22, .int r1]) (c1 := (11, [.ref 44, .ref 22, .int a2, .int r1, .null, .null, .null], [], M1)) (ob := True ∧ True ∧ True ∧ jKd T0 22 = 5) rfl ⟨trivial, trivial, trivial, rfl⟩ h (fun v M2 h => ?_)
    obtain ⟨r2, rfl, h⟩ := h
    show jRun X T0 (d + 1) q_X1_farServed (11, [.ref 44, .ref 22, .int a2, .int r1, .null, .null, .null], [.int r2], M2) Q
    refine jRun.cut (k := jk_X1_farServed) rfl 1 (c' := (if r2 = 0 then 16 else 14, [.ref 44, .ref 22, .int a2, .int r1, .null, .null, .null], [], M2)) (ob := True ∧ True) rfl ⟨trivial, trivial⟩ ?_
    refine jRun.br (fun g => ?_) (fun g => ?_)
    · have h := h.1 g
      obtain ⟨o1, h⟩ := h
      refine jRun.cut (k := jk_X1_farServed) rfl 8 (c' := (30, [.ref 44, .ref 22, .int a2, .int r1, .int (M2 14 a2.toNatClampNeg), .int 0, .null], [], M2)) (ob := True ∧ jKd T0 44 = 1 ∧ jKd T0 12 = 3 ∧ True ∧ (jKd T0 14 = 9 ∧ vp_in a2 32) ∧ True ∧ True ∧ True ∧ True) rfl ⟨trivial, rfl, rfl, trivial, ⟨rfl, o1⟩, trivial, trivial, trivial, trivial⟩ ?_
      exact h
    · have h := h.2 g
      exact jRun.ret (k := jk_X1_farServed) rfl 2 (v := some (.int r1)) (M1 := M2) (ob := True ∧ True) rfl ⟨trivial, trivial⟩ h
  · refine jOk.intro (ml := 7) (ls := [.ref 46, .ref 22, .int a2, .null, .null, .null, .null]) (jTl (by decide)) rfl (Nat.le_of_ble_eq_true rfl) rfl hI ?_
    refine jRun.call (k := jk_X1_farServed) rfl 3 (f := q_X1_farOf) (As := [.ref 46, .int a2]) (c1 := (5, [.ref 46, .ref 22, .int a2, .null, .null, .null, .null], [], M)) (ob := True ∧ True ∧ jKd T0 46 = 1) rfl ⟨trivial, trivial, rfl⟩ h (fun v M1 h => ?_)
    obtain ⟨r1, rfl, h⟩ := h
    show jRun X T0 (d + 1) q_X1_farServed (5, [.ref 46, .ref 22, .int a2, .null, .null, .null, .null], [.int r1], M1) Q
    refine jRun.call (k := jk_X1_farServed) rfl 4 (f := q_X5_reaches) (As := [.ref 22, .int r1]) (c1 := (11, [.ref 46, .ref 22, .int a2, .int r1, .null, .null, .null], [], M1)) (ob := True ∧ True ∧ True ∧ jKd T0 22 = 5) rfl ⟨trivial, trivial, trivial, rfl⟩ h (fun v M2 h => ?_)
    obtain ⟨r2, rfl, h⟩ := h
    show jRun X T0 (d + 1) q_X1_farServed (11, [.ref 46, .ref 22, .int a2, .int r1, .null, .null, .null], [.int r2], M2) Q
    refine jRun.cut (k := jk_X1_farServed) rfl 1 (c' := (if r2 = 0 then 16 else 14, [.ref 46, .ref 22, .int a2, .int r1, .null, .null, .null], [], M2)) (ob := True ∧ True) rfl ⟨trivial, trivial⟩ ?_
    refine jRun.br (fun g => ?_) (fun g => ?_)
    · have h := h.1 g
      obtain ⟨o1, h⟩ := h
      refine jRun.cut (k := jk_X1_farServed) rfl 8 (c' := (30, [.ref 46, .ref 22, .int a2, .int r1, .int (M2 14 a2.toNatClampNeg), .int 0, .null], [], M2)) (ob := True ∧ jKd T0 46 = 1 ∧ jKd T0 12 = 3 ∧ True ∧ (jKd T0 14 = 9 ∧ vp_in a2 32) ∧ True ∧ True ∧ True ∧ True) rfl ⟨trivial, rfl, rfl, trivial, ⟨rfl, o1⟩, trivial, trivial, trivial, trivial⟩ ?_
      exact h
    · have h := h.2 g
      exact jRun.ret (k := jk_X1_farServed) rfl 2 (v := some (.int r1)) (M1 := M2) (ob := True ∧ True) rfl ⟨trivial, trivial⟩ h
  · refine jOk.intro (ml := 7) (ls := [.ref 51, .ref 49, .int a2, .null, .null, .null, .null]) (jTl (by decide)) rfl (Nat.le_of_ble_eq_true rfl) rfl hI ?_
    refine jRun.call (k := jk_X1_farServed) rfl 3 (f := q_X1_farOf) (As := [.ref 51, .int a2]) (c1 := (5, [.ref 51, .ref 49, .int a2, .null, .null, .null, .null], [], M)) (ob := True ∧ True ∧ jKd T0 51 = 1) rfl ⟨trivial, trivial, rfl⟩ h (fun v M1 h => ?_)
    obtain ⟨r1, rfl, h⟩ := h
    show jRun X T0 (d + 1) q_X1_farServed (5, [.ref 51, .ref 49, .int a2, .null, .null, .null, .null], [.int r1], M1) Q
    refine jRun.call (k := jk_X1_farServed) rfl 4 (f := q_X5_reaches) (As := [.ref 49, .int r1]) (c1 := (11, [.ref 51, .ref 49, .int a2, .int r1, .null, .null, .null], [], M1)) (ob := True ∧ True ∧ True ∧ jKd T0 49 = 5) rfl ⟨trivial, trivial, trivial, rfl⟩ h (fun v M2 h => ?_)
    obtain ⟨r2, rfl, h⟩ := h
    show jRun X T0 (d + 1) q_X1_farServed (11, [.ref 51, .ref 49, .int a2, .int r1, .null, .null, .null], [.int r2], M2) Q
    refine jRun.cut (k := jk_X1_farServed) rfl 1 (c' := (if r2 = 0 then 16 else 14, [.ref 51, .ref 49, .int a2, .int r1, .null, .null, .null], [], M2)) (ob := True ∧ True) rfl ⟨trivial, trivial⟩ ?_
    refine jRun.br (fun g => ?_) (fun g => ?_)
    · have h := h.1 g
      obtain ⟨o1, h⟩ := h
      refine jRun.cut (k := jk_X1_farServed) rfl 8 (c' := (30, [.ref 51, .ref 49, .int a2, .int r1, .int (M2 14 a2.toNatClampNeg), .int 0, .null], [], M2)) (ob := True ∧ jKd T0 51 = 1 ∧ jKd T0 12 = 3 ∧ True ∧ (jKd T0 14 = 9 ∧ vp_in a2 32) ∧ True ∧ True ∧ True ∧ True) rfl ⟨trivial, rfl, rfl, trivial, ⟨rfl, o1⟩, trivial, trivial, trivial, trivial⟩ ?_
      exact h
    · have h := h.2 g
      exact jRun.ret (k := jk_X1_farServed) rfl 2 (v := some (.int r1)) (M1 := M2) (ob := True ∧ True) rfl ⟨trivial, trivial⟩ h
theorem v_X1_farServed_30 {X : jX} {d : Nat} {L A S Z : Nat} (hv : jLS L A S Z) (a2 : Int32) (a3 : Int32) (a4 : Int32) (a5 : Int32) (M : jMem) (Q : Option Value → jMem → Prop) (h : (((M 12 12) ≤ a5 → Q (some (.int (-1000000))) M) ∧ (¬ (M 12 12) ≤ a5 → jOk X T0 d q_X5_hasIsland [.ref S, .int a5, .int a4] M (fun v M1 => ∃ r1, v = some (.int r1) ∧ ((¬ r1 = 0 → jOk X T0 d q_X5_labelsIn [.ref S, .int a5] M1 (fun v M2 => ∃ r2, v = some (.int r2) ∧ jOk X T0 d q_J6_bitCount_0f7a4 [.int (r2 &&& ((1 <<< (a4 &&& 31)) - 1))] M2 (fun v M3 => ∃ r3, v = some (.int r3) ∧ vp_in a5 3 ∧ vp_in (M3 20 a5.toNatClampNeg) 33 ∧ vp_in (a2 + 1) 33 ∧ jOk X T0 d q_X5_reaches [.ref S, .int (((M3 A (M3 20 a5.toNatClampNeg).toNatClampNeg) + (5 * r3)) - (M3 A (a2 + 1).toNatClampNeg))] M3 (fun v M4 => ∃ r4, v = some (.int r4) ∧ ((r4 = 0 → jRun X T0 (d + 1) q_X1_farServed (30, [.ref L, .ref S, .int a2, .int (((M3 A (M3 20 a5.toNatClampNeg).toNatClampNeg) + (5 * r3)) - (M3 A (a2 + 1).toNatClampNeg)), .int a4, .int (a5 + 1), .null], [], M4) Q) ∧ (¬ r4 = 0 → Q (some (.int (((M3 A (M3 20 a5.toNatClampNeg).toNatClampNeg) + (5 * r3)) - (M3 A (a2 + 1).toNatClampNeg)))) M4)))))) ∧ (r1 = 0 → jRun X T0 (d + 1) q_X1_farServed (30, [.ref L, .ref S, .int a2, .int a3, .int a4, .int (a5 + 1), .null], [], M1) Q)))))) : jRun X T0 (d + 1) q_X1_farServed (30, [.ref L, .ref S, .int a2, .int a3, .int a4, .int a5, .null], [], M) Q := by
  rcases hv with ⟨rfl, rfl, rfl, rfl⟩ | ⟨rfl, rfl, rfl, rfl⟩ | ⟨rfl, rfl, rfl, rfl⟩ | ⟨rfl, rfl, rfl, rfl⟩
  · refine jRun.cut (k := jk_X1_farServed) rfl 5 (c' := (if (M 12 12) ≤ a5 then 120 else 42, [.ref 42, .ref 22, .int a2, .int a3, .int a4, .int a5, .null], [], M)) (ob := True ∧ True ∧ jKd T0 42 = 1 ∧ jKd T0 12 = 3 ∧ True ∧ True) rfl ⟨trivial, trivial, rfl, rfl, trivial, trivial⟩ ?_
    refine jRun.br (fun g => ?_) (fun g => ?_)
    · have h := h.1 g
      exact jRun.ret (k := jk_X1_farServed) rfl 2 (v := some (.int (-1000000))) (M1 := M) (ob := True ∧ True) rfl ⟨trivial, trivial⟩ h
    · have h := h.2 g
      refine jRun.call (k := jk_X1_farServed) rfl 4 (f := q_X5_hasIsland) (As := [.ref 22, .int a5, .int a4]) (c1 := (50, [.ref 42, .ref 22, .int a2, .int a3, .int a4, .int a5, .null], [], M)) (ob := True ∧ True ∧ True ∧ jKd T0 22 = 5) rfl ⟨trivial, trivial, trivial, rfl⟩ h (fun v M1 h => ?_)
      obtain ⟨r1, rfl, h⟩ := h
      show jRun X T0 (d + 1) q_X1_farServed (50, [.ref 42, .ref 22, .int a2, .int a3, .int a4, .int a5, .null], [.int r1], M1) Q
      refine jRun.cut (k := jk_X1_farServed) rfl 1 (c' := (if ¬ r1 = 0 then 56 else 53, [.ref 42, .ref 22, .int a2, .int a3, .int a4, .int a5, .null], [], M1)) (ob := True ∧ True) rfl ⟨trivial, trivial⟩ ?_
      refine jRun.brn (fun g => ?_) (fun g => ?_)
      · have h := h.1 g
        refine jRun.call (k := jk_X1_farServed) rfl 3 (f := q_X5_labelsIn) (As := [.ref 22, .int a5]) (c1 := (62, [.ref 42, .ref 22, .int a2, .int a3, .int a4, .int a5, .null], [], M1)) (ob := True ∧ True ∧ jKd T0 22 = 5) rfl ⟨trivial, trivial, rfl⟩ h (fun v M2 h => ?_)
        obtain ⟨r2, rfl, h⟩ := h
        show jRun X T0 (d + 1) q_X1_farServed (62, [.ref 42, .ref 22, .int a2, .int a3, .int a4, .int a5, .null], [.int r2], M2) Q
        refine jRun.call (k := jk_X1_farServed) rfl 7 (f := q_J6_bitCount_0f7a4) (As := [.int (r2 &&& ((1 <<< (a4 &&& 31)) - 1))]) (c1 := (72, [.ref 42, .ref 22, .int a2, .int a3, .int a4, .int a5, .null], [], M2)) (ob := True ∧ True ∧ True ∧ True ∧ True ∧ True ∧ True) rfl ⟨trivial, trivial, trivial, trivial, trivial, trivial, trivial⟩ h (fun v M3 h => ?_)
        obtain ⟨r3, rfl, h⟩ := h
        show jRun X T0 (d + 1) q_X1_farServed (72, [.ref 42, .ref 22, .int a2, .int a3, .int a4, .int a5, .null], [.int r3], M3) Q
        obtain ⟨o1, o2, o3, h⟩ := h
        refine jRun.call (k := jk_X1_farServed) rfl 24 (f := q_X5_reaches) (As := [.ref 22, .int (((M3 43 (M3 20 a5.toNatClampNeg).toNatClampNeg) + (5 * r3)) - (M3 43 (a2 + 1).toNatClampNeg))]) (c1 := (109, [.ref 42, .ref 22, .int a2, .int (((M3 43 (M3 20 a5.toNatClampNeg).toNatClampNeg) + (5 * r3)) - (M3 43 (a2 + 1).toNatClampNeg)), .int a4, .int a5, .int r3], [], M3)) (ob := True ∧ True ∧ jKd T0 42 = 1 ∧ True ∧ jKd T0 42 = 1 ∧ jKd T0 12 = 3 ∧ True ∧ (jKd T0 20 = 9 ∧ vp_in a5 3) ∧ (jKd T0 43 = 9 ∧ vp_in (M3 20 a5.toNatClampNeg) 33) ∧ True ∧ True ∧ True ∧ True ∧ True ∧ jKd T0 42 = 1 ∧ True ∧ True ∧ True ∧ (jKd T0 43 = 9 ∧ vp_in (a2 + 1) 33) ∧ True ∧ True ∧ True ∧ True ∧ jKd T0 22 = 5) rfl ⟨trivial, trivial, rfl, trivial, rfl, rfl, trivial, ⟨rfl, o1⟩, ⟨rfl, o2⟩, trivial, trivial, trivial, trivial, trivial, rfl, trivial, trivial, trivial, ⟨rfl, o3⟩, trivial, trivial, trivial, trivial, rfl⟩ h (fun v M4 h => ?_)
        obtain ⟨r4, rfl, h⟩ := h
        show jRun X T0 (d + 1) q_X1_farServed (109, [.ref 42, .ref 22, .int a2, .int (((M3 43 (M3 20 a5.toNatClampNeg).toNatClampNeg) + (5 * r3)) - (M3 43 (a2 + 1).toNatClampNeg)), .int a4, .int a5, .int r3], [.int r4], M4) Q
        refine jRun.cut (k := jk_X1_farServed) rfl 1 (c' := (if r4 = 0 then 114 else 112, [.ref 42, .ref 22, .int a2, .int (((M3 43 (M3 20 a5.toNatClampNeg).toNatClampNeg) + (5 * r3)) - (M3 43 (a2 + 1).toNatClampNeg)), .int a4, .int a5, .int r3], [], M4)) (ob := True ∧ True) rfl ⟨trivial, trivial⟩ ?_
        refine jRun.br (fun g => ?_) (fun g => ?_)
        · have h := h.1 g
          refine jRun.cut (k := jk_X1_farServed) rfl 2 (c' := (30, [.ref 42, .ref 22, .int a2, .int (((M3 43 (M3 20 a5.toNatClampNeg).toNatClampNeg) + (5 * r3)) - (M3 43 (a2 + 1).toNatClampNeg)), .int a4, .int (a5 + 1), .int r3], [], M4)) (ob := True ∧ True ∧ True) rfl ⟨trivial, trivial, trivial⟩ ?_
          exact jRun.weak (by simp [jFew]) h
        · have h := h.2 g
          exact jRun.ret (k := jk_X1_farServed) rfl 2 (v := some (.int (((M3 43 (M3 20 a5.toNatClampNeg).toNatClampNeg) + (5 * r3)) - (M3 43 (a2 + 1).toNatClampNeg)))) (M1 := M4) (ob := True ∧ True) rfl ⟨trivial, trivial⟩ h
      · have h := h.2 g
        refine jRun.cut (k := jk_X1_farServed) rfl 3 (c' := (30, [.ref 42, .ref 22, .int a2, .int a3, .int a4, .int (a5 + 1), .null], [], M1)) (ob := True ∧ True ∧ True ∧ True) rfl ⟨trivial, trivial, trivial, trivial⟩ ?_
        exact h
  · refine jRun.cut (k := jk_X1_farServed) rfl 5 (c' := (if (M 12 12) ≤ a5 then 120 else 42, [.ref 44, .ref 22, .int a2, .int a3, .int a4, .int a5, .null], [], M)) (ob := True ∧ True ∧ jKd T0 44 = 1 ∧ jKd T0 12 = 3 ∧ True ∧ True) rfl ⟨trivial, trivial, rfl, rfl, trivial, trivial⟩ ?_
    refine jRun.br (fun g => ?_) (fun g => ?_)
    · have h := h.1 g
      exact jRun.ret (k := jk_X1_farServed) rfl 2 (v := some (.int (-1000000))) (M1 := M) (ob := True ∧ True) rfl ⟨trivial, trivial⟩ h
    · have h := h.2 g
      refine jRun.call (k := jk_X1_farServed) rfl 4 (f := q_X5_hasIsland) (As := [.ref 22, .int a5, .int a4]) (c1 := (50, [.ref 44, .ref 22, .int a2, .int a3, .int a4, .int a5, .null], [], M)) (ob := True ∧ True ∧ True ∧ jKd T0 22 = 5) rfl ⟨trivial, trivial, trivial, rfl⟩ h (fun v M1 h => ?_)
      obtain ⟨r1, rfl, h⟩ := h
      show jRun X T0 (d + 1) q_X1_farServed (50, [.ref 44, .ref 22, .int a2, .int a3, .int a4, .int a5, .null], [.int r1], M1) Q
      refine jRun.cut (k := jk_X1_farServed) rfl 1 (c' := (if ¬ r1 = 0 then 56 else 53, [.ref 44, .ref 22, .int a2, .int a3, .int a4, .int a5, .null], [], M1)) (ob := True ∧ True) rfl ⟨trivial, trivial⟩ ?_
      refine jRun.brn (fun g => ?_) (fun g => ?_)
      · have h := h.1 g
        refine jRun.call (k := jk_X1_farServed) rfl 3 (f := q_X5_labelsIn) (As := [.ref 22, .int a5]) (c1 := (62, [.ref 44, .ref 22, .int a2, .int a3, .int a4, .int a5, .null], [], M1)) (ob := True ∧ True ∧ jKd T0 22 = 5) rfl ⟨trivial, trivial, rfl⟩ h (fun v M2 h => ?_)
        obtain ⟨r2, rfl, h⟩ := h
        show jRun X T0 (d + 1) q_X1_farServed (62, [.ref 44, .ref 22, .int a2, .int a3, .int a4, .int a5, .null], [.int r2], M2) Q
        refine jRun.call (k := jk_X1_farServed) rfl 7 (f := q_J6_bitCount_0f7a4) (As := [.int (r2 &&& ((1 <<< (a4 &&& 31)) - 1))]) (c1 := (72, [.ref 44, .ref 22, .int a2, .int a3, .int a4, .int a5, .null], [], M2)) (ob := True ∧ True ∧ True ∧ True ∧ True ∧ True ∧ True) rfl ⟨trivial, trivial, trivial, trivial, trivial, trivial, trivial⟩ h (fun v M3 h => ?_)
        obtain ⟨r3, rfl, h⟩ := h
        show jRun X T0 (d + 1) q_X1_farServed (72, [.ref 44, .ref 22, .int a2, .int a3, .int a4, .int a5, .null], [.int r3], M3) Q
        obtain ⟨o1, o2, o3, h⟩ := h
        refine jRun.call (k := jk_X1_farServed) rfl 24 (f := q_X5_reaches) (As := [.ref 22, .int (((M3 45 (M3 20 a5.toNatClampNeg).toNatClampNeg) + (5 * r3)) - (M3 45 (a2 + 1).toNatClampNeg))]) (c1 := (109, [.ref 44, .ref 22, .int a2, .int (((M3 45 (M3 20 a5.toNatClampNeg).toNatClampNeg) + (5 * r3)) - (M3 45 (a2 + 1).toNatClampNeg)), .int a4, .int a5, .int r3], [], M3)) (ob := True ∧ True ∧ jKd T0 44 = 1 ∧ True ∧ jKd T0 44 = 1 ∧ jKd T0 12 = 3 ∧ True ∧ (jKd T0 20 = 9 ∧ vp_in a5 3) ∧ (jKd T0 45 = 9 ∧ vp_in (M3 20 a5.toNatClampNeg) 33) ∧ True ∧ True ∧ True ∧ True ∧ True ∧ jKd T0 44 = 1 ∧ True ∧ True ∧ True ∧ (jKd T0 45 = 9 ∧ vp_in (a2 + 1) 33) ∧ True ∧ True ∧ True ∧ True ∧ jKd T0 22 = 5) rfl ⟨trivial, trivial, rfl, trivial, rfl, rfl, trivial, ⟨rfl, o1⟩, ⟨rfl, o2⟩, trivial, trivial, trivial, trivial, trivial, rfl, trivial, trivial, trivial, ⟨rfl, o3⟩, trivial, trivial, trivial, trivial, rfl⟩ h (fun v M4 h => ?_)
        obtain ⟨r4, rfl, h⟩ := h
        show jRun X T0 (d + 1) q_X1_farServed (109, [.ref 44, .ref 22, .int a2, .int (((M3 45 (M3 20 a5.toNatClampNeg).toNatClampNeg) + (5 * r3)) - (M3 45 (a2 + 1).toNatClampNeg)), .int a4, .int a5, .int r3], [.int r4], M4) Q
        refine jRun.cut (k := jk_X1_farServed) rfl 1 (c' := (if r4 = 0 then 114 else 112, [.ref 44, .ref 22, .int a2, .int (((M3 45 (M3 20 a5.toNatClampNeg).toNatClampNeg) + (5 * r3)) - (M3 45 (a2 + 1).toNatClampNeg)), .int a4, .int a5, .int r3], [], M4)) (ob := True ∧ True) rfl ⟨trivial, trivial⟩ ?_
        refine jRun.br (fun g => ?_) (fun g => ?_)
        · have h := h.1 g
          refine jRun.cut (k := jk_X1_farServed) rfl 2 (c' := (30, [.ref 44, .ref 22, .int a2, .int (((M3 45 (M3 20 a5.toNatClampNeg).toNatClampNeg) + (5 * r3)) - (M3 45 (a2 + 1).toNatClampNeg)), .int a4, .int (a5 + 1), .int r3], [], M4)) (ob := True ∧ True ∧ True) rfl ⟨trivial, trivial, trivial⟩ ?_
          exact jRun.weak (by simp [jFew]) h
        · have h := h.2 g
          exact jRun.ret (k := jk_X1_farServed) rfl 2 (v := some (.int (((M3 45 (M3 20 a5.toNatClampNeg).toNatClampNeg) + (5 * r3)) - (M3 45 (a2 + 1).toNatClampNeg)))) (M1 := M4) (ob := True ∧ True) rfl ⟨trivial, trivial⟩ h
      · have h := h.2 g
        refine jRun.cut (k := jk_X1_farServed) rfl 3 (c' := (30, [.ref 44, .ref 22, .int a2, .int a3, .int a4, .int (a5 + 1), .null], [], M1)) (ob := True ∧ True ∧ True ∧ True) rfl ⟨trivial, trivial, trivial, trivial⟩ ?_
        exact h
  · refine jRun.cut (k := jk_X1_farServed) rfl 5 (c' := (if (M 12 12) ≤ a5 then 120 else 42, [.ref 46, .ref 22, .int a2, .int a3, .int a4, .int a5, .null], [], M)) (ob := True ∧ True ∧ jKd T0 46 = 1 ∧ jKd T0 12 = 3 ∧ True ∧ True) rfl ⟨trivial, trivial, rfl, rfl, trivial, trivial⟩ ?_
    refine jRun.br (fun g => ?_) (fun g => ?_)
    · have h := h.1 g
      exact jRun.ret (k := jk_X1_farServed) rfl 2 (v := some (.int (-1000000))) (M1 := M) (ob := True ∧ True) rfl ⟨trivial, trivial⟩ h
    · have h := h.2 g
      refine jRun.call (k := jk_X1_farServed) rfl 4 (f := q_X5_hasIsland) (As := [.ref 22, .int a5, .int a4]) (c1 := (50, [.ref 46, .ref 22, .int a2, .int a3, .int a4, .int a5, .null], [], M)) (ob := True ∧ True ∧ True ∧ jKd T0 22 = 5) rfl ⟨trivial, trivial, trivial, rfl⟩ h (fun v M1 h => ?_)
      obtain ⟨r1, rfl, h⟩ := h
      show jRun X T0 (d + 1) q_X1_farServed (50, [.ref 46, .ref 22, .int a2, .int a3, .int a4, .int a5, .null], [.int r1], M1) Q
      refine jRun.cut (k := jk_X1_farServed) rfl 1 (c' := (if ¬ r1 = 0 then 56 else 53, [.ref 46, .ref 22, .int a2, .int a3, .int a4, .int a5, .null], [], M1)) (ob := True ∧ True) rfl ⟨trivial, trivial⟩ ?_
      refine jRun.brn (fun g => ?_) (fun g => ?_)
      · have h := h.1 g
        refine jRun.call (k := jk_X1_farServed) rfl 3 (f := q_X5_labelsIn) (As := [.ref 22, .int a5]) (c1 := (62, [.ref 46, .ref 22, .int a2, .int a3, .int a4, .int a5, .null], [], M1)) (ob := True ∧ True ∧ jKd T0 22 = 5) rfl ⟨trivial, trivial, rfl⟩ h (fun v M2 h => ?_)
        obtain ⟨r2, rfl, h⟩ := h
        show jRun X T0 (d + 1) q_X1_farServed (62, [.ref 46, .ref 22, .int a2, .int a3, .int a4, .int a5, .null], [.int r2], M2) Q
        refine jRun.call (k := jk_X1_farServed) rfl 7 (f := q_J6_bitCount_0f7a4) (As := [.int (r2 &&& ((1 <<< (a4 &&& 31)) - 1))]) (c1 := (72, [.ref 46, .ref 22, .int a2, .int a3, .int a4, .int a5, .null], [], M2)) (ob := True ∧ True ∧ True ∧ True ∧ True ∧ True ∧ True) rfl ⟨trivial, trivial, trivial, trivial, trivial, trivial, trivial⟩ h (fun v M3 h => ?_)
        obtain ⟨r3, rfl, h⟩ := h
        show jRun X T0 (d + 1) q_X1_farServed (72, [.ref 46, .ref 22, .int a2, .int a3, .int a4, .int a5, .null], [.int r3], M3) Q
        obtain ⟨o1, o2, o3, h⟩ := h
        refine jRun.call (k := jk_X1_farServed) rfl 24 (f := q_X5_reaches) (As := [.ref 22, .int (((M3 47 (M3 20 a5.toNatClampNeg).toNatClampNeg) + (5 * r3)) - (M3 47 (a2 + 1).toNatClampNeg))]) (c1 := (109, [.ref 46, .ref 22, .int a2, .int (((M3 47 (M3 20 a5.toNatClampNeg).toNatClampNeg) + (5 * r3)) - (M3 47 (a2 + 1).toNatClampNeg)), .int a4, .int a5, .int r3], [], M3)) (ob := True ∧ True ∧ jKd T0 46 = 1 ∧ True ∧ jKd T0 46 = 1 ∧ jKd T0 12 = 3 ∧ True ∧ (jKd T0 20 = 9 ∧ vp_in a5 3) ∧ (jKd T0 47 = 9 ∧ vp_in (M3 20 a5.toNatClampNeg) 33) ∧ True ∧ True ∧ True ∧ True ∧ True ∧ jKd T0 46 = 1 ∧ True ∧ True ∧ True ∧ (jKd T0 47 = 9 ∧ vp_in (a2 + 1) 33) ∧ True ∧ True ∧ True ∧ True ∧ jKd T0 22 = 5) rfl ⟨trivial, trivial, rfl, trivial, rfl, rfl, trivial, ⟨rfl, o1⟩, ⟨rfl, o2⟩, trivial, trivial, trivial, trivial, trivial, rfl, trivial, trivial, trivial, ⟨rfl, o3⟩, trivial, trivial, trivial, trivial, rfl⟩ h (fun v M4 h => ?_)
        obtain ⟨r4, rfl, h⟩ := h
        show jRun X T0 (d + 1) q_X1_farServed (109, [.ref 46, .ref 22, .int a2, .int (((M3 47 (M3 20 a5.toNatClampNeg).toNatClampNeg) + (5 * r3)) - (M3 47 (a2 + 1).toNatClampNeg)), .int a4, .int a5, .int r3], [.int r4], M4) Q
        refine jRun.cut (k := jk_X1_farServed) rfl 1 (c' := (if r4 = 0 then 114 else 112, [.ref 46, .ref 22, .int a2, .int (((M3 47 (M3 20 a5.toNatClampNeg).toNatClampNeg) + (5 * r3)) - (M3 47 (a2 + 1).toNatClampNeg)), .int a4, .int a5, .int r3], [], M4)) (ob := True ∧ True) rfl ⟨trivial, trivial⟩ ?_
        refine jRun.br (fun g => ?_) (fun g => ?_)
        · have h := h.1 g
          refine jRun.cut (k := jk_X1_farServed) rfl 2 (c' := (30, [.ref 46, .ref 22, .int a2, .int (((M3 47 (M3 20 a5.toNatClampNeg).toNatClampNeg) + (5 * r3)) - (M3 47 (a2 + 1).toNatClampNeg)), .int a4, .int (a5 + 1), .int r3], [], M4)) (ob := True ∧ True ∧ True) rfl ⟨trivial, trivial, trivial⟩ ?_
          exact jRun.weak (by simp [jFew]) h
        · have h := h.2 g
          exact jRun.ret (k := jk_X1_farServed) rfl 2 (v := some (.int (((M3 47 (M3 20 a5.toNatClampNeg).toNatClampNeg) + (5 * r3)) - (M3 47 (a2 + 1).toNatClampNeg)))) (M1 := M4) (ob := True ∧ True) rfl ⟨trivial, trivial⟩ h
      · have h := h.2 g
        refine jRun.cut (k := jk_X1_farServed) rfl 3 (c' := (30, [.ref 46, .ref 22, .int a2, .int a3, .int a4, .int (a5 + 1), .null], [], M1)) (ob := True ∧ True ∧ True ∧ True) rfl ⟨trivial, trivial, trivial, trivial⟩ ?_
        exact h
  · refine jRun.cut (k := jk_X1_farServed) rfl 5 (c' := (if (M 12 12) ≤ a5 then 120 else 42, [.ref 51, .ref 49, .int a2, .int a3, .int a4, .int a5, .null], [], M)) (ob := True ∧ True ∧ jKd T0 51 = 1 ∧ jKd T0 12 = 3 ∧ True ∧ True) rfl ⟨trivial, trivial, rfl, rfl, trivial, trivial⟩ ?_
    refine jRun.br (fun g => ?_) (fun g => ?_)
    · have h := h.1 g
      exact jRun.ret (k := jk_X1_farServed) rfl 2 (v := some (.int (-1000000))) (M1 := M) (ob := True ∧ True) rfl ⟨trivial, trivial⟩ h
    · have h := h.2 g
      refine jRun.call (k := jk_X1_farServed) rfl 4 (f := q_X5_hasIsland) (As := [.ref 49, .int a5, .int a4]) (c1 := (50, [.ref 51, .ref 49, .int a2, .int a3, .int a4, .int a5, .null], [], M)) (ob := True ∧ True ∧ True ∧ jKd T0 49 = 5) rfl ⟨trivial, trivial, trivial, rfl⟩ h (fun v M1 h => ?_)
      obtain ⟨r1, rfl, h⟩ := h
      show jRun X T0 (d + 1) q_X1_farServed (50, [.ref 51, .ref 49, .int a2, .int a3, .int a4, .int a5, .null], [.int r1], M1) Q
      refine jRun.cut (k := jk_X1_farServed) rfl 1 (c' := (if ¬ r1 = 0 then 56 else 53, [.ref 51, .ref 49, .int a2, .int a3, .int a4, .int a5, .null], [], M1)) (ob := True ∧ True) rfl ⟨trivial, trivial⟩ ?_
      refine jRun.brn (fun g => ?_) (fun g => ?_)
      · have h := h.1 g
        refine jRun.call (k := jk_X1_farServed) rfl 3 (f := q_X5_labelsIn) (As := [.ref 49, .int a5]) (c1 := (62, [.ref 51, .ref 49, .int a2, .int a3, .int a4, .int a5, .null], [], M1)) (ob := True ∧ True ∧ jKd T0 49 = 5) rfl ⟨trivial, trivial, rfl⟩ h (fun v M2 h => ?_)
        obtain ⟨r2, rfl, h⟩ := h
        show jRun X T0 (d + 1) q_X1_farServed (62, [.ref 51, .ref 49, .int a2, .int a3, .int a4, .int a5, .null], [.int r2], M2) Q
        refine jRun.call (k := jk_X1_farServed) rfl 7 (f := q_J6_bitCount_0f7a4) (As := [.int (r2 &&& ((1 <<< (a4 &&& 31)) - 1))]) (c1 := (72, [.ref 51, .ref 49, .int a2, .int a3, .int a4, .int a5, .null], [], M2)) (ob := True ∧ True ∧ True ∧ True ∧ True ∧ True ∧ True) rfl ⟨trivial, trivial, trivial, trivial, trivial, trivial, trivial⟩ h (fun v M3 h => ?_)
        obtain ⟨r3, rfl, h⟩ := h
        show jRun X T0 (d + 1) q_X1_farServed (72, [.ref 51, .ref 49, .int a2, .int a3, .int a4, .int a5, .null], [.int r3], M3) Q
        obtain ⟨o1, o2, o3, h⟩ := h
        refine jRun.call (k := jk_X1_farServed) rfl 24 (f := q_X5_reaches) (As := [.ref 49, .int (((M3 52 (M3 20 a5.toNatClampNeg).toNatClampNeg) + (5 * r3)) - (M3 52 (a2 + 1).toNatClampNeg))]) (c1 := (109, [.ref 51, .ref 49, .int a2, .int (((M3 52 (M3 20 a5.toNatClampNeg).toNatClampNeg) + (5 * r3)) - (M3 52 (a2 + 1).toNatClampNeg)), .int a4, .int a5, .int r3], [], M3)) (ob := True ∧ True ∧ jKd T0 51 = 1 ∧ True ∧ jKd T0 51 = 1 ∧ jKd T0 12 = 3 ∧ True ∧ (jKd T0 20 = 9 ∧ vp_in a5 3) ∧ (jKd T0 52 = 9 ∧ vp_in (M3 20 a5.toNatClampNeg) 33) ∧ True ∧ True ∧ True ∧ True ∧ True ∧ jKd T0 51 = 1 ∧ True ∧ True ∧ True ∧ (jKd T0 52 = 9 ∧ vp_in (a2 + 1) 33) ∧ True ∧ True ∧ True ∧ True ∧ jKd T0 49 = 5) rfl ⟨trivial, trivial, rfl, trivial, rfl, rfl, trivial, ⟨rfl, o1⟩, ⟨rfl, o2⟩, trivial, trivial, trivial, trivial, trivial, rfl, trivial, trivial, trivial, ⟨rfl, o3⟩, trivial, trivial, trivial, trivial, rfl⟩ h (fun v M4 h => ?_)
        obtain ⟨r4, rfl, h⟩ := h
        show jRun X T0 (d + 1) q_X1_farServed (109, [.ref 51, .ref 49, .int a2, .int (((M3 52 (M3 20 a5.toNatClampNeg).toNatClampNeg) + (5 * r3)) - (M3 52 (a2 + 1).toNatClampNeg)), .int a4, .int a5, .int r3], [.int r4], M4) Q
        refine jRun.cut (k := jk_X1_farServed) rfl 1 (c' := (if r4 = 0 then 114 else 112, [.ref 51, .ref 49, .int a2, .int (((M3 52 (M3 20 a5.toNatClampNeg).toNatClampNeg) + (5 * r3)) - (M3 52 (a2 + 1).toNatClampNeg)), .int a4, .int a5, .int r3], [], M4)) (ob := True ∧ True) rfl ⟨trivial, trivial⟩ ?_
        refine jRun.br (fun g => ?_) (fun g => ?_)
        · have h := h.1 g
          refine jRun.cut (k := jk_X1_farServed) rfl 2 (c' := (30, [.ref 51, .ref 49, .int a2, .int (((M3 52 (M3 20 a5.toNatClampNeg).toNatClampNeg) + (5 * r3)) - (M3 52 (a2 + 1).toNatClampNeg)), .int a4, .int (a5 + 1), .int r3], [], M4)) (ob := True ∧ True ∧ True) rfl ⟨trivial, trivial, trivial⟩ ?_
          exact jRun.weak (by simp [jFew]) h
        · have h := h.2 g
          exact jRun.ret (k := jk_X1_farServed) rfl 2 (v := some (.int (((M3 52 (M3 20 a5.toNatClampNeg).toNatClampNeg) + (5 * r3)) - (M3 52 (a2 + 1).toNatClampNeg)))) (M1 := M4) (ob := True ∧ True) rfl ⟨trivial, trivial⟩ h
      · have h := h.2 g
        refine jRun.cut (k := jk_X1_farServed) rfl 3 (c' := (30, [.ref 51, .ref 49, .int a2, .int a3, .int a4, .int (a5 + 1), .null], [], M1)) (ob := True ∧ True ∧ True ∧ True) rfl ⟨trivial, trivial, trivial, trivial⟩ ?_
        exact h
theorem v_X1_farOfIsland {X : jX} {d : Nat} (hI : jInj X T0) {L A S Z : Nat} (hv : jLS L A S Z) (a2 : Int32) (a3 : Int32) (M : jMem) (Q : Option Value → jMem → Prop) (h : vp_in a2 32 ∧ jOk X T0 d q_X5_labelsIn [.ref S, .int (M 15 a2.toNatClampNeg)] M (fun v M1 => ∃ r1, v = some (.int r1) ∧ jRun X T0 (d + 1) q_X1_farOfIsland (21, [.ref L, .ref S, .int a2, .int a3, .int r1, .int 0, .int 0], [], M1) Q)) : jOk X T0 (d + 1) q_X1_farOfIsland [.ref L, .ref S, .int a2, .int a3] M Q := by
  rcases hv with ⟨rfl, rfl, rfl, rfl⟩ | ⟨rfl, rfl, rfl, rfl⟩ | ⟨rfl, rfl, rfl, rfl⟩ | ⟨rfl, rfl, rfl, rfl⟩
  · refine jOk.intro (ml := 7) (ls := [.ref 42, .ref 22, .int a2, .int a3, .null, .null, .null]) (jTl (by decide)) rfl (Nat.le_of_ble_eq_true rfl) rfl hI ?_
    obtain ⟨o1, h⟩ := h
    refine jRun.call (k := jk_X1_farOfIsland) rfl 7 (f := q_X5_labelsIn) (As := [.ref 22, .int (M 15 a2.toNatClampNeg)]) (c1 := (13, [.ref 42, .ref 22, .int a2, .int a3, .null, .null, .null], [], M)) (ob := True ∧ True ∧ jKd T0 42 = 1 ∧ jKd T0 12 = 3 ∧ True ∧ (jKd T0 15 = 9 ∧ vp_in a2 32) ∧ jKd T0 22 = 5) rfl ⟨trivial, trivial, rfl, rfl, trivial, ⟨rfl, o1⟩, rfl⟩ h (fun v M1 h => ?_)
    obtain ⟨r1, rfl, h⟩ := h
    show jRun X T0 (d + 1) q_X1_farOfIsland (13, [.ref 42, .ref 22, .int a2, .int a3, .null, .null, .null], [.int r1], M1) Q
    refine jRun.cut (k := jk_X1_farOfIsland) rfl 5 (c' := (21, [.ref 42, .ref 22, .int a2, .int a3, .int r1, .int 0, .int 0], [], M1)) (ob := True ∧ True ∧ True ∧ True ∧ True ∧ True) rfl ⟨trivial, trivial, trivial, trivial, trivial, trivial⟩ ?_
    exact h
  · refine jOk.intro (ml := 7) (ls := [.ref 44, .ref 22, .int a2, .int a3, .null, .null, .null]) (jTl (by decide)) rfl (Nat.le_of_ble_eq_true rfl) rfl hI ?_
    obtain ⟨o1, h⟩ := h
    refine jRun.call (k := jk_X1_farOfIsland) rfl 7 (f := q_X5_labelsIn) (As := [.ref 22, .int (M 15 a2.toNatClampNeg)]) (c1 := (13, [.ref 44, .ref 22, .int a2, .int a3, .null, .null, .null], [], M)) (ob := True ∧ True ∧ jKd T0 44 = 1 ∧ jKd T0 12 = 3 ∧ True ∧ (jKd T0 15 = 9 ∧ vp_in a2 32) ∧ jKd T0 22 = 5) rfl ⟨trivial, trivial, rfl, rfl, trivial, ⟨rfl, o1⟩, rfl⟩ h (fun v M1 h => ?_)
    obtain ⟨r1, rfl, h⟩ := h
    show jRun X T0 (d + 1) q_X1_farOfIsland (13, [.ref 44, .ref 22, .int a2, .int a3, .null, .null, .null], [.int r1], M1) Q
    refine jRun.cut (k := jk_X1_farOfIsland) rfl 5 (c' := (21, [.ref 44, .ref 22, .int a2, .int a3, .int r1, .int 0, .int 0], [], M1)) (ob := True ∧ True ∧ True ∧ True ∧ True ∧ True) rfl ⟨trivial, trivial, trivial, trivial, trivial, trivial⟩ ?_
    exact h
  · refine jOk.intro (ml := 7) (ls := [.ref 46, .ref 22, .int a2, .int a3, .null, .null, .null]) (jTl (by decide)) rfl (Nat.le_of_ble_eq_true rfl) rfl hI ?_
    obtain ⟨o1, h⟩ := h
    refine jRun.call (k := jk_X1_farOfIsland) rfl 7 (f := q_X5_labelsIn) (As := [.ref 22, .int (M 15 a2.toNatClampNeg)]) (c1 := (13, [.ref 46, .ref 22, .int a2, .int a3, .null, .null, .null], [], M)) (ob := True ∧ True ∧ jKd T0 46 = 1 ∧ jKd T0 12 = 3 ∧ True ∧ (jKd T0 15 = 9 ∧ vp_in a2 32) ∧ jKd T0 22 = 5) rfl ⟨trivial, trivial, rfl, rfl, trivial, ⟨rfl, o1⟩, rfl⟩ h (fun v M1 h => ?_)
    obtain ⟨r1, rfl, h⟩ := h
    show jRun X T0 (d + 1) q_X1_farOfIsland (13, [.ref 46, .ref 22, .int a2, .int a3, .null, .null, .null], [.int r1], M1) Q
    refine jRun.cut (k := jk_X1_farOfIsland) rfl 5 (c' := (21, [.ref 46, .ref 22, .int a2, .int a3, .int r1, .int 0, .int 0], [], M1)) (ob := True ∧ True ∧ True ∧ True ∧ True ∧ True) rfl ⟨trivial, trivial, trivial, trivial, trivial, trivial⟩ ?_
    exact h
  · refine jOk.intro (ml := 7) (ls := [.ref 51, .ref 49, .int a2, .int a3, .null, .null, .null]) (jTl (by decide)) rfl (Nat.le_of_ble_eq_true rfl) rfl hI ?_
    obtain ⟨o1, h⟩ := h
    refine jRun.call (k := jk_X1_farOfIsland) rfl 7 (f := q_X5_labelsIn) (As := [.ref 49, .int (M 15 a2.toNatClampNeg)]) (c1 := (13, [.ref 51, .ref 49, .int a2, .int a3, .null, .null, .null], [], M)) (ob := True ∧ True ∧ jKd T0 51 = 1 ∧ jKd T0 12 = 3 ∧ True ∧ (jKd T0 15 = 9 ∧ vp_in a2 32) ∧ jKd T0 49 = 5) rfl ⟨trivial, trivial, rfl, rfl, trivial, ⟨rfl, o1⟩, rfl⟩ h (fun v M1 h => ?_)
    obtain ⟨r1, rfl, h⟩ := h
    show jRun X T0 (d + 1) q_X1_farOfIsland (13, [.ref 51, .ref 49, .int a2, .int a3, .null, .null, .null], [.int r1], M1) Q
    refine jRun.cut (k := jk_X1_farOfIsland) rfl 5 (c' := (21, [.ref 51, .ref 49, .int a2, .int a3, .int r1, .int 0, .int 0], [], M1)) (ob := True ∧ True ∧ True ∧ True ∧ True ∧ True) rfl ⟨trivial, trivial, trivial, trivial, trivial, trivial⟩ ?_
    exact h
theorem v_X1_farOfIsland_21 {X : jX} {d : Nat} {L A S Z : Nat} (hv : jLS L A S Z) (a2 : Int32) (a3 : Int32) (a4 : Int32) (a5 : Int32) (a6 : Int32) (M : jMem) (Q : Option Value → jMem → Prop) (h : ((8 ≤ a6 → Q (some (.int 0)) M) ∧ (¬ 8 ≤ a6 → ((¬ ((a4 >>> (a6 &&& 31)) &&& 1) = 0 → ((¬ a5 = a3 → jRun X T0 (d + 1) q_X1_farOfIsland (21, [.ref L, .ref S, .int a2, .int a3, .int a4, .int (a5 + 1), .int (a6 + 1)], [], M) Q) ∧ (a5 = a3 → jOk X T0 d q_X3_hasLabel [.ref 12, .int a6] M (fun v M1 => ∃ r1, v = some (.int r1) ∧ ((r1 = 0 → jRun X T0 (d + 1) q_X1_farOfIsland (21, [.ref L, .ref S, .int a2, .int a3, .int a4, .int (a5 + 1), .int (a6 + 1)], [], M1) Q) ∧ (¬ r1 = 0 → vp_in a6 8 ∧ vp_in (M1 17 a6.toNatClampNeg) 33 ∧ vp_in a2 33 ∧ Q (some (.int (((M1 A (M1 17 a6.toNatClampNeg).toNatClampNeg) - (M1 A a2.toNatClampNeg)) - (5 * (a3 + 1))))) M1)))))) ∧ (((a4 >>> (a6 &&& 31)) &&& 1) = 0 → jRun X T0 (d + 1) q_X1_farOfIsland (21, [.ref L, .ref S, .int a2, .int a3, .int a4, .int a5, .int (a6 + 1)], [], M) Q))))) : jRun X T0 (d + 1) q_X1_farOfIsland (21, [.ref L, .ref S, .int a2, .int a3, .int a4, .int a5, .int a6], [], M) Q := by
  rcases hv with ⟨rfl, rfl, rfl, rfl⟩ | ⟨rfl, rfl, rfl, rfl⟩ | ⟨rfl, rfl, rfl, rfl⟩ | ⟨rfl, rfl, rfl, rfl⟩
  · refine jRun.cut (k := jk_X1_farOfIsland) rfl 3 (c' := (if 8 ≤ a6 then 97 else 28, [.ref 42, .ref 22, .int a2, .int a3, .int a4, .int a5, .int a6], [], M)) (ob := True ∧ True ∧ True ∧ True) rfl ⟨trivial, trivial, trivial, trivial⟩ ?_
    refine jRun.br (fun g => ?_) (fun g => ?_)
    · have h := h.1 g
      exact jRun.ret (k := jk_X1_farOfIsland) rfl 2 (v := some (.int 0)) (M1 := M) (ob := True ∧ True) rfl ⟨trivial, trivial⟩ h
    · have h := h.2 g
      refine jRun.cut (k := jk_X1_farOfIsland) rfl 6 (c' := (if ¬ ((a4 >>> (a6 &&& 31)) &&& 1) = 0 then 41 else 38, [.ref 42, .ref 22, .int a2, .int a3, .int a4, .int a5, .int a6], [], M)) (ob := True ∧ True ∧ True ∧ True ∧ True ∧ True ∧ True) rfl ⟨trivial, trivial, trivial, trivial, trivial, trivial, trivial⟩ ?_
      refine jRun.brn (fun g => ?_) (fun g => ?_)
      · have h := h.1 g
        refine jRun.cut (k := jk_X1_farOfIsland) rfl 3 (c' := (if ¬ a5 = a3 then 88 else 47, [.ref 42, .ref 22, .int a2, .int a3, .int a4, .int a5, .int a6], [], M)) (ob := True ∧ True ∧ True ∧ True) rfl ⟨trivial, trivial, trivial, trivial⟩ ?_
        refine jRun.brn (fun g => ?_) (fun g => ?_)
        · have h := h.1 g
          refine jRun.cut (k := jk_X1_farOfIsland) rfl 3 (c' := (21, [.ref 42, .ref 22, .int a2, .int a3, .int a4, .int (a5 + 1), .int (a6 + 1)], [], M)) (ob := True ∧ True ∧ True ∧ True) rfl ⟨trivial, trivial, trivial, trivial⟩ ?_
          exact h
        · have h := h.2 g
          refine jRun.call (k := jk_X1_farOfIsland) rfl 4 (f := q_X3_hasLabel) (As := [.ref 12, .int a6]) (c1 := (56, [.ref 42, .ref 22, .int a2, .int a3, .int a4, .int a5, .int a6], [], M)) (ob := True ∧ jKd T0 42 = 1 ∧ True ∧ jKd T0 12 = 3) rfl ⟨trivial, rfl, trivial, rfl⟩ h (fun v M1 h => ?_)
          obtain ⟨r1, rfl, h⟩ := h
          show jRun X T0 (d + 1) q_X1_farOfIsland (56, [.ref 42, .ref 22, .int a2, .int a3, .int a4, .int a5, .int a6], [.int r1], M1) Q
          refine jRun.cut (k := jk_X1_farOfIsland) rfl 1 (c' := (if r1 = 0 then 88 else 59, [.ref 42, .ref 22, .int a2, .int a3, .int a4, .int a5, .int a6], [], M1)) (ob := True ∧ True) rfl ⟨trivial, trivial⟩ ?_
          refine jRun.br (fun g => ?_) (fun g => ?_)
          · have h := h.1 g
            refine jRun.cut (k := jk_X1_farOfIsland) rfl 3 (c' := (21, [.ref 42, .ref 22, .int a2, .int a3, .int a4, .int (a5 + 1), .int (a6 + 1)], [], M1)) (ob := True ∧ True ∧ True ∧ True) rfl ⟨trivial, trivial, trivial, trivial⟩ ?_
            exact h
          · have h := h.2 g
            obtain ⟨o1, o2, o3, h⟩ := h
            exact jRun.ret (k := jk_X1_farOfIsland) rfl 20 (v := some (.int (((M1 43 (M1 17 a6.toNatClampNeg).toNatClampNeg) - (M1 43 a2.toNatClampNeg)) - (5 * (a3 + 1))))) (M1 := M1) (ob := True ∧ jKd T0 42 = 1 ∧ True ∧ jKd T0 42 = 1 ∧ jKd T0 12 = 3 ∧ True ∧ (jKd T0 17 = 9 ∧ vp_in a6 8) ∧ (jKd T0 43 = 9 ∧ vp_in (M1 17 a6.toNatClampNeg) 33) ∧ True ∧ jKd T0 42 = 1 ∧ True ∧ (jKd T0 43 = 9 ∧ vp_in a2 33) ∧ True ∧ True ∧ True ∧ True ∧ True ∧ True ∧ True ∧ True) rfl ⟨trivial, rfl, trivial, rfl, rfl, trivial, ⟨rfl, o1⟩, ⟨rfl, o2⟩, trivial, rfl, trivial, ⟨rfl, o3⟩, trivial, trivial, trivial, trivial, trivial, trivial, trivial, trivial⟩ h
      · have h := h.2 g
        refine jRun.cut (k := jk_X1_farOfIsland) rfl 3 (c' := (21, [.ref 42, .ref 22, .int a2, .int a3, .int a4, .int a5, .int (a6 + 1)], [], M)) (ob := True ∧ True ∧ True ∧ True) rfl ⟨trivial, trivial, trivial, trivial⟩ ?_
        exact h
  · refine jRun.cut (k := jk_X1_farOfIsland) rfl 3 (c' := (if 8 ≤ a6 then 97 else 28, [.ref 44, .ref 22, .int a2, .int a3, .int a4, .int a5, .int a6], [], M)) (ob := True ∧ True ∧ True ∧ True) rfl ⟨trivial, trivial, trivial, trivial⟩ ?_
    refine jRun.br (fun g => ?_) (fun g => ?_)
    · have h := h.1 g
      exact jRun.ret (k := jk_X1_farOfIsland) rfl 2 (v := some (.int 0)) (M1 := M) (ob := True ∧ True) rfl ⟨trivial, trivial⟩ h
    · have h := h.2 g
      refine jRun.cut (k := jk_X1_farOfIsland) rfl 6 (c' := (if ¬ ((a4 >>> (a6 &&& 31)) &&& 1) = 0 then 41 else 38, [.ref 44, .ref 22, .int a2, .int a3, .int a4, .int a5, .int a6], [], M)) (ob := True ∧ True ∧ True ∧ True ∧ True ∧ True ∧ True) rfl ⟨trivial, trivial, trivial, trivial, trivial, trivial, trivial⟩ ?_
      refine jRun.brn (fun g => ?_) (fun g => ?_)
      · have h := h.1 g
        refine jRun.cut (k := jk_X1_farOfIsland) rfl 3 (c' := (if ¬ a5 = a3 then 88 else 47, [.ref 44, .ref 22, .int a2, .int a3, .int a4, .int a5, .int a6], [], M)) (ob := True ∧ True ∧ True ∧ True) rfl ⟨trivial, trivial, trivial, trivial⟩ ?_
        refine jRun.brn (fun g => ?_) (fun g => ?_)
        · have h := h.1 g
          refine jRun.cut (k := jk_X1_farOfIsland) rfl 3 (c' := (21, [.ref 44, .ref 22, .int a2, .int a3, .int a4, .int (a5 + 1), .int (a6 + 1)], [], M)) (ob := True ∧ True ∧ True ∧ True) rfl ⟨trivial, trivial, trivial, trivial⟩ ?_
          exact h
        · have h := h.2 g
          refine jRun.call (k := jk_X1_farOfIsland) rfl 4 (f := q_X3_hasLabel) (As := [.ref 12, .int a6]) (c1 := (56, [.ref 44, .ref 22, .int a2, .int a3, .int a4, .int a5, .int a6], [], M)) (ob := True ∧ jKd T0 44 = 1 ∧ True ∧ jKd T0 12 = 3) rfl ⟨trivial, rfl, trivial, rfl⟩ h (fun v M1 h => ?_)
          obtain ⟨r1, rfl, h⟩ := h
          show jRun X T0 (d + 1) q_X1_farOfIsland (56, [.ref 44, .ref 22, .int a2, .int a3, .int a4, .int a5, .int a6], [.int r1], M1) Q
          refine jRun.cut (k := jk_X1_farOfIsland) rfl 1 (c' := (if r1 = 0 then 88 else 59, [.ref 44, .ref 22, .int a2, .int a3, .int a4, .int a5, .int a6], [], M1)) (ob := True ∧ True) rfl ⟨trivial, trivial⟩ ?_
          refine jRun.br (fun g => ?_) (fun g => ?_)
          · have h := h.1 g
            refine jRun.cut (k := jk_X1_farOfIsland) rfl 3 (c' := (21, [.ref 44, .ref 22, .int a2, .int a3, .int a4, .int (a5 + 1), .int (a6 + 1)], [], M1)) (ob := True ∧ True ∧ True ∧ True) rfl ⟨trivial, trivial, trivial, trivial⟩ ?_
            exact h
          · have h := h.2 g
            obtain ⟨o1, o2, o3, h⟩ := h
            exact jRun.ret (k := jk_X1_farOfIsland) rfl 20 (v := some (.int (((M1 45 (M1 17 a6.toNatClampNeg).toNatClampNeg) - (M1 45 a2.toNatClampNeg)) - (5 * (a3 + 1))))) (M1 := M1) (ob := True ∧ jKd T0 44 = 1 ∧ True ∧ jKd T0 44 = 1 ∧ jKd T0 12 = 3 ∧ True ∧ (jKd T0 17 = 9 ∧ vp_in a6 8) ∧ (jKd T0 45 = 9 ∧ vp_in (M1 17 a6.toNatClampNeg) 33) ∧ True ∧ jKd T0 44 = 1 ∧ True ∧ (jKd T0 45 = 9 ∧ vp_in a2 33) ∧ True ∧ True ∧ True ∧ True ∧ True ∧ True ∧ True ∧ True) rfl ⟨trivial, rfl, trivial, rfl, rfl, trivial, ⟨rfl, o1⟩, ⟨rfl, o2⟩, trivial, rfl, trivial, ⟨rfl, o3⟩, trivial, trivial, trivial, trivial, trivial, trivial, trivial, trivial⟩ h
      · have h := h.2 g
        refine jRun.cut (k := jk_X1_farOfIsland) rfl 3 (c' := (21, [.ref 44, .ref 22, .int a2, .int a3, .int a4, .int a5, .int (a6 + 1)], [], M)) (ob := True ∧ True ∧ True ∧ True) rfl ⟨trivial, trivial, trivial, trivial⟩ ?_
        exact h
  · refine jRun.cut (k := jk_X1_farOfIsland) rfl 3 (c' := (if 8 ≤ a6 then 97 else 28, [.ref 46, .ref 22, .int a2, .int a3, .int a4, .int a5, .int a6], [], M)) (ob := True ∧ True ∧ True ∧ True) rfl ⟨trivial, trivial, trivial, trivial⟩ ?_
    refine jRun.br (fun g => ?_) (fun g => ?_)
    · have h := h.1 g
      exact jRun.ret (k := jk_X1_farOfIsland) rfl 2 (v := some (.int 0)) (M1 := M) (ob := True ∧ True) rfl ⟨trivial, trivial⟩ h
    · have h := h.2 g
      refine jRun.cut (k := jk_X1_farOfIsland) rfl 6 (c' := (if ¬ ((a4 >>> (a6 &&& 31)) &&& 1) = 0 then 41 else 38, [.ref 46, .ref 22, .int a2, .int a3, .int a4, .int a5, .int a6], [], M)) (ob := True ∧ True ∧ True ∧ True ∧ True ∧ True ∧ True) rfl ⟨trivial, trivial, trivial, trivial, trivial, trivial, trivial⟩ ?_
      refine jRun.brn (fun g => ?_) (fun g => ?_)
      · have h := h.1 g
        refine jRun.cut (k := jk_X1_farOfIsland) rfl 3 (c' := (if ¬ a5 = a3 then 88 else 47, [.ref 46, .ref 22, .int a2, .int a3, .int a4, .int a5, .int a6], [], M)) (ob := True ∧ True ∧ True ∧ True) rfl ⟨trivial, trivial, trivial, trivial⟩ ?_
        refine jRun.brn (fun g => ?_) (fun g => ?_)
        · have h := h.1 g
          refine jRun.cut (k := jk_X1_farOfIsland) rfl 3 (c' := (21, [.ref 46, .ref 22, .int a2, .int a3, .int a4, .int (a5 + 1), .int (a6 + 1)], [], M)) (ob := True ∧ True ∧ True ∧ True) rfl ⟨trivial, trivial, trivial, trivial⟩ ?_
          exact h
        · have h := h.2 g
          refine jRun.call (k := jk_X1_farOfIsland) rfl 4 (f := q_X3_hasLabel) (As := [.ref 12, .int a6]) (c1 := (56, [.ref 46, .ref 22, .int a2, .int a3, .int a4, .int a5, .int a6], [], M)) (ob := True ∧ jKd T0 46 = 1 ∧ True ∧ jKd T0 12 = 3) rfl ⟨trivial, rfl, trivial, rfl⟩ h (fun v M1 h => ?_)
          obtain ⟨r1, rfl, h⟩ := h
          show jRun X T0 (d + 1) q_X1_farOfIsland (56, [.ref 46, .ref 22, .int a2, .int a3, .int a4, .int a5, .int a6], [.int r1], M1) Q
          refine jRun.cut (k := jk_X1_farOfIsland) rfl 1 (c' := (if r1 = 0 then 88 else 59, [.ref 46, .ref 22, .int a2, .int a3, .int a4, .int a5, .int a6], [], M1)) (ob := True ∧ True) rfl ⟨trivial, trivial⟩ ?_
          refine jRun.br (fun g => ?_) (fun g => ?_)
          · have h := h.1 g
            refine jRun.cut (k := jk_X1_farOfIsland) rfl 3 (c' := (21, [.ref 46, .ref 22, .int a2, .int a3, .int a4, .int (a5 + 1), .int (a6 + 1)], [], M1)) (ob := True ∧ True ∧ True ∧ True) rfl ⟨trivial, trivial, trivial, trivial⟩ ?_
            exact h
          · have h := h.2 g
            obtain ⟨o1, o2, o3, h⟩ := h
            exact jRun.ret (k := jk_X1_farOfIsland) rfl 20 (v := some (.int (((M1 47 (M1 17 a6.toNatClampNeg).toNatClampNeg) - (M1 47 a2.toNatClampNeg)) - (5 * (a3 + 1))))) (M1 := M1) (ob := True ∧ jKd T0 46 = 1 ∧ True ∧ jKd T0 46 = 1 ∧ jKd T0 12 = 3 ∧ True ∧ (jKd T0 17 = 9 ∧ vp_in a6 8) ∧ (jKd T0 47 = 9 ∧ vp_in (M1 17 a6.toNatClampNeg) 33) ∧ True ∧ jKd T0 46 = 1 ∧ True ∧ (jKd T0 47 = 9 ∧ vp_in a2 33) ∧ True ∧ True ∧ True ∧ True ∧ True ∧ True ∧ True ∧ True) rfl ⟨trivial, rfl, trivial, rfl, rfl, trivial, ⟨rfl, o1⟩, ⟨rfl, o2⟩, trivial, rfl, trivial, ⟨rfl, o3⟩, trivial, trivial, trivial, trivial, trivial, trivial, trivial, trivial⟩ h
      · have h := h.2 g
        refine jRun.cut (k := jk_X1_farOfIsland) rfl 3 (c' := (21, [.ref 46, .ref 22, .int a2, .int a3, .int a4, .int a5, .int (a6 + 1)], [], M)) (ob := True ∧ True ∧ True ∧ True) rfl ⟨trivial, trivial, trivial, trivial⟩ ?_
        exact h
  · refine jRun.cut (k := jk_X1_farOfIsland) rfl 3 (c' := (if 8 ≤ a6 then 97 else 28, [.ref 51, .ref 49, .int a2, .int a3, .int a4, .int a5, .int a6], [], M)) (ob := True ∧ True ∧ True ∧ True) rfl ⟨trivial, trivial, trivial, trivial⟩ ?_
    refine jRun.br (fun g => ?_) (fun g => ?_)
    · have h := h.1 g
      exact jRun.ret (k := jk_X1_farOfIsland) rfl 2 (v := some (.int 0)) (M1 := M) (ob := True ∧ True) rfl ⟨trivial, trivial⟩ h
    · have h := h.2 g
      refine jRun.cut (k := jk_X1_farOfIsland) rfl 6 (c' := (if ¬ ((a4 >>> (a6 &&& 31)) &&& 1) = 0 then 41 else 38, [.ref 51, .ref 49, .int a2, .int a3, .int a4, .int a5, .int a6], [], M)) (ob := True ∧ True ∧ True ∧ True ∧ True ∧ True ∧ True) rfl ⟨trivial, trivial, trivial, trivial, trivial, trivial, trivial⟩ ?_
      refine jRun.brn (fun g => ?_) (fun g => ?_)
      · have h := h.1 g
        refine jRun.cut (k := jk_X1_farOfIsland) rfl 3 (c' := (if ¬ a5 = a3 then 88 else 47, [.ref 51, .ref 49, .int a2, .int a3, .int a4, .int a5, .int a6], [], M)) (ob := True ∧ True ∧ True ∧ True) rfl ⟨trivial, trivial, trivial, trivial⟩ ?_
        refine jRun.brn (fun g => ?_) (fun g => ?_)
        · have h := h.1 g
          refine jRun.cut (k := jk_X1_farOfIsland) rfl 3 (c' := (21, [.ref 51, .ref 49, .int a2, .int a3, .int a4, .int (a5 + 1), .int (a6 + 1)], [], M)) (ob := True ∧ True ∧ True ∧ True) rfl ⟨trivial, trivial, trivial, trivial⟩ ?_
          exact h
        · have h := h.2 g
          refine jRun.call (k := jk_X1_farOfIsland) rfl 4 (f := q_X3_hasLabel) (As := [.ref 12, .int a6]) (c1 := (56, [.ref 51, .ref 49, .int a2, .int a3, .int a4, .int a5, .int a6], [], M)) (ob := True ∧ jKd T0 51 = 1 ∧ True ∧ jKd T0 12 = 3) rfl ⟨trivial, rfl, trivial, rfl⟩ h (fun v M1 h => ?_)
          obtain ⟨r1, rfl, h⟩ := h
          show jRun X T0 (d + 1) q_X1_farOfIsland (56, [.ref 51, .ref 49, .int a2, .int a3, .int a4, .int a5, .int a6], [.int r1], M1) Q
          refine jRun.cut (k := jk_X1_farOfIsland) rfl 1 (c' := (if r1 = 0 then 88 else 59, [.ref 51, .ref 49, .int a2, .int a3, .int a4, .int a5, .int a6], [], M1)) (ob := True ∧ True) rfl ⟨trivial, trivial⟩ ?_
          refine jRun.br (fun g => ?_) (fun g => ?_)
          · have h := h.1 g
            refine jRun.cut (k := jk_X1_farOfIsland) rfl 3 (c' := (21, [.ref 51, .ref 49, .int a2, .int a3, .int a4, .int (a5 + 1), .int (a6 + 1)], [], M1)) (ob := True ∧ True ∧ True ∧ True) rfl ⟨trivial, trivial, trivial, trivial⟩ ?_
            exact h
          · have h := h.2 g
            obtain ⟨o1, o2, o3, h⟩ := h
            exact jRun.ret (k := jk_X1_farOfIsland) rfl 20 (v := some (.int (((M1 52 (M1 17 a6.toNatClampNeg).toNatClampNeg) - (M1 52 a2.toNatClampNeg)) - (5 * (a3 + 1))))) (M1 := M1) (ob := True ∧ jKd T0 51 = 1 ∧ True ∧ jKd T0 51 = 1 ∧ jKd T0 12 = 3 ∧ True ∧ (jKd T0 17 = 9 ∧ vp_in a6 8) ∧ (jKd T0 52 = 9 ∧ vp_in (M1 17 a6.toNatClampNeg) 33) ∧ True ∧ jKd T0 51 = 1 ∧ True ∧ (jKd T0 52 = 9 ∧ vp_in a2 33) ∧ True ∧ True ∧ True ∧ True ∧ True ∧ True ∧ True ∧ True) rfl ⟨trivial, rfl, trivial, rfl, rfl, trivial, ⟨rfl, o1⟩, ⟨rfl, o2⟩, trivial, rfl, trivial, ⟨rfl, o3⟩, trivial, trivial, trivial, trivial, trivial, trivial, trivial, trivial⟩ h
      · have h := h.2 g
        refine jRun.cut (k := jk_X1_farOfIsland) rfl 3 (c' := (21, [.ref 51, .ref 49, .int a2, .int a3, .int a4, .int a5, .int (a6 + 1)], [], M)) (ob := True ∧ True ∧ True ∧ True) rfl ⟨trivial, trivial, trivial, trivial⟩ ?_
        exact h
