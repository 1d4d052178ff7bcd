section JB
variable {X : jX} {d : Nat} {M M0 : jMem} {Q : Option Value → jMem → Prop} {L A S Z : Nat} {so V : Nat → Nat} {n rc lo : Nat}
def pIt (so V : Nat → Nat) (n lo i k : Nat) : Prop := k < n ∧ ppos so V lo k ≤ i ∧ i < ppos so V lo (k + 1)
def pitm (so V : Nat → Nat) (lo i : Nat) : Nat → Nat
  | 0 => 0
  | m + 1 => if ppos so V lo m ≤ i then m else pitm so V lo i m
theorem pIt_one {i k k' : Nat} (h : pIt so V n lo i k) (h' : pIt so V n lo i k') : k = k' := by
  rcases Nat.lt_trichotomy k k' with g | g | g
  · have := ppos_mono (so := so) (V := V) (lo := lo) (j := k + 1) k' (by omega)
    have := h.2.2
    have := h'.2.1
    omega
  · exact g
  · have := ppos_mono (so := so) (V := V) (lo := lo) (j := k' + 1) k (by omega)
    have := h'.2.2
    have := h.2.1
    omega
theorem pitm_is {i : Nat} : ∀ n, i < ppos so V lo n → pIt so V n lo i (pitm so V lo i n)
  | 0, h => absurd h (Nat.not_lt_zero _)
  | n + 1, h => by
    simp only [pitm]
    split
    · rename_i g
      exact ⟨by omega, g, h⟩
    · rename_i g
      have := pitm_is (i := i) n (by omega)
      exact ⟨by have := this.1; omega, this.2⟩
theorem sp_itemOfByte (hI : jInj X T0) (hv : jLS L A S Z) {i : Nat} (hi : i < 2 ^ 31) (hc : jCtx M so V n rc S Z) (hw : jWf so V n rc) (hl : jLaid M L A so V n lo)
    (h : ∀ k, pIt so V n lo i k → Q (some (.int (nI k))) M) (h2 : ppos so V lo n ≤ i → Q (some (.int (-1))) M) : jOk X T0 d q_X1_itemOfByte [.ref L, .int (nI i)] M Q := by
  have hn := hw.1.1
  refine v_X1_itemOfByte hI hv _ _ _ ⟨fun _ => ?_, fun g => absurd (nI_pos' hi) g⟩
  have key : ∀ k, k ≤ n → ppos so V lo k ≤ i → jRun X T0 d q_X1_itemOfByte (8, [.ref L, .int (nI i), .int (nI k)], [], M) Q := by
    refine jUp ?_ ?_
    · intro hp
      refine v_X1_itemOfByte_8 hv _ _ _ _ ⟨fun _ => h2 hp, fun g => absurd ?_ g⟩
      rw [hc.1.1]; exact nI_le (Nat.le_refl _) (by omega)
    · intro k hk ih hp
      have p1 := ppos_lt (lo := lo) hw (show k + 1 ≤ n by omega)
      refine v_X1_itemOfByte_8 hv _ _ _ _ ⟨fun g => absurd g ?_, fun _ => ?_⟩
      · rw [hc.1.1]; exact nI_ge hk (by omega)
      · rw [nI_1, nI_cl (by omega), hl.2 _ (by omega), nI_leI (by omega) hi]
        refine ⟨vp_in_nI (by omega) (by decide), fun g => ih g, fun g => h k ⟨hk, hp, by omega⟩⟩
  exact key 0 (Nat.zero_le _) (Nat.zero_le _)
theorem sp_itemAt (hI : jInj X T0) {i : Nat} (hw : jWf so V n rc) (hl : mLaid M so V n lo) (hi : i < ppos so V lo n)
    (h : ∀ k, pIt so V n lo i k → Q (some (.int (nI k))) M) : jOk X T0 d q_X8_itemAt [.ref 54, .int (nI i)] M Q := by
  have hn := hw.1.1
  have hin := ppos_lt (lo := lo) hw (Nat.le_refl n)
  refine v_X8_itemAt hI _ _ _ ?_
  have key : ∀ k, k ≤ n → ppos so V lo k ≤ i → jRun X T0 d q_X8_itemAt (2, [.ref 54, .int (nI i), .int (nI k)], [], M) Q := by
    refine jUp ?_ ?_
    · intro hp
      omega
    · intro k hk ih hp
      have p1 := ppos_lt (lo := lo) hw (show k + 1 ≤ n by omega)
      refine v_X8_itemAt_2 _ _ _ _ ?_
      rw [nI_1, nI_cl (by omega), hl.2 _ (by omega), nI_ltI (by omega) (by omega)]
      exact ⟨vp_in_nI (by omega) (by decide), fun g => h k ⟨hk, hp, g⟩, fun g => ih (by omega)⟩
  exact key 0 (Nat.zero_le _) (Nat.zero_le _)
def ppart (z : Int32) (j : Nat) : Int32 := (z >>> ((8 * nI j) &&& 31)) &&& 255
def pilf (so V : Nat → Nat) (n lo k x m : Nat) : Int32 := nI (ppos so V lo (pli so V x n - 1)) - nI (ppos so V lo k) - 5 * nI (m + 1)
/-- the m-th island of a spot is for the label x -/
def pnth (V : Nat → Nat) (s m x : Nat) : Prop := x < 8 ∧ (V (33 + s)).testBit x = true ∧ fb_ct (fun i => (V (33 + s)).testBit i) x = m
theorem pnth_ex {s m : Nat} (h8 : V (33 + s) < 256) (h : m < pbc (V (33 + s))) : ∃ x, pnth V s m x := by
  obtain ⟨x, h1, h2, h3⟩ := fb_ct_kth h
  refine ⟨x, ?_, h2, h3⟩
  refine Classical.byContradiction (fun q => ?_)
  rw [jbit_hi (m := 8) h8 (by omega)] at h2
  cases h2
theorem pnth_lt {s x y : Nat} (hy : y < x) (h : (V (33 + s)).testBit y = true) : fb_ct (fun i => (V (33 + s)).testBit i) y < fb_ct (fun i => (V (33 + s)).testBit i) x := by
  have h1 := fb_ct_mono (fun i => (V (33 + s)).testBit i) (show y + 1 ≤ x by omega)
  rw [fb_ct_succ, if_pos h] at h1
  omega
theorem sp_hasLabel (hI : jInj X T0) {x : Nat} (hx : x < 8) (h17 : M 17 x = nI (pli so V x n) - 1) (hn : n ≤ 32) (h : Q (some (.int (jBI (decide (0 < pli so V x n))))) M) : jOk X T0 d q_X3_hasLabel [.ref 12, .int (nI x)] M Q := by
  have hp := pli_le (so := so) (V := V) (x := x) n
  refine v12_X3_hasLabel hI _ _ _ ?_
  rw [nI_cl (by omega), h17]
  have e : (nI (pli so V x n) - 1).toInt = (pli so V x n : Int) - 1 := pk_sub_toInt (a := pli so V x n) (b := 1) (by omega) (by omega)
  have e8 : ¬ (8 : Int32) ≤ nI x := nI_ge (b := 8) hx (by decide)
  have e0 : ¬ nI x < 0 := nI_pos (by omega)
  refine ⟨fun g => absurd g e0, fun _ => ⟨fun g => absurd g e8, fun _ => ⟨vp_in_nI hx (by decide), fun g => ?_, fun g => ?_⟩⟩⟩
  · rw [fa_lt, e] at g
    have g : (pli so V x n : Int) - 1 < 0 := g
    rw [decide_eq_false (by omega)] at h
    exact h
  · rw [fa_lt, e] at g
    have g : ¬ (pli so V x n : Int) - 1 < 0 := g
    rw [decide_eq_true (by omega)] at h
    exact h
end JB
