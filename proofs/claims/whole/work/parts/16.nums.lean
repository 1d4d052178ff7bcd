/-! small facts: memory, loops, bits -/
theorem jP_s {M : jMem} {i k : Nat} {v : Int32} : jP M i k v i = upd (M i) k v := by simp [jP, jSC]
theorem jP_n {M : jMem} {i k c : Nat} {v : Int32} (h : c ≠ i) : jP M i k v c = M c := by simp [jP, jSC, h]
theorem jUp {P : Nat → Prop} {e : Nat} (he : P e) (hs : ∀ i, i < e → P (i + 1) → P i) : ∀ i, i ≤ e → P i := by
  intro i hi
  obtain ⟨n, rfl⟩ := Nat.exists_eq_add_of_le hi
  clear hi
  induction n generalizing i with
  | zero => exact he
  | succ n ih =>
    refine hs i (by omega) (ih (i + 1) ?_ ?_)
    · rw [show i + 1 + n = i + (n + 1) by omega]; exact he
    · intro j hj
      exact hs j (by omega)
theorem jsh : ∀ n, n < 32 → ((nI n &&& 31).toBitVec.smod 32).toNat = n := by decide +kernel
theorem jshl1 : ∀ j, j < 31 → (1 : Int32) <<< (nI j &&& 31) = nI (2 ^ j) := by decide +kernel
theorem jshr {x j : Nat} (hx : x < 2 ^ 31) (hj : j < 32) : nI x >>> (nI j &&& 31) = nI (x / 2 ^ j) := pk_shrN hx _ _ (jsh j hj)
theorem jbit {x j : Nat} (hx : x < 2 ^ 31) (hj : j < 32) : nI x >>> (nI j &&& 31) &&& 1 = nI (if x.testBit j then 1 else 0) := by
  rw [jshr hx hj, show (1 : Int32) = nI (2 ^ 1 - 1) from rfl, fa_mask]
  congr 1
  rw [Nat.testBit_eq_decide_div_mod_eq]
  by_cases h : x / 2 ^ j % 2 = 1
  · simp [h]
  · simp [h]; omega
theorem nI_inj {a b : Nat} (ha : a < 2 ^ 31) (hb : b < 2 ^ 31) (h : nI a = nI b) : a = b := (nI_eq ha hb).mp h
/-- a set of numbers below m as bits -/
def pset (c : Nat → Bool) : Nat → Nat
  | 0 => 0
  | m + 1 => pset c m + (if c m then 2 ^ m else 0)
theorem pset_lt (c : Nat → Bool) : ∀ m, pset c m < 2 ^ m
  | 0 => by simp [pset]
  | m + 1 => by
    have h := pset_lt c m
    simp only [pset, Nat.pow_succ]
    split <;> omega
theorem pset_bit (c : Nat → Bool) : ∀ m j, (pset c m).testBit j = (decide (j < m) && c j)
  | 0, j => by simp [pset]
  | m + 1, j => by
    have h := pset_bit c m j
    have hl := pset_lt c m
    simp only [pset]
    split
    · rename_i hc
      rw [show pset c m + 2 ^ m = 2 ^ m * 1 + pset c m by omega, Nat.testBit_two_pow_mul_add _ hl, h]
      by_cases g : j < m
      · rw [if_pos g]
        simp [g, show j < m + 1 by omega]
      · rw [if_neg g]
        by_cases g2 : j = m
        · subst g2
          simp [hc]
        · rw [show (1 : Nat).testBit (j - m) = false from Nat.testBit_lt_two_pow (Nat.lt_of_lt_of_le (by decide : 1 < 2 ^ 1) (Nat.pow_le_pow_right (by decide) (by omega)))]
          simp [show ¬ j < m + 1 by omega]
    · rename_i hc
      rw [Nat.add_zero, h]
      by_cases g2 : j = m
      · subst g2
        simp [hc]
      · simp [show (j < m + 1) = (j < m) by simp; omega]
theorem pset_cong {c c' : Nat → Bool} {m : Nat} (h : ∀ j, j < m → c j = c' j) : pset c m = pset c' m := by
  induction m with
  | zero => rfl
  | succ m ih => simp only [pset]; rw [ih (fun j hj => h j (by omega)), h m (by omega)]
theorem pset_or {c : Nat → Bool} {m : Nat} (hm : m < 30) : nI (pset c m) ||| (if c m then nI (2 ^ m) else 0) = nI (pset c (m + 1)) := by
  simp only [pset]
  split
  · have := fa_or_sum (a := pset c m) (k := m) 1 (pset_lt c m)
    rw [Nat.mul_one] at this
    rw [Int32.or_comm, this, Nat.add_comm]
  · simp
theorem jones : ∀ i, (h : i < 32) → (Int32.toBitVec (-1))[i] = true := by decide +kernel
theorem jandn (x y : Int32) : x &&& (y ^^^ (-1)) = x ^^^ (x &&& y) := by
  apply Int32.toBitVec_inj.mp
  simp only [Int32.toBitVec_and, Int32.toBitVec_xor]
  ext i hi
  have h1 : (Int32.toBitVec (-1))[i] = true := jones i hi
  simp only [BitVec.getElem_and, BitVec.getElem_xor, h1]
  cases x.toBitVec[i] <;> cases y.toBitVec[i] <;> rfl
def pdiff (a b : Nat) : Nat := a ^^^ (a &&& b)
theorem jdiff (a b : Nat) : nI a &&& (nI b ^^^ (-1)) = nI (pdiff a b) := by
  rw [jandn, fa_and, fb_xorI]
  rfl
theorem pdiff_bit (a b j : Nat) : (pdiff a b).testBit j = (a.testBit j && !b.testBit j) := by
  simp only [pdiff, Nat.testBit_xor, Nat.testBit_and]
  cases a.testBit j <;> cases b.testBit j <;> rfl
theorem jlt_bits {a m : Nat} (h : ∀ j, m ≤ j → a.testBit j = false) : a < 2 ^ m := Nat.lt_pow_two_of_testBit a (fun i hi => h i hi)
theorem jbit_hi {a m j : Nat} (h : a < 2 ^ m) (hj : m ≤ j) : a.testBit j = false := Nat.testBit_lt_two_pow (Nat.lt_of_lt_of_le h (Nat.pow_le_pow_right (by decide) hj))
/-- how many bits are set -/
def pbc (x : Nat) : Nat := fb_ct (fun i => x.testBit i) 24
