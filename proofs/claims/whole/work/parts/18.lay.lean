/-! how items lie: the numbers, and the class's methods that find them -/
def jBI (b : Bool) : Int32 := if b then 1 else 0
theorem jBI_0 {b : Bool} : (jBI b = 0) ↔ b = false := by cases b <;> decide
theorem jBI_1 {b : Bool} : (jBI b = 1) ↔ b = true := by cases b <;> decide
theorem jBI_t : jBI true = 1 := rfl
theorem jBI_f : jBI false = 0 := rfl
theorem jBI_n (b : Bool) : nI (if b then 1 else 0) = jBI b := by cases b <;> decide
def pct (so : Nat → Nat) (s k : Nat) : Nat := fb_ct (fun i => so i == s) k
def pnum (so : Nat → Nat) (k : Nat) : Nat := if so k = 1 ∨ so k = 3 then 0 else pct so (so k) k
def ppad (v p : Nat) : Nat := (v - p % v) % v
def plen (so V : Nat → Nat) (lo k p : Nat) : Nat := if so k = 0 then V k else if so k = 2 then (if lo.testBit (pct so 2 k) then 5 else 2) else if so k = 3 then ppad (V k) p else if so k = 4 then 2 else if so k = 5 then 5 * pbc (V (33 + pct so 5 k)) else 0
def ppos (so V : Nat → Nat) (lo : Nat) : Nat → Nat
  | 0 => 0
  | k + 1 => ppos so V lo k + plen so V lo k (ppos so V lo k)
def pli (so V : Nat → Nat) (x : Nat) : Nat → Nat
  | 0 => 0
  | k + 1 => if so k = 1 ∧ V k = x then k + 1 else pli so V x k
def ptg (so V : Nat → Nat) (n k : Nat) : Nat := pli so V (V k) n - 1
def pis (V : Nat → Nat) : Nat := V 33 + 256 * V 34 + 65536 * V 35
def jCtx (M : jMem) (so V : Nat → Nat) (n rc S Z : Nat) : Prop :=
  (M 12 8 = nI n ∧ M 12 10 = nI (pct so 2 n) ∧ M 12 11 = nI (pct so 4 n) ∧ M 12 12 = nI (pct so 5 n)) ∧
  ((∀ k, k < n → M 13 k = nI (so k)) ∧ (∀ k, k < n → so k ≠ 0 → M 14 k = nI (V k)) ∧ (∀ k, k < n → M 15 k = nI (pnum so k)) ∧ (∀ k, k < n → (so k = 2 ∨ so k = 4) → M 16 k = nI (ptg so V n k))) ∧
  ((∀ x, x < 8 → M 17 x = nI (pli so V x n) - 1) ∧ (∀ k, k < n → so k = 2 → M 18 (pct so 2 k) = nI k) ∧ (∀ k, k < n → so k = 4 → M 19 (pct so 4 k) = nI k) ∧ (∀ k, k < n → so k = 5 → M 20 (pct so 5 k) = nI k)) ∧
  ((∀ k, k < n → so k = 0 → M Z k = nI (V k)) ∧ M S 1 = nI (V 32) ∧ M S 2 = nI (pis V) ∧ M S 3 = nI rc)
def jWf (so V : Nat → Nat) (n rc : Nat) : Prop :=
  (n ≤ 32 ∧ rc ≤ 127 ∧ pct so 2 n ≤ 10 ∧ pct so 4 n ≤ 6 ∧ pct so 5 n ≤ 3) ∧
  ((∀ k, k < n → so k ≤ 5) ∧ (∀ k, k < n → so k = 0 → 1 ≤ V k ∧ V k ≤ 61) ∧ (∀ k, k < n → so k = 3 → V k = 2 ∨ V k = 4 ∨ V k = 8 ∨ V k = 16) ∧ (∀ k, k < n → (so k = 1 ∨ so k = 2 ∨ so k = 4) → V k < 8) ∧ (∀ k, k < n → (so k = 2 ∨ so k = 4) → 0 < pli so V (V k) n)) ∧
  (V 32 < 2 ^ pct so 2 n ∧ V 33 < 256 ∧ V 34 < 256 ∧ V 35 < 256) ∧
  (∀ s x, s < 3 → x < 8 → (V (33 + s)).testBit x = true → s < pct so 5 n ∧ 0 < pli so V x n)
theorem pli_le {so V : Nat → Nat} {x : Nat} : ∀ n, pli so V x n ≤ n
  | 0 => Nat.le_refl _
  | n + 1 => by
    have := pli_le (so := so) (V := V) (x := x) n
    simp only [pli]
    split <;> omega
theorem pli_is {so V : Nat → Nat} {x : Nat} : ∀ n, 0 < pli so V x n → so (pli so V x n - 1) = 1 ∧ V (pli so V x n - 1) = x ∧ pli so V x n - 1 < n
  | 0, h => absurd h (Nat.lt_irrefl 0)
  | n + 1, h => by
    simp only [pli] at h ⊢
    split
    · rename_i g
      exact ⟨g.1, g.2, by omega⟩
    · rename_i g
      rw [if_neg g] at h
      have := pli_is n h
      exact ⟨this.1, this.2.1, by omega⟩
theorem pct_lt {so : Nat → Nat} {s k n : Nat} (h : k < n) (hk : so k = s) : pct so s k < pct so s n := by
  have h1 : pct so s (k + 1) ≤ pct so s n := fb_ct_mono _ h
  have h2 : pct so s (k + 1) = pct so s k + 1 := by simp [pct, fb_ct_succ, hk]
  omega
theorem ppad_lt {v p : Nat} (h : 0 < v) : ppad v p < v := Nat.mod_lt _ h
theorem pbc_le (x : Nat) : pbc x ≤ 24 := fb_ct_le _ _
theorem pbc8 {x : Nat} (h : x < 256) : pbc x ≤ 8 := by
  unfold pbc
  rw [show (24 : Nat) = 8 + 16 from rfl, fb_ct_split]
  have h1 : fb_ct (fun k => x.testBit (8 + k)) 16 = 0 := fb_ct_zero.mpr (fun k _ => jbit_hi (m := 8) h (by omega))
  have h2 := fb_ct_le (fun i => x.testBit i) 8
  omega
theorem jWf.isl {so V : Nat → Nat} {n rc s : Nat} (h : jWf so V n rc) (hs : s < 3) : V (33 + s) < 256 := by
  obtain ⟨-, -, ⟨-, h1, h2, h3⟩, -⟩ := h
  rcases (show s = 0 ∨ s = 1 ∨ s = 2 by omega) with rfl | rfl | rfl <;> assumption
theorem plen_le {so V : Nat → Nat} {n rc lo k p : Nat} (h : jWf so V n rc) (hk : k < n) : plen so V lo k p ≤ 61 := by
  unfold plen
  split
  · exact (h.2.1.2.1 k hk (by assumption)).2
  · split
    · split <;> omega
    · split
      · have h1 := h.2.1.2.2.1 k hk (by assumption)
        have h2 : ppad (V k) p < V k := ppad_lt (by omega)
        omega
      · split
        · omega
        · split
          · rename_i h5
            have h6 : pct so 5 k < pct so 5 n := pct_lt hk h5
            have := pbc8 (h.isl (s := pct so 5 k) (by have := h.1.2.2.2.2; omega))
            omega
          · omega
theorem ppos_le {so V : Nat → Nat} {n rc lo : Nat} (h : jWf so V n rc) : ∀ k, k ≤ n → ppos so V lo k ≤ 61 * k
  | 0, _ => Nat.le_refl _
  | k + 1, hk => by
    have h1 := ppos_le (lo := lo) h k (by omega)
    have h2 := plen_le (lo := lo) (p := ppos so V lo k) h (show k < n by omega)
    simp only [ppos]
    omega
theorem ppos_lt {so V : Nat → Nat} {n rc lo k : Nat} (h : jWf so V n rc) (hk : k ≤ n) : ppos so V lo k < 2000 := by
  have h1 := ppos_le (lo := lo) h k hk
  have := h.1.1
  omega
theorem ppos_mono {so V : Nat → Nat} {lo j : Nat} : ∀ k, j ≤ k → ppos so V lo j ≤ ppos so V lo k
  | 0, h => by rw [Nat.le_zero.mp h]; exact Nat.le_refl _
  | k + 1, h => by
    rcases Nat.lt_or_ge j (k + 1) with g | g
    · have := ppos_mono (so := so) (V := V) (lo := lo) (j := j) k (by omega)
      simp only [ppos]
      omega
    · rw [show j = k + 1 by omega]; exact Nat.le_refl _
/-- the way the class aligns -/
theorem jpad {v p : Nat} (hv : v = 2 ∨ v = 4 ∨ v = 8 ∨ v = 16) (hp : p < 2 ^ 30) : (-nI p) &&& (nI v - 1) = nI (ppad v p) := by
  have key : ∀ e, e < 5 → (-nI p) &&& (nI (2 ^ e) - 1) = nI (ppad (2 ^ e) p) := by
    intro e he
    have h1 : nI (2 ^ e) - 1 = nI (2 ^ e - 1) := by
      rw [show (1 : Int32) = nI 1 from rfl, pk_sub (Nat.one_le_two_pow)]
    have h2 : (nI (2 ^ e - 1)).toBitVec.toNat = 2 ^ e - 1 := pk_tn (by have : 2 ^ e ≤ 2 ^ 5 := Nat.pow_le_pow_right (by decide) (by omega); omega)
    rw [h1, pk_and _ e h2]
    congr 1
    have h3 : (-nI p).toBitVec.toNat = (2 ^ 32 - p) % 2 ^ 32 := by
      rw [Int32.toBitVec_neg, BitVec.toNat_neg, pk_tn (by omega)]
    rw [h3]
    unfold ppad
    rcases (show e = 0 ∨ e = 1 ∨ e = 2 ∨ e = 3 ∨ e = 4 by omega) with rfl | rfl | rfl | rfl | rfl <;> omega
  rcases hv with rfl | rfl | rfl | rfl
  · exact key 1 (by omega)
  · exact key 2 (by omega)
  · exact key 3 (by omega)
  · exact key 4 (by omega)
