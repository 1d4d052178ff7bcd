section JO2
variable {X : jX} {d : Nat} {M M0 : jMem} {Q : Option Value → jMem → Prop} {so V : Nat → Nat} {n rc : Nat} {fw : Int32}
theorem sp_power (hI : jInj X T0) {b e : Nat} (he : e < 1000) (h : Q (some (.int (nI (b ^ e)))) M) : jOk X T0 d q_X4_power [.int (nI b), .int (nI e)] M Q := by
  refine v_X4_power hI _ _ _ _ ?_
  have key : ∀ i, i ≤ e → jRun X T0 d q_X4_power (4, [.int (nI b), .int (nI e), .int (nI (b ^ i)), .int (nI i)], [], M) Q := by
    refine jUp ?_ ?_
    · exact v_X4_power_4 _ _ _ _ _ _ ⟨fun _ => h, fun g => absurd (nI_le (Nat.le_refl _) (by omega)) g⟩
    · intro i hi ih
      refine v_X4_power_4 _ _ _ _ _ _ ⟨fun g => absurd g (nI_ge hi (by omega)), fun _ => ?_⟩
      rw [pk_mul, nI_1]
      rw [Nat.pow_succ] at ih
      exact ih
  exact key 0 (Nat.zero_le _)
def pq (so : Nat → Nat) (n : Nat) : Nat := if 6 < pct so 0 n then 6 else pct so 0 n
theorem pq_le : pq so n ≤ 6 := by unfold pq; split <;> omega
theorem pq_ct : pq so n ≤ pct so 0 n := by unfold pq; split <;> omega
def egc : Nat → Nat → Nat → Nat
  | 0, a, _ => a
  | f + 1, a, b => if b = 0 then a else egc f b (a % b)
theorem egc_gcd : ∀ j f a b, b < 2 ^ j → 2 * j + 1 ≤ f → egc f a b = Nat.gcd a b
  | 0, f, a, b, h, hf => by
    have hb : b = 0 := by omega
    obtain ⟨f, rfl⟩ : ∃ g, f = g + 1 := ⟨f - 1, by omega⟩
    simp [egc, hb]
  | j + 1, f, a, b, h, hf => by
    obtain ⟨f, rfl⟩ : ∃ g, f = g + 1 + 1 := ⟨f - 2, by omega⟩
    rw [Nat.pow_succ] at h
    by_cases hb : b = 0
    · simp [egc, hb]
    · simp only [egc, if_neg hb]
      have e1 : Nat.gcd a b = Nat.gcd b (a % b) := by rw [Nat.gcd_comm a b, Nat.gcd_rec b a, Nat.gcd_comm]
      by_cases hr : a % b = 0
      · rw [if_pos hr, e1, hr, Nat.gcd_zero_right]
      · rw [if_neg hr]
        have hlt : a % b < b := Nat.mod_lt _ (by omega)
        have h2 : b % (a % b) < 2 ^ j := by
          have h3 : b % (a % b) < a % b := Nat.mod_lt _ (by omega)
          have h4 : b % (a % b) ≤ b - a % b := by
            have := Nat.mod_add_div b (a % b)
            have h5 : 1 ≤ b / (a % b) := Nat.div_pos (by omega) (by omega)
            have h6 : a % b * 1 ≤ a % b * (b / (a % b)) := Nat.mul_le_mul_left _ h5
            omega
          omega
        rw [egc_gcd j f (a % b) (b % (a % b)) h2 (by omega), e1, Nat.gcd_comm b (a % b), Nat.gcd_rec (a % b) b, Nat.gcd_comm]
theorem sp_commonDivisor (hI : jInj X T0) {a b : Nat} (ha : a < 2 ^ 30) (hb : b < 2 ^ 30) (h : Q (some (.int (nI (Nat.gcd a b)))) M) : jOk X T0 d q_X7_commonDivisor [.int (nI a), .int (nI b)] M Q := by
  refine v_X7_commonDivisor hI _ _ _ _ ?_
  rw [← egc_gcd 30 64 a b hb (by omega)] at h
  obtain ⟨g, hg⟩ : ∃ g, g = egc 64 a b := ⟨_, rfl⟩
  rw [← hg] at h
  have key : ∀ i, i ≤ 64 → ∀ a b : Nat, a < 2 ^ 30 → b < 2 ^ 30 → g = egc (64 - i) a b → jRun X T0 d q_X7_commonDivisor (2, [.int (nI a), .int (nI b), .int (nI i), .null], [], M) Q := by
    refine jUp ?_ ?_
    · intro a b ha hb e
      refine v_X7_commonDivisor_2 _ _ _ _ _ ⟨fun _ => ?_, fun q => absurd (by decide) q⟩
      rw [e] at h
      exact h
    · intro i hi ih a b ha hb e
      rw [show 64 - i = (64 - (i + 1)) + 1 by omega] at e
      simp only [egc] at e
      refine v_X7_commonDivisor_2 _ _ _ _ _ ⟨fun q => absurd q (nI_ge (b := 64) hi (by decide)), fun _ => ⟨fun q => ?_, fun q => ⟨q, ?_⟩⟩⟩
      · have hb0 : b = 0 := nI_inj (by omega) (by decide) q
        rw [if_pos hb0] at e
        rw [e] at h
        exact h
      · have hb0 : b ≠ 0 := fun z => q (by rw [z]; rfl)
        rw [if_neg hb0] at e
        have hm : a % b < b := Nat.mod_lt _ (by omega)
        rw [pk_rem (by omega) (by omega) (by omega), nI_1]
        exact ih b (a % b) hb (by omega) e
  exact key 0 (by decide) a b ha hb hg
/-- sizes by a set of the first operations -/
def pvo (so V : Nat → Nat) (n s k : Nat) : Nat := if k < n ∧ so k = 0 ∧ pct so 0 k < 6 then V k + (if s.testBit (pct so 0 k) then 1 else 0) else V k
theorem pvo_other {s k : Nat} (h : k < n → so k ≠ 0) : pvo so V n s k = V k := by
  unfold pvo
  rw [if_neg (fun q => h q.1 q.2.1)]
theorem jWf.odds (hw : jWf so V n rc) (h60 : ∀ k, k < n → so k = 0 → V k ≤ 60) {s : Nat} : jWf so (pvo so V n s) n rc := by
  have hn := hw.1.1
  have hV : ∀ k, k < n → so k ≠ 0 → pvo so V n s k = V k := fun k _ h0 => pvo_other (fun _ => h0)
  have pc := fun x => pli_cong (so := so) hV x n (Nat.le_refl _)
  have o : ∀ k, 32 ≤ k → pvo so V n s k = V k := fun k hk => pvo_other (fun q => by omega)
  obtain ⟨a, ⟨b1, b2, b3, b4, b5⟩, ⟨c1, c2, c3, c4⟩, e⟩ := hw
  refine ⟨a, ⟨b1, fun k hk h0 => ?_, fun k hk h3 => ?_, fun k hk h1 => ?_, fun k hk h2 => ?_⟩, ⟨?_, ?_, ?_, ?_⟩, fun s' x hs hx hb => ?_⟩
  · have := b2 k hk h0
    have := h60 k hk h0
    unfold pvo
    split
    · split <;> omega
    · omega
  · rw [hV k hk (by omega)]; exact b3 k hk h3
  · rw [hV k hk (by omega)]; exact b4 k hk h1
  · rw [hV k hk (by omega), pc]; exact b5 k hk h2
  · rw [o 32 (by omega)]; exact c1
  · rw [o 33 (by omega)]; exact c2
  · rw [o 34 (by omega)]; exact c3
  · rw [o 35 (by omega)]; exact c4
  · rw [o _ (by omega)] at hb
    rw [pc]
    exact e s' x hs hx hb
/-- the ways of a set, whether the jump is long by it -/
def pwx (q x s : Nat) : Nat := x ^ pbc s * (10 - x) ^ (q - pbc s)
def plg (so V : Nat → Nat) (n rc j s : Nat) : Bool := (pgrow (pstr so (pvo so V n s) n rc) 10 (V 32)).1.testBit j
def pabv (so V : Nat → Nat) (n rc j x : Nat) : Nat → Nat := fb_sm (fun s => if plg so V n rc j s then pwx (pq so n) x s else 0)
theorem pwx_sum : ∀ q, q < 7 → ∀ x, x < 11 → fb_sm (pwx q x) (2 ^ q) = 10 ^ q := by decide +kernel
theorem pabv_le {x : Nat} (hx : x < 11) {j : Nat} : pabv so V n rc j x (2 ^ pq so n) ≤ 10 ^ pq so n := by
  have h := pq_le (so := so) (n := n)
  rw [← pwx_sum (pq so n) (by omega) x hx]
  exact fb_sm_le (fun k _ => by
    show (if plg so V n rc j k then pwx (pq so n) x k else 0) ≤ pwx (pq so n) x k
    split <;> omega)
theorem pwx_le {x : Nat} (hx : x < 11) {s : Nat} (hs : s < 2 ^ pq so n) : pwx (pq so n) x s ≤ 10 ^ pq so n := by
  have h := pq_le (so := so) (n := n)
  rw [← pwx_sum (pq so n) (by omega) x hx]
  have := fb_sm_part (pwx (pq so n) x) hs
  omega
theorem p10 {q : Nat} (h : q ≤ 6) : 10 ^ q ≤ 1000000 := by
  have : 10 ^ q ≤ 10 ^ 6 := Nat.pow_le_pow_right (by decide) h
  omega
theorem pbc_lim : ∀ q, q < 7 → ∀ s, s < 2 ^ q → pbc s ≤ q ∧ pbc s = fb_ct (fun i => s.testBit i) q := by decide +kernel
def fodds (so V : Nat → Nat) (n rc : Nat) (k x b : Int32) : Int32 := if ((pkn n k && decide (so k.toNatClampNeg = 2)) && (decide (0 ≤ x ∧ x ≤ 10) && decide (0 ≤ b ∧ b ≤ 1))) = true then
    (if b = 0 then nI (pabv so V n rc (pct so 2 k.toNatClampNeg) x.toNatClampNeg (2 ^ pq so n) / Nat.gcd (pabv so V n rc (pct so 2 k.toNatClampNeg) x.toNatClampNeg (2 ^ pq so n)) (10 ^ pq so n)) else nI (10 ^ pq so n / Nat.gcd (pabv so V n rc (pct so 2 k.toNatClampNeg) x.toNatClampNeg (2 ^ pq so n)) (10 ^ pq so n))) else -1
end JO2
