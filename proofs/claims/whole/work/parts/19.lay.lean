section JL
variable {X : jX} {d : Nat} {M : jMem} {Q : Option Value → jMem → Prop} {L A S Z : Nat} {so V : Nat → Nat} {n rc lo : Nat}
theorem jLS.sz (h : jLS L A S Z) : jSZ S Z := by
  rcases h with ⟨-, -, h⟩ | ⟨-, -, h⟩ | ⟨-, -, h⟩ | ⟨-, -, h⟩
  · exact Or.inl h
  · exact Or.inl h
  · exact Or.inl h
  · exact Or.inr h
theorem nI_cl {k : Nat} (h : k < 2 ^ 31) : (nI k).toNatClampNeg = k := nI_clamp h
theorem sp_isLong (hI : jInj X T0) (hv : jLS L A S Z) {j : Nat} (hlo : M L 2 = nI lo) (h1 : lo < 2 ^ 31) (hj : j < 32) (h : Q (some (.int (jBI (lo.testBit j)))) M) : jOk X T0 d q_X1_isLong [.ref L, .int (nI j)] M Q := by
  refine v_X1_isLong hI hv _ _ _ ?_
  rw [hlo, jbit h1 hj, jBI_n]
  cases hb : lo.testBit j <;> rw [hb] at h
  · exact ⟨fun _ => h, fun g => absurd rfl g⟩
  · exact ⟨fun g => absurd g (by decide), fun _ => h⟩
theorem sp_labelsIn (hI : jInj X T0) (hv : jSZ S Z) {s : Nat} (hs : s < 3) (hi : M S 2 = nI (pis V)) (h33 : V 33 < 256) (h34 : V 34 < 256) (h35 : V 35 < 256) (h : Q (some (.int (nI (V (33 + s))))) M) : jOk X T0 d q_X5_labelsIn [.ref S, .int (nI s)] M Q := by
  refine v_X5_labelsIn hI hv _ _ _ ?_
  rw [hi, show (8 : Int32) = nI 8 from rfl, pk_mul, jshr (by unfold pis; omega) (by omega), show (255 : Int32) = nI (2 ^ 8 - 1) from rfl, fa_mask]
  have : pis V / 2 ^ (8 * s) % 2 ^ 8 = V (33 + s) := by
    unfold pis
    rcases (show s = 0 ∨ s = 1 ∨ s = 2 by omega) with rfl | rfl | rfl <;> simp <;> omega
  rw [this]
  exact h
theorem sp_islandsIn (hI : jInj X T0) (hv : jSZ S Z) {s : Nat} (hs : s < 3) (hi : M S 2 = nI (pis V)) (h33 : V 33 < 256) (h34 : V 34 < 256) (h35 : V 35 < 256) (h : Q (some (.int (nI (pbc (V (33 + s)))))) M) : jOk X T0 (d + 1) q_X5_islandsIn [.ref S, .int (nI s)] M Q := by
  refine v_X5_islandsIn hI hv _ _ _ (sp_labelsIn (V := V) hI hv hs hi h33 h34 h35 ⟨_, rfl, sp_bitCount hI ?_ ⟨_, rfl, h⟩⟩)
  rcases (show s = 0 ∨ s = 1 ∨ s = 2 by omega) with rfl | rfl | rfl <;> simp <;> omega
theorem sp_islandCount (hI : jInj X T0) (hv : jSZ S Z) (hi : M S 2 = nI (pis V)) (h33 : V 33 < 256) (h34 : V 34 < 256) (h35 : V 35 < 256) (h : Q (some (.int (nI (pbc (pis V))))) M) : jOk X T0 (d + 1) q_X5_islandCount [.ref S] M Q := by
  refine v_X5_islandCount hI hv _ _ ?_
  rw [hi]
  exact sp_bitCount hI (by unfold pis; omega) ⟨_, rfl, h⟩
theorem pis_bit {s x : Nat} (hs : s < 3) (hx : x < 8) (h33 : V 33 < 256) (h34 : V 34 < 256) : (pis V).testBit (8 * s + x) = (V (33 + s)).testBit x := by
  have e : pis V = 2 ^ 8 * (2 ^ 8 * V 35 + V 34) + V 33 := by unfold pis; omega
  rw [e, Nat.testBit_two_pow_mul_add _ h33]
  rcases (show s = 0 ∨ s = 1 ∨ s = 2 by omega) with rfl | rfl | rfl
  · rw [if_pos (by omega), show 8 * 0 + x = x by omega]
  · rw [if_neg (by omega), Nat.testBit_two_pow_mul_add _ h34, if_pos (by omega), show 8 * 1 + x - 8 = x by omega]
  · rw [if_neg (by omega), Nat.testBit_two_pow_mul_add _ h34, if_neg (by omega), show 8 * 2 + x - 8 - 8 = x by omega]
theorem sp_hasIsland (hI : jInj X T0) (hv : jSZ S Z) {s x : Nat} (hs : s < 3) (hx : x < 8) (hi : M S 2 = nI (pis V)) (h33 : V 33 < 256) (h34 : V 34 < 256) (h35 : V 35 < 256) (h : Q (some (.int (jBI ((V (33 + s)).testBit x)))) M) : jOk X T0 d q_X5_hasIsland [.ref S, .int (nI s), .int (nI x)] M Q := by
  refine v_X5_hasIsland hI hv _ _ _ _ ?_
  rw [hi, show (8 : Int32) = nI 8 from rfl, pk_mul, nI_add, jbit (by unfold pis; omega) (by omega), pis_bit hs hx h33 h34, jBI_n]
  cases hb : (V (33 + s)).testBit x <;> rw [hb] at h
  · exact ⟨fun _ => h, fun g => absurd rfl g⟩
  · exact ⟨fun g => absurd g (by decide), fun _ => h⟩
/-- whether a way is reached -/
def pnear (rc : Nat) (f : Int) : Bool := decide (-(rc : Int) - 1 ≤ f ∧ f ≤ rc)
theorem sp_reaches (hI : jInj X T0) (hv : jSZ S Z) {f : Int32} (hr : M S 3 = nI rc) (hrc : rc ≤ 127) (h : Q (some (.int (jBI (pnear rc f.toInt)))) M) : jOk X T0 d q_X5_reaches [.ref S, .int f] M Q := by
  refine v_X5_reaches hI hv _ _ _ ?_
  rw [hr]
  have e1 : (-nI rc - 1).toInt = -(rc : Int) - 1 := by
    have h1 : (-nI rc).toInt = -(rc : Int) := sb_negT (by omega)
    rw [fb_subI]
    · rw [h1]; rfl
    · rw [h1]; show _ ≤ -(rc : Int) - 1; omega
    · rw [h1]; show -(rc : Int) - 1 < _; omega
  have e2 : (nI rc).toInt = (rc : Int) := nI_toInt (by omega)
  unfold pnear at h
  refine ⟨fun g => ?_, fun g => ⟨fun g2 => ?_, fun g2 => ?_⟩⟩
  · rw [fa_lt, e1] at g
    rw [decide_eq_false (by omega)] at h
    exact h
  · rw [fa_lt, e2] at g2
    rw [decide_eq_false (by omega)] at h
    exact h
  · rw [fa_lt, e1] at g
    rw [fa_lt, e2] at g2
    rw [decide_eq_true (by omega)] at h
    exact h
theorem nI_ne {a b : Nat} (ha : a < 2 ^ 31) (hb : b < 2 ^ 31) (h : a ≠ b) : ¬ nI a = nI b := fun q => h (nI_inj ha hb q)
theorem sp_bytesOf (hI : jInj X T0) (hv : jLS L A S Z) {k p : Nat} (hc : jCtx M so V n rc S Z) (hw : jWf so V n rc) (hlo : M L 2 = nI lo) (h1 : lo < 2 ^ 31) (hk : k < n) (hp : p < 2 ^ 30) (h : Q (some (.int (nI (plen so V lo k p)))) M) : jOk X T0 (d + 1) q_X1_bytesOf [.ref L, .ref S, .int (nI k), .int (nI p)] M Q := by
  have hk32 : k < 32 := by have := hw.1.1; omega
  have hs := hc.2.1.1 k hk
  have hs5 := hw.2.1.1 k hk
  refine v_X1_bytesOf hI hv _ _ _ _ ⟨vp_in_nI hk32 (by decide), ?_⟩
  rw [nI_cl (by omega), hs]
  have ne : ∀ a b : Nat, a ≤ 5 → b ≤ 5 → nI a = nI b → a = b := fun a b h1 h2 q => nI_inj (by omega) (by omega) q
  have hb : ∀ b : Nat, b ≤ 5 → (nI (so k) = nI b ↔ so k = b) := fun b hb => ⟨fun q => ne _ _ hs5 hb q, fun q => by rw [q]⟩
  refine ⟨fun g => ?_, fun g0 => ⟨fun g => ?_, fun g1 => ⟨fun g => ?_, fun g2 => ⟨fun g => ?_, fun g3 => ⟨fun g => ?_, fun g4 => ⟨fun g => ?_, fun g5 => ?_⟩⟩⟩⟩⟩⟩
  · have e := (hb 0 (by omega)).mp g
    rw [hc.2.2.2.1 k hk e]
    simpa [plen, e] using h
  · have e := (hb 1 (by omega)).mp g
    rw [show plen so V lo k p = 0 by simp [plen, e]] at h
    exact h
  · have e := (hb 2 (by omega)).mp g
    have hn : M 15 k = nI (pct so 2 k) := by rw [hc.2.1.2.2.1 k hk]; simp [pnum, e]
    have hj := pct_lt (n := n) hk e
    have := hw.1.2.2.1
    rw [hn]
    refine sp_isLong hI hv hlo h1 (by omega) ⟨_, rfl, fun g => ?_, fun g => ?_⟩
    · have g9 := jBI_0.mp g
      rw [show plen so V lo k p = 2 by simp [plen, e, g9]] at h
      exact h
    · have : lo.testBit (pct so 2 k) = true := by
        cases hb : lo.testBit (pct so 2 k)
        · exact absurd (jBI_0.mpr hb) g
        · rfl
      rw [show plen so V lo k p = 5 by simp [plen, e, this]] at h
      exact h
  · have e := (hb 3 (by omega)).mp g
    rw [hc.2.1.2.1 k hk (by omega), jpad (hw.2.1.2.2.1 k hk e) hp]
    simpa [plen, e] using h
  · have e := (hb 4 (by omega)).mp g
    rw [show plen so V lo k p = 2 by simp [plen, e]] at h
    exact h
  · have e := (hb 5 (by omega)).mp g
    have hn : M 15 k = nI (pct so 5 k) := by rw [hc.2.1.2.2.1 k hk]; simp [pnum, e]
    have hj := pct_lt (n := n) hk e
    have h3 := hw.1.2.2.2.2
    rw [hn]
    obtain ⟨-, -, ⟨-, w1, w2, w3⟩, -⟩ := id hw
    refine sp_labelsIn (V := V) hI hv.sz (by omega) hc.2.2.2.2.2.1 w1 w2 w3 ⟨_, rfl, sp_bitCount hI ?_ ⟨_, rfl, ?_⟩⟩
    · have := hw.isl (s := pct so 5 k) (by omega); omega
    · rw [show (5 : Int32) = nI 5 from rfl, pk_mul]
      simpa [plen, e] using h
  · exfalso
    have g0' : ¬ so k = 0 := fun q => g0 ((hb 0 (by omega)).mpr q)
    have g1' : ¬ so k = 1 := fun q => g1 ((hb 1 (by omega)).mpr q)
    have g2' : ¬ so k = 2 := fun q => g2 ((hb 2 (by omega)).mpr q)
    have g3' : ¬ so k = 3 := fun q => g3 ((hb 3 (by omega)).mpr q)
    have g4' : ¬ so k = 4 := fun q => g4 ((hb 4 (by omega)).mpr q)
    have g5' : ¬ so k = 5 := fun q => g5 ((hb 5 (by omega)).mpr q)
    omega
end JL
