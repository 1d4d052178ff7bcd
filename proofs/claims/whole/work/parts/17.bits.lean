/-! the count of bits as the machine's library does it -/
theorem jlane (A B a b : Nat) (ha : a < 256) (hb : b < 256) : (256 * A + a) &&& (256 * B + b) = 256 * (A &&& B) + (a &&& b) := by
  apply Nat.eq_of_testBit_eq
  intro j
  have hab : a &&& b < 2 ^ 8 := Nat.and_lt_two_pow _ hb
  rw [Nat.testBit_and, show (256 : Nat) = 2 ^ 8 from rfl, Nat.testBit_two_pow_mul_add _ ha, Nat.testBit_two_pow_mul_add _ hb, Nat.testBit_two_pow_mul_add _ hab]
  split <;> simp [Nat.testBit_and]
theorem jl1 : ∀ a, a < 256 → ∀ c, c < 2 → (128 * c + a / 2) &&& 85 = (a / 2) &&& 85 ∧ (a / 2) &&& 85 ≤ a := by decide +kernel
theorem jl2 : ∀ a, a < 256 → ∀ c, c < 4 → (64 * c + a / 4) &&& 51 = (a / 4) &&& 51 := by decide +kernel
def jb1 (a : Nat) : Nat := a - ((a / 2) &&& 85)
def jb2 (a : Nat) : Nat := (a &&& 51) + ((a / 4) &&& 51)
theorem jb_small : ∀ a, a < 256 → jb2 (jb1 a) ≤ 68 ∧ (jb2 (jb1 a)) % 16 + (jb2 (jb1 a)) / 16 ≤ 8 ∧ (jb2 (jb1 a)) % 16 ≤ 4 ∧ (jb2 (jb1 a)) / 16 ≤ 4 ∧ (jb2 (jb1 a)) % 16 + (jb2 (jb1 a)) / 16 = fb_ct (fun i => a.testBit i) 8 := by decide +kernel
theorem jl4 : ∀ v, v < 256 → v &&& 15 = v % 16 := by decide +kernel
theorem jst1 (y a m : Nat) (ha : a < 256) : (256 * y + a) - (((256 * y + a) / 2) &&& (256 * m + 85)) = 256 * (y - ((y / 2) &&& m)) + jb1 a := by
  have e : (256 * y + a) / 2 = 256 * (y / 2) + (128 * (y % 2) + a / 2) := by omega
  have h := jl1 a ha (y % 2) (Nat.mod_lt _ (by decide))
  have h2 : (y / 2) &&& m ≤ y := Nat.le_trans Nat.and_le_left (Nat.div_le_self _ _)
  rw [e, jlane _ _ _ _ (by omega) (by decide), h.1]
  unfold jb1
  omega
theorem jst2 (y a m : Nat) (ha : a < 256) : ((256 * y + a) &&& (256 * m + 51)) + (((256 * y + a) / 4) &&& (256 * m + 51)) = 256 * ((y &&& m) + ((y / 4) &&& m)) + jb2 a := by
  have e : (256 * y + a) / 4 = 256 * (y / 4) + (64 * (y % 4) + a / 4) := by omega
  have h := jl2 a ha (y % 4) (Nat.mod_lt _ (by decide))
  rw [e, jlane _ _ _ _ ha (by decide), jlane _ _ _ _ (by omega) (by decide), h]
  unfold jb2
  omega
theorem jst3 (y a m : Nat) (ha : a ≤ 68) (hy : y % 16 ≤ 4) : ((256 * y + a) + (256 * y + a) / 16) &&& (256 * m + 15) = 256 * ((y + y / 16) &&& m) + (a + a / 16) % 16 := by
  have e : (256 * y + a) + (256 * y + a) / 16 = 256 * (y + y / 16) + (a + a / 16 + 16 * (y % 16)) := by omega
  rw [e, jlane _ _ _ _ (by omega) (by decide), jl4 _ (by omega)]
  omega
def jus (x k : Int32) : Int32 := (x.toUInt32 >>> (k.toUInt32 &&& Int32.toUInt32 31)).toInt32
theorem jus_n {n : Nat} (hn : n < 2 ^ 32) (s : Int32) (k : Nat) (hs : ((s.toUInt32 &&& Int32.toUInt32 31).toBitVec % 32).toNat = k) : jus (nI n) s = nI (n / 2 ^ k) := pk_ushrN hn s k hs
def jbcI (a : Int32) : Int32 :=
  let v1 := a - (jus a 1 &&& 1431655765)
  let v2 := (v1 &&& 858993459) + (jus v1 2 &&& 858993459)
  let v3 := (v2 + jus v2 4) &&& 252645135
  let v4 := v3 + jus v3 8
  (v4 + jus v4 16) &&& 63
theorem jbcI_eq {x : Nat} (hx : x < 2 ^ 24) : jbcI (nI x) = nI (pbc x) := by
  obtain ⟨c, b, a, hc, hb, ha, rfl⟩ : ∃ c b a, c < 256 ∧ b < 256 ∧ a < 256 ∧ x = 256 * (256 * c + b) + a := ⟨x / 65536, x / 256 % 256, x % 256, by omega, by omega, by omega, by omega⟩
  have sa := jb_small a ha
  have sb := jb_small b hb
  have sc := jb_small c hc
  have l1a : jb1 a ≤ a := Nat.sub_le _ _
  have l1b : jb1 b ≤ b := Nat.sub_le _ _
  have l1c : jb1 c ≤ c := Nat.sub_le _ _
  -- first
  have e1 : nI (256 * (256 * c + b) + a) - (jus (nI (256 * (256 * c + b) + a)) 1 &&& 1431655765) = nI (256 * (256 * jb1 c + jb1 b) + jb1 a) := by
    rw [jus_n (by omega) 1 1 (by decide +kernel), show (1431655765 : Int32) = nI (256 * (256 * (256 * 85 + 85) + 85) + 85) from rfl, fa_and, pk_sub, jst1 _ _ _ ha, jst1 _ _ _ hb]
    · have := jst1 0 c 85 hc
      simp only [Nat.mul_zero, Nat.zero_add, Nat.zero_div, Nat.zero_and, Nat.sub_self] at this
      rw [this]
    · exact Nat.le_trans Nat.and_le_left (Nat.div_le_self _ _)
  have e2 : (nI (256 * (256 * jb1 c + jb1 b) + jb1 a) &&& 858993459) + (jus (nI (256 * (256 * jb1 c + jb1 b) + jb1 a)) 2 &&& 858993459) = nI (256 * (256 * jb2 (jb1 c) + jb2 (jb1 b)) + jb2 (jb1 a)) := by
    rw [jus_n (by omega) 2 2 (by decide +kernel), show (858993459 : Int32) = nI (256 * (256 * (256 * 51 + 51) + 51) + 51) from rfl, fa_and, fa_and, nI_add, show (2 : Nat) ^ 2 = 4 from rfl, jst2 _ _ _ (by omega), jst2 _ _ _ (by omega)]
    have := jst2 0 (jb1 c) 51 (by omega)
    simp only [Nat.mul_zero, Nat.zero_add, Nat.zero_div, Nat.zero_and] at this
    rw [this]
  generalize jb2 (jb1 a) = a2 at *
  generalize jb2 (jb1 b) = b2 at *
  generalize jb2 (jb1 c) = c2 at *
  have e3 : (nI (256 * (256 * c2 + b2) + a2) + jus (nI (256 * (256 * c2 + b2) + a2)) 4) &&& 252645135 = nI (256 * (256 * (c2 % 16 + c2 / 16) + (b2 % 16 + b2 / 16)) + (a2 % 16 + a2 / 16)) := by
    rw [jus_n (by omega) 4 4 (by decide +kernel), show (252645135 : Int32) = nI (256 * (256 * (256 * 15 + 15) + 15) + 15) from rfl, nI_add, fa_and, show (2 : Nat) ^ 4 = 16 from rfl, jst3 _ _ _ (by omega) (by omega), jst3 _ _ _ (by omega) (by omega)]
    have := jst3 0 c2 15 (by omega) (by omega)
    simp only [Nat.mul_zero, Nat.zero_add, Nat.zero_div, Nat.zero_and] at this
    rw [this]
    congr 1
    omega
  have hp : pbc (256 * (256 * c + b) + a) = (a2 % 16 + a2 / 16) + (b2 % 16 + b2 / 16) + (c2 % 16 + c2 / 16) := by
    unfold pbc
    rw [show (24 : Nat) = 8 + (8 + 8) from rfl, fb_ct_split, fb_ct_split, sa.2.2.2.2, sb.2.2.2.2, sc.2.2.2.2]
    have t : ∀ j, (256 * (256 * c + b) + a).testBit j = if j < 8 then a.testBit j else (256 * c + b).testBit (j - 8) := fun j => Nat.testBit_two_pow_mul_add (i := 8) _ ha j
    have t2 : ∀ j, (256 * c + b).testBit j = if j < 8 then b.testBit j else c.testBit (j - 8) := fun j => Nat.testBit_two_pow_mul_add (i := 8) _ hb j
    have q1 : fb_ct (fun i => (256 * (256 * c + b) + a).testBit i) 8 = fb_ct (fun i => a.testBit i) 8 := fb_ct_cong (fun k hk => by rw [t, if_pos hk])
    have q2 : fb_ct (fun k => (256 * (256 * c + b) + a).testBit (8 + k)) 8 = fb_ct (fun i => b.testBit i) 8 := fb_ct_cong (fun k hk => by rw [t, if_neg (by omega), t2, if_pos (by omega), show 8 + k - 8 = k by omega])
    have q3 : fb_ct (fun k => (256 * (256 * c + b) + a).testBit (8 + (8 + k))) 8 = fb_ct (fun i => c.testBit i) 8 := fb_ct_cong (fun k hk => by rw [t, if_neg (by omega), t2, if_neg (by omega), show 8 + (8 + k) - 8 - 8 = k by omega])
    omega
  unfold jbcI
  simp only [e1, e2, e3]
  rw [hp]
  generalize c2 % 16 + c2 / 16 = r at *
  generalize b2 % 16 + b2 / 16 = q at *
  generalize a2 % 16 + a2 / 16 = p at *
  have d1 : (256 * (256 * r + q) + p) / 2 ^ 8 = 256 * r + q := by omega
  have d2 : (256 * (256 * r + q) + p + (256 * r + q)) / 2 ^ 16 = r := by omega
  rw [jus_n (by omega) 8 8 (by decide +kernel), nI_add, d1, jus_n (by omega) 16 16 (by decide +kernel), nI_add, d2, show (63 : Int32) = nI (2 ^ 6 - 1) from rfl, fa_mask]
  congr 1
  omega
theorem sp_bitCount {X : jX} {d : Nat} (hI : jInj X T0) {x : Nat} (hx : x < 2 ^ 24) {M : jMem} {Q : Option Value → jMem → Prop} (h : Q (some (.int (nI (pbc x)))) M) : jOk X T0 d q_J6_bitCount_0f7a4 [.int (nI x)] M Q := by
  rw [← jbcI_eq hx] at h
  exact v_J6_bitCount_0f7a4 hI _ _ _ h
