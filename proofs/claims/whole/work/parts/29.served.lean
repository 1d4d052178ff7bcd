section JSV
variable {X : jX} {d : Nat} {M M0 : jMem} {Q : Option Value → jMem → Prop} {L A S Z : Nat} {so V : Nat → Nat} {n rc lo : Nat}
def piat (so V : Nat → Nat) (n lo s x : Nat) : Nat := ppos so V lo (pit so 5 s n) + 5 * pbc (V (33 + s) % 2 ^ x)
def pifar (so V : Nat → Nat) (n lo k s : Nat) : Int := (piat so V n lo s (V k) : Int) - ppos so V lo (k + 1)
def pisf (so V : Nat → Nat) (n rc lo k : Nat) : Nat → Nat → Int
  | 0, _ => -1000000
  | m + 1, s => if ((V (33 + s)).testBit (V k) && pnear rc (pifar so V n lo k s)) = true then pifar so V n lo k s else pisf so V n rc lo k m (s + 1)
def pserv (so V : Nat → Nat) (n rc lo k : Nat) : Int := if pnear rc (pfar so V n lo k) = true then pfar so V n lo k else pisf so V n rc lo k (pct so 5 n) 0
def psvd (so V : Nat → Nat) (n rc lo : Nat) : Nat := pset (fun c => decide (pserv so V n rc lo (pit so 4 c n) ≠ -1000000)) (pct so 4 n)
theorem jToI {r : Int32} {z : Int} (h : r.toInt = z) : r = -1000000 ↔ z = -1000000 := by
  rw [fa_eq, h, show (-1000000 : Int32).toInt = -1000000 by decide]
theorem jToE {r s : Int32} {z : Int} (h : r.toInt = z) (h2 : s.toInt = z) : r = s := by rw [fa_eq, h, h2]
theorem piat_lt (hw : jWf so V n rc) {s x : Nat} (hs : s < pct so 5 n) : piat so V n lo s x < 2200 := by
  obtain ⟨-, -, h3⟩ := pit_spec n hs
  have h1 := ppos_lt (lo := lo) hw (show pit so 5 s n ≤ n by omega)
  have h2 := pbc_le (V (33 + s) % 2 ^ x)
  unfold piat
  omega
theorem pifar_int (hw : jWf so V n rc) {k s : Nat} (hk : k < n) (hs : s < pct so 5 n) : (nI (piat so V n lo s (V k)) - nI (ppos so V lo (k + 1))).toInt = pifar so V n lo k s ∧ -2200 < pifar so V n lo k s ∧ pifar so V n lo k s < 2200 := by
  have h1 := piat_lt (lo := lo) (x := V k) hw hs
  have h2 := ppos_lt (lo := lo) hw (show k + 1 ≤ n by omega)
  refine ⟨pk_sub_toInt (by omega) (by omega), ?_, ?_⟩ <;> unfold pifar <;> omega
theorem sp_farServed (hI : jInj X T0) (hv : jLS L A S Z) {k : Nat} (hc : jCtx M so V n rc S Z) (hw : jWf so V n rc) (hl : jLaid M L A so V n lo) (hk : k < n) (hs : so k = 4)
    (h : ∀ r : Int32, r.toInt = pserv so V n rc lo k → Q (some (.int r)) M) : jOk X T0 (d + 1) q_X1_farServed [.ref L, .ref S, .int (nI k)] M Q := by
  have hn := hw.1.1
  have hs3 := hw.1.2.2.2.2
  have hv8 := hw.2.1.2.2.2.1 k hk (by omega)
  obtain ⟨-, -, ⟨-, w1, w2, w3⟩, -⟩ := id hw
  refine v_X1_farServed hI hv _ _ _ ?_
  refine sp_farOf hI hv hc hw hl hk (Or.inr hs) (fun r _ hr => ⟨_, rfl, ?_⟩)
  refine sp_reaches hI hv.sz hc.2.2.2.2.2.2 hw.1.2.1 ⟨_, rfl, fun g => ⟨vp_in_nI (by omega) (by decide), ?_⟩, fun g => ?_⟩
  · have hnr := jBI_0.mp g
    rw [hr] at hnr
    rw [nI_cl (by omega), hc.2.1.2.1 k hk (by omega)]
    have e0 : pserv so V n rc lo k = pisf so V n rc lo k (pct so 5 n - 0) 0 := by simp [pserv, hnr]
    have key : ∀ s, s ≤ pct so 5 n → ∀ a3 : Int32, pserv so V n rc lo k = pisf so V n rc lo k (pct so 5 n - s) s →
        jRun X T0 (d + 1) q_X1_farServed (30, [.ref L, .ref S, .int (nI k), .int a3, .int (nI (V k)), .int (nI s), .null], [], M) Q := by
      refine jUp ?_ ?_
      · intro a3 e
        refine v_X1_farServed_30 hv _ _ _ _ _ _ ⟨fun _ => h _ ?_, fun g => absurd ?_ g⟩
        · rw [e, Nat.sub_self]; rfl
        · rw [hc.1.2.2.2]; exact nI_le (Nat.le_refl _) (by omega)
      · intro s hs5 ih a3 e
        obtain ⟨i1, i2, i3⟩ := pit_spec n hs5
        have hstep : pct so 5 n - s = (pct so 5 n - (s + 1)) + 1 := by omega
        rw [hstep] at e
        simp only [pisf] at e
        refine v_X1_farServed_30 hv _ _ _ _ _ _ ⟨fun g => absurd g ?_, fun _ => ?_⟩
        · rw [hc.1.2.2.2]; exact nI_ge hs5 (by omega)
        · refine sp_hasIsland (V := V) hI hv.sz (by omega) hv8 hc.2.2.2.2.2.1 w1 w2 w3 ⟨_, rfl, fun g => ?_, fun g => ?_⟩
          · have hb := jnb g
            refine sp_labelsIn (V := V) hI hv.sz (by omega) hc.2.2.2.2.2.1 w1 w2 w3 ⟨_, rfl, ?_⟩
            have e1 : nI (V (33 + s)) &&& ((1 <<< (nI (V k) &&& 31)) - 1) = nI (V (33 + s) % 2 ^ V k) := by
              rw [jshl1 _ (by omega), show (1 : Int32) = nI 1 from rfl, pk_sub Nat.one_le_two_pow, fa_mask]
            rw [e1]
            have hlt : V (33 + s) % 2 ^ V k < 2 ^ 24 := by
              have := Nat.mod_le (V (33 + s)) (2 ^ V k)
              have := hw.isl (s := s) (by omega)
              omega
            refine sp_bitCount hI hlt ⟨_, rfl, vp_in_nI (by omega) (by decide), ?_⟩
            have e20 : M 20 s = nI (pit so 5 s n) := by rw [← hc.2.2.1.2.2.2 _ i3 i1, i2]
            have p2 := ppos_lt (lo := lo) hw (show k + 1 ≤ n by omega)
            rw [nI_cl (by omega), e20, nI_cl (by omega), nI_1, nI_cl (by omega), hl.2 _ (by omega), hl.2 _ (by omega), show (5 : Int32) = nI 5 from rfl, pk_mul, nI_add]
            refine ⟨vp_in_nI (by omega) (by decide), vp_in_nI (by omega) (by decide), ?_⟩
            show jOk X T0 d q_X5_reaches [.ref S, .int (nI (piat so V n lo s (V k)) - nI (ppos so V lo (k + 1)))] M _
            have hz := pifar_int (lo := lo) hw hk hs5
            refine sp_reaches hI hv.sz hc.2.2.2.2.2.2 hw.1.2.1 ⟨_, rfl, fun g2 => ?_, fun g2 => ?_⟩
            · have := jBI_0.mp g2
              rw [hz.1] at this
              rw [hb, this] at e
              have := ih (nI (piat so V n lo s (V k)) - nI (ppos so V lo (k + 1))) (by simpa using e)
              rw [nI_1]
              exact this
            · have := jnb g2
              rw [hz.1] at this
              rw [hb, this] at e
              exact h _ (hz.1.trans (by simpa using e.symm))
          · have hb := jBI_0.mp g
            rw [hb] at e
            have := ih a3 (by simpa using e)
            rw [nI_1]
            exact this
    exact key 0 (Nat.zero_le _) r e0
  · have hnr := jnb g
    rw [hr] at hnr
    exact h _ (by rw [hr]; simp [pserv, hnr])
theorem sp_servedCalls (hI : jInj X T0) (hv : jLS L A S Z) (hc : jCtx M so V n rc S Z) (hw : jWf so V n rc) (hl : jLaid M L A so V n lo)
    (h : Q (some (.int (nI (psvd so V n rc lo)))) M) : jOk X T0 (d + 2) q_X1_servedCalls [.ref L, .ref S] M Q := by
  have hc6 := hw.1.2.2.2.1
  refine v_X1_servedCalls hI hv _ _ ?_
  obtain ⟨c, hcd⟩ : ∃ c : Nat → Bool, c = fun c => decide (pserv so V n rc lo (pit so 4 c n) ≠ -1000000) := ⟨_, rfl⟩
  have h : Q (some (.int (nI (pset c (pct so 4 n))))) M := by rw [hcd]; exact h
  have key : ∀ j, j ≤ pct so 4 n → jRun X T0 (d + 2) q_X1_servedCalls (4, [.ref L, .ref S, .int (nI (pset c j)), .int (nI j)], [], M) Q := by
    refine jUp ?_ ?_
    · refine v_X1_servedCalls_4 hv _ _ _ _ ⟨fun _ => h, fun g => absurd ?_ g⟩
      rw [hc.1.2.2.1]; exact nI_le (Nat.le_refl _) (by omega)
    · intro j hj ih
      obtain ⟨i1, i2, i3⟩ := pit_spec n hj
      refine v_X1_servedCalls_4 hv _ _ _ _ ⟨fun g => absurd g ?_, fun _ => ⟨vp_in_nI (by omega) (by decide), ?_⟩⟩
      · rw [hc.1.2.2.1]; exact nI_ge hj (by omega)
      · rw [nI_cl (by omega), show M 19 j = nI (pit so 4 j n) by rw [← hc.2.2.1.2.2.1 _ i3 i1, i2]]
        refine sp_farServed hI hv hc hw hl i3 i1 (fun r hr => ⟨_, rfl, fun g => ?_, fun g => ?_⟩)
        · rw [jToI hr] at g
          rw [show pset c (j + 1) = pset c j by simp [pset, hcd, g]] at ih
          rw [nI_1]
          exact ih
        · rw [jToI hr] at g
          have hy : c j = true := by rw [hcd]; simp [g]
          have := pset_or (c := c) (m := j) (by omega)
          rw [if_pos hy] at this
          rw [jshl1 j (by omega), this, nI_1]
          exact ih
  exact key 0 (Nat.zero_le _)
theorem psvd_all : psvd so V n rc lo = 2 ^ pct so 4 n - 1 ↔ ∀ c, c < pct so 4 n → pserv so V n rc lo (pit so 4 c n) ≠ -1000000 := by
  refine ⟨fun h c hc => ?_, fun h => Nat.eq_of_testBit_eq (fun j => ?_)⟩
  · have h1 := congrArg (fun z => z.testBit c) h
    simp only [psvd, pset_bit, Nat.testBit_two_pow_sub_one] at h1
    simpa [hc] using h1
  · rw [psvd, pset_bit, Nat.testBit_two_pow_sub_one]
    by_cases hj : j < pct so 4 n
    · simp [hj, h j hj]
    · simp [hj]
theorem sp_servesAll (hI : jInj X T0) (hv : jLS L A S Z) (hc : jCtx M so V n rc S Z) (hw : jWf so V n rc) (hl : jLaid M L A so V n lo)
    (h : Q (some (.int (jBI (decide (psvd so V n rc lo = 2 ^ pct so 4 n - 1))))) M) : jOk X T0 (d + 2) q_X1_servesAll [.ref L, .ref S] M Q := by
  have hc6 := hw.1.2.2.2.1
  refine v_X1_servesAll hI hv _ _ ?_
  have key : ∀ j, j ≤ pct so 4 n → (∀ c, c < j → pserv so V n rc lo (pit so 4 c n) ≠ -1000000) → jRun X T0 (d + 2) q_X1_servesAll (2, [.ref L, .ref S, .int (nI j)], [], M) Q := by
    refine jUp ?_ ?_
    · intro hall
      refine v_X1_servesAll_2 hv _ _ _ ⟨fun _ => ?_, fun g => absurd ?_ g⟩
      · rw [decide_eq_true (psvd_all.mpr hall)] at h
        exact h
      · rw [hc.1.2.2.1]; exact nI_le (Nat.le_refl _) (by omega)
    · intro j hj ih hall
      obtain ⟨i1, i2, i3⟩ := pit_spec n hj
      refine v_X1_servesAll_2 hv _ _ _ ⟨fun g => absurd g ?_, fun _ => ⟨vp_in_nI (by omega) (by decide), ?_⟩⟩
      · rw [hc.1.2.2.1]; exact nI_ge hj (by omega)
      · rw [nI_cl (by omega), show M 19 j = nI (pit so 4 j n) by rw [← hc.2.2.1.2.2.1 _ i3 i1, i2]]
        refine sp_farServed hI hv hc hw hl i3 i1 (fun r hr => ⟨_, rfl, fun g => ?_, fun g => ?_⟩)
        · rw [jToI hr] at g
          have := ih (fun c hc => by
            by_cases e : c = j
            · subst e; exact g
            · exact hall c (by omega))
          rw [nI_1]
          exact this
        · rw [jToI hr] at g
          rw [decide_eq_false (fun q => psvd_all.mp q j hj g)] at h
          exact h
  exact key 0 (Nat.zero_le _) (fun c hc => absurd hc (Nat.not_lt_zero c))
end JSV
section JSM
variable {X : jX} {d : Nat} {M M0 : jMem} {Q : Option Value → jMem → Prop} {so V : Nat → Nat} {n rc lo : Nat}
theorem sp_isleAt (hI : jInj X T0) {s x : Nat} (hc : mCtx M so V n rc) (hw : jWf so V n rc) (hl : mLaid M so V n lo) (hs : s < pct so 5 n) (hx : x < 8)
    (h : Q (some (.int (nI (piat so V n lo s x)))) M) : jOk X T0 (d + 1) q_X8_isleAt [.ref 54, .int (nI s), .int (nI x)] M Q := by
  have hn := hw.1.1
  have hs3 := hw.1.2.2.2.2
  obtain ⟨i1, i2, i3⟩ := pit_spec n hs
  have e60 : M 60 s = nI (pit so 5 s n) := by rw [← hc.2.2.2.2.2 _ i3 i1, i2]
  refine v_X8_isleAt hI _ _ _ _ ?_
  rw [nI_cl (by omega), e60, nI_cl (by omega), show (33 : Int32) = nI 33 from rfl, nI_add, nI_cl (by omega), hc.2.1.2 _ (by omega)]
  refine ⟨vp_in_nI (by omega) (by decide), vp_in_nI (by omega) (by decide), vp_in_nI (by omega) (by decide), ?_⟩
  rw [jshl1 _ (by omega), show (1 : Int32) = nI 1 from rfl, pk_sub Nat.one_le_two_pow, fa_mask]
  refine sp_bits hI ?_ ⟨_, rfl, ?_⟩
  · have := Nat.mod_le (V (33 + s)) (2 ^ x)
    have := hw.isl (s := s) (by omega)
    omega
  · rw [hl.2 _ (by omega), show (5 : Int32) = nI 5 from rfl, pk_mul, nI_add]
    exact h
theorem sp_isleFar (hI : jInj X T0) {k : Nat} (hc : mCtx M so V n rc) (hw : jWf so V n rc) (hl : mLaid M so V n lo) (hk : k < n) (hs : so k = 4)
    (h : ∀ r : Int32, r.toInt = pisf so V n rc lo k (pct so 5 n) 0 → Q (some (.int r)) M) : jOk X T0 (d + 2) q_X8_isleFar [.ref 54, .int (nI k)] M Q := by
  have hn := hw.1.1
  have hs3 := hw.1.2.2.2.2
  have hv8 := hw.2.1.2.2.2.1 k hk (by omega)
  refine v_X8_isleFar hI _ _ _ ?_
  obtain ⟨z0, hz0⟩ : ∃ z0, z0 = pisf so V n rc lo k (pct so 5 n) 0 := ⟨_, rfl⟩
  rw [← hz0] at h
  have key : ∀ s, s ≤ pct so 5 n → z0 = pisf so V n rc lo k (pct so 5 n - s) s → jRun X T0 (d + 2) q_X8_isleFar (2, [.ref 54, .int (nI k), .int (nI s), .null], [], M) Q := by
    refine jUp ?_ ?_
    · intro e
      refine v_X8_isleFar_2 _ _ _ _ ⟨fun _ => h _ ?_, fun g => absurd ?_ g⟩
      · rw [e, Nat.sub_self]; rfl
      · rw [hc.1.2.2.2.2.1]; exact nI_le (Nat.le_refl _) (by omega)
    · intro s hs5 ih e
      have hstep : pct so 5 n - s = (pct so 5 n - (s + 1)) + 1 := by omega
      rw [hstep] at e
      simp only [pisf] at e
      refine v_X8_isleFar_2 _ _ _ _ ⟨fun g => absurd g ?_, fun _ => ?_⟩
      · rw [hc.1.2.2.2.2.1]; exact nI_ge hs5 (by omega)
      · rw [show (33 : Int32) = nI 33 from rfl, nI_add, nI_cl (by omega), nI_cl (by omega), hc.2.1.2 _ (by omega), hc.2.1.2 k (by omega)]
        have h256 := hw.isl (s := s) (by omega)
        refine ⟨vp_in_nI (by omega) (by decide), vp_in_nI (by omega) (by decide), sp_has hI (by omega) (by omega) ⟨_, rfl, fun g => ?_, fun g => ?_⟩⟩
        · have hb := jBI_0.mp g
          rw [hb] at e
          have := ih (by simpa using e)
          rw [nI_1]
          exact this
        · have hb := jnb g
          rw [hc.2.1.2 k (by omega)]
          refine sp_isleAt hI hc hw hl hs5 hv8 ⟨_, rfl, ?_⟩
          rw [nI_1, nI_cl (by omega), hl.2 _ (by omega)]
          have hz := pifar_int (lo := lo) hw hk hs5
          refine ⟨vp_in_nI (by omega) (by decide), sp_isNear hI hc.1.2.1 hw.1.2.1 ⟨_, rfl, fun g2 => ?_, fun g2 => ?_⟩⟩
          · have := jBI_0.mp g2
            rw [hz.1] at this
            rw [hb, this] at e
            have := ih (by simpa using e)
            rw [nI_1]
            exact this
          · have := jnb g2
            rw [hz.1] at this
            rw [hb, this] at e
            exact h _ (by rw [hz.1]; simpa using e.symm)
  exact key 0 (Nat.zero_le _) (by rw [hz0, Nat.sub_zero])
theorem sp_served (hI : jInj X T0) (hc : mCtx M so V n rc) (hw : jWf so V n rc) (hl : mLaid M so V n lo)
    (h : Q (some (.int (nI (psvd so V n rc lo)))) M) : jOk X T0 (d + 3) q_X8_served [.ref 54] M Q := by
  have hc6 := hw.1.2.2.2.1
  refine v_X8_served hI _ _ ?_
  obtain ⟨c, hcd⟩ : ∃ c : Nat → Bool, c = fun c => decide (pserv so V n rc lo (pit so 4 c n) ≠ -1000000) := ⟨_, rfl⟩
  have h : Q (some (.int (nI (pset c (pct so 4 n))))) M := by rw [hcd]; exact h
  have key : ∀ j, j ≤ pct so 4 n → jRun X T0 (d + 3) q_X8_served (4, [.ref 54, .int (nI (pset c j)), .int (nI j)], [], M) Q := by
    refine jUp ?_ ?_
    · refine v_X8_served_4 _ _ _ _ ⟨fun _ => h, fun g => absurd ?_ g⟩
      rw [hc.1.2.2.2.1]; exact nI_le (Nat.le_refl _) (by omega)
    · intro j hj ih
      obtain ⟨i1, i2, i3⟩ := pit_spec n hj
      have rg := pfar_rng (lo := lo) hw i3 (Or.inr i1)
      have yes : c j = true → jRun X T0 (d + 3) q_X8_served (4, [.ref 54, .int (nI (pset c j) ||| (1 <<< (nI j &&& 31))), .int (nI j + 1)], [], M) Q := by
        intro hy
        have := pset_or (c := c) (m := j) (by omega)
        rw [if_pos hy] at this
        rw [jshl1 j (by omega), this, nI_1]
        exact ih
      refine v_X8_served_4 _ _ _ _ ⟨fun g => absurd g ?_, fun _ => ⟨vp_in_nI (by omega) (by decide), ?_⟩⟩
      · rw [hc.1.2.2.2.1]; exact nI_ge hj (by omega)
      · have e59 : M 59 j = nI (pit so 4 j n) := by rw [← hc.2.2.2.2.1 _ i3 i1, i2]
        rw [nI_cl (by omega), e59]
        refine sp_mfarOf hI hc hw hl i3 (Or.inr i1) (fun r _ hr => ⟨_, rfl, ?_⟩)
        refine sp_isNear hI hc.1.2.1 hw.1.2.1 ⟨_, rfl, fun g => yes ?_, fun g => ?_⟩
        · have := jnb g
          rw [hr] at this
          rw [hcd]
          simp only [pserv, this, if_true]
          exact decide_eq_true (by omega)
        · have hnr := jBI_0.mp g
          rw [hr] at hnr
          rw [e59]
          have e0 : pserv so V n rc lo (pit so 4 j n) = pisf so V n rc lo (pit so 4 j n) (pct so 5 n) 0 := by simp [pserv, hnr]
          refine sp_isleFar hI hc hw hl i3 i1 (fun r2 hr2 => ⟨_, rfl, fun g2 => ?_, fun g2 => yes ?_⟩)
          · rw [jToI hr2] at g2
            rw [show pset c (j + 1) = pset c j by simp [pset, hcd, e0, g2]] at ih
            rw [jor0, nI_1]
            exact ih
          · rw [jToI hr2] at g2
            rw [hcd]
            simp [e0, g2]
  exact key 0 (Nat.zero_le _)
end JSM
