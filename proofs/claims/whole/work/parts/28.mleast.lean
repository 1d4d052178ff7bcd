section JML
variable {X : jX} {d : Nat} {M M0 : jMem} {Q : Option Value → jMem → Prop} {so V : Nat → Nat} {n rc lo : Nat}
def pmi (o : Option Nat) : Int32 := match o with
  | none => -9
  | some b => nI b
theorem pmb_lt : ∀ i b, pmb so V n rc i = some b → b < i
  | 0, b, h => by cases h
  | i + 1, b, h => by
    have ih := pmb_lt i
    simp only [pmb] at h
    split at h
    · split at h
      · cases h; omega
      · rename_i b' hb'
        split at h
        · cases h; omega
        · cases h
          have := ih _ hb'
          omega
    · have := ih b h
      omega
theorem sp_leastOf (hI : jInj X T0) (hc : mCtx M so V n rc) (hw : jWf so V n rc)
    (h : ∀ M', mFr M M' → mLaid M' so V n (pleast so V n rc) → M' 54 31 = 0 → Q none M') : jOk X T0 (d + 3) q_X8_leastOf [.ref 54] M Q := by
  have hj10 := hw.1.2.2.1
  have hp : 2 ^ pct so 2 n ≤ 2 ^ 10 := Nat.pow_le_pow_right (by decide) hj10
  have hp1 : 1 ≤ 2 ^ pct so 2 n := Nat.one_le_two_pow
  have hV := hw.2.2.1.1
  have hn := hw.1.1
  have psz : ∀ l, ppos so V l n < 2000 := fun l => ppos_lt hw (Nat.le_refl _)
  refine v_X8_leastOf hI _ _ (fun M1 e1 => ?_)
  have hf1 : mFr M M1 := by subst e1; exact mFr.rf.put (Or.inr rfl)
  have hr1 : M1 54 31 = 0 := by subst e1; rw [jP_s]; simp [upd]
  have key : ∀ i, i ≤ 2 ^ pct so 2 n → ∀ (M1 : jMem) (sz : Int32), mFr M M1 → M1 54 31 = 0 → (∀ b, pmb so V n rc i = some b → sz = nI (ppos so V b n)) →
      jRun X T0 (d + 3) q_X8_leastOf (12, [.ref 54, .int (pmi (pmb so V n rc i)), .int sz, .int (nI i), .null, .null], [], M1) Q := by
    refine jUp ?_ ?_
    · intro M1 sz hf hr _
      have hc1 := hf.ctx hc
      refine v_X8_leastOf_12 _ _ _ _ _ ?_
      rw [hc1.1.2.2.1, jshl1 _ (by omega)]
      refine ⟨fun _ => ?_, fun g => absurd (nI_le (Nat.le_refl _) (by omega)) g⟩
      have hb := pmb_lt (so := so) (V := V) (n := n) (rc := rc) _ _ (pmb_end hw)
      rw [pmb_end hw]
      refine sp_layOut2 hI hc1 hw (by omega) (fun M2 hf2 hl2 h2 => ⟨rfl, h M2 (hf.tr hf2) hl2 (by rw [h2, hr])⟩)
    · intro i hi ih M1 sz hf hr hsz
      have hc1 := hf.ctx hc
      have stay : pmb so V n rc (i + 1) = pmb so V n rc i → ∀ M2, mFr M M2 → M2 54 31 = 0 → jRun X T0 (d + 3) q_X8_leastOf (127, [.ref 54, .int (pmi (pmb so V n rc i)), .int sz, .int (nI i), .null, .null], [], M2) Q := by
        intro e M2 hf2 hr2
        refine v_X8_leastOf_127 _ _ _ _ _ ?_
        have := ih M2 sz hf2 hr2 (fun b hb => hsz b (by rw [← e]; exact hb))
        rw [e] at this
        rw [nI_1]
        exact this
      refine v_X8_leastOf_12 _ _ _ _ _ ?_
      rw [hc1.1.2.2.1, jshl1 _ (by omega), hc1.2.1.2 32 (by decide), jdiff]
      refine ⟨fun g => absurd g (nI_ge hi (by omega)), fun _ => ⟨fun g => ?_, fun g => ?_⟩⟩
      · have hpin : ¬ i &&& V 32 = V 32 := fun q => g (by rw [pdiff_nil.mpr q]; rfl)
        exact stay (by simp [pmb, pgood, hpin]) M1 hf hr
      · have hd9 := pdiff_lt (b := i) hV
        have hpin : i &&& V 32 = V 32 := pdiff_nil.mp (nI_inj (by omega) (by decide) g)
        refine sp_layOut2 hI hc1 hw (by omega) (fun M2 hf2 hl2 h2 => ⟨rfl, ?_⟩)
        have hf2' := hf.tr hf2
        have hc2 := hf2'.ctx hc
        have hr2 : M2 54 31 = 0 := by rw [h2, hr]
        have hs := pstr_lt (so := so) (V := V) (n := n) (rc := rc) i
        have e69 : M2 69 (M2 54 7).toNatClampNeg = nI (ppos so V i n) := by rw [hc2.1.1, nI_cl (by omega), hl2.2 n (Nat.le_refl _)]
        have at103 : ∀ q ah : Bool, q = decide (pstr so V n rc i = 0) → (ah = match pmb so V n rc i with | none => true | some b => pbet so V n i b) → jRun X T0 (d + 3) q_X8_leastOf (103, [.ref 54, .int (pmi (pmb so V n rc i)), .int sz, .int (nI i), .int (jBI q), .null], [.int (jBI ah)], M2) Q := by
          intro q ah hq hah
          refine v_X8_leastOf_103 _ _ _ _ _ _ _ ⟨fun g2 => stay ?_ M2 hf2' hr2, fun g2 => ⟨fun g3 => stay ?_ M2 hf2' hr2, fun g3 => ⟨?_, ?_⟩⟩⟩
          · have := jBI_0.mp g2
            rw [this] at hq
            simp [pmb, pgood, ← hq]
          · have h3 := jBI_0.mp g3
            rw [h3] at hah
            cases hb : pmb so V n rc i with
            | none => rw [hb] at hah; cases hah
            | some b =>
              rw [hb] at hah
              dsimp only at hah
              simp [pmb, hb, ← hah]
          · rw [hc2.1.1]; exact vp_in_nI (by omega) (by decide)
          · have hq1 := jnb g2
            have ha1 := jnb g3
            rw [hq1] at hq
            rw [ha1] at hah
            have hgood : pgood so V n rc i = true := by simp only [pgood, hpin, ← hq]; simp
            have e : pmb so V n rc (i + 1) = some i := by
              cases hb : pmb so V n rc i with
              | none => simp [pmb, hgood, hb]
              | some b =>
                rw [hb] at hah
                dsimp only at hah
                simp [pmb, hgood, hb, ← hah]
            refine v_X8_leastOf_127 _ _ _ _ _ ?_
            rw [e69]
            have := ih M2 (nI (ppos so V i n)) hf2' hr2 (fun b hb => by rw [e] at hb; cases hb; rfl)
            rw [e] at this
            rw [nI_1]
            exact this
        have at53 : ∀ q : Bool, q = decide (pstr so V n rc i = 0) → jRun X T0 (d + 3) q_X8_leastOf (53, [.ref 54, .int (pmi (pmb so V n rc i)), .int sz, .int (nI i), .null, .null], [.int (jBI q)], M2) Q := by
          intro q hq
          refine v_X8_leastOf_53 _ _ _ _ _ _ ?_
          rw [e69]
          cases hb : pmb so V n rc i with
          | none =>
            refine ⟨fun _ => ?_, fun g => absurd rfl g⟩
            have := at103 q true hq (by rw [hb])
            rw [hb] at this
            exact v_X8_leastOf_98 _ _ _ _ _ _ this
          | some b =>
            have hbl := pmb_lt (so := so) (V := V) (n := n) (rc := rc) i b hb
            have hsb := hsz b hb
            have p1 := psz i
            have p2 := psz b
            have hne : ¬ pmi (some b) = -9 := by
              intro z
              have z : nI b = -9 := z
              have := congrArg Int32.toInt z
              rw [nI_toInt (by omega)] at this
              have h9 : (-9 : Int32).toInt = -9 := by decide
              omega
            refine ⟨fun g => absurd g hne, fun _ => ⟨by rw [hc2.1.1]; exact vp_in_nI (by omega) (by decide), ?_⟩⟩
            rw [hsb]
            have to98 : pbet so V n i b = true → jRun X T0 (d + 3) q_X8_leastOf (98, [.ref 54, .int (pmi (some b)), .int (nI (ppos so V b n)), .int (nI i), .int (jBI q), .null], [], M2) Q := by
              intro z
              have := at103 q true hq (by rw [hb]; exact z.symm)
              rw [hb, hsb] at this
              exact v_X8_leastOf_98 _ _ _ _ _ _ this
            have to102 : pbet so V n i b = false → jRun X T0 (d + 3) q_X8_leastOf (102, [.ref 54, .int (pmi (some b)), .int (nI (ppos so V b n)), .int (nI i), .int (jBI q), .null], [], M2) Q := by
              intro z
              have := at103 q false hq (by rw [hb]; exact z.symm)
              rw [hb, hsb] at this
              exact v_X8_leastOf_102 _ _ _ _ _ _ this
            refine ⟨fun g2 => ?_, fun g2 => ⟨fun g3 => ?_, fun g3 => ?_⟩⟩
            · rw [nI_ltI (by omega) (by omega)] at g2
              exact to98 (by simp [pbet, g2])
            · rw [nI_ltI (by omega) (by omega)] at g2
              have g3 : ppos so V i n ≠ ppos so V b n := fun q => g3 (by rw [q])
              exact to102 (by simp [pbet, g2, g3])
            · have g3 : ppos so V i n = ppos so V b n := nI_inj (by omega) (by omega) g3
              refine sp_bits hI (by omega) ⟨_, rfl, ?_⟩
              show jOk X T0 (d + 2) q_X8_bits [.int (nI b)] M2 _
              refine sp_bits hI (by omega) ⟨_, rfl, fun g4 => ?_, fun g4 => ?_⟩
              · rw [nI_leI (Nat.lt_of_le_of_lt (pbc_le _) (by decide)) (Nat.lt_of_le_of_lt (pbc_le _) (by decide))] at g4
                exact to102 (by simp [pbet, g3, show ¬ pbc i < pbc b by omega])
              · rw [nI_leI (Nat.lt_of_le_of_lt (pbc_le _) (by decide)) (Nat.lt_of_le_of_lt (pbc_le _) (by decide))] at g4
                exact to98 (by simp [pbet, g3, show pbc i < pbc b by omega])
        refine sp_shortOnes hI hc2 hw hl2 (by omega) ⟨_, rfl, fun g2 => ?_, fun g2 => ?_⟩
        · have : pstr so V n rc i ≠ 0 := fun z => g2 (by rw [z]; rfl)
          exact at53 false (by simp [this])
        · have : pstr so V n rc i = 0 := nI_inj (by omega) (by decide) g2
          exact at53 true (by simp [this])
  exact key 0 (Nat.zero_le _) M1 0 hf1 hr1 (fun b hb => by cases hb)
end JML
