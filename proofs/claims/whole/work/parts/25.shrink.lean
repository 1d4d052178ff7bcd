section JSH
variable {X : jX} {d : Nat} {M M0 : jMem} {Q : Option Value → jMem → Prop} {L A S Z : Nat} {so V : Nat → Nat} {n rc lo : Nat}
theorem jnb {b : Bool} (h : ¬ jBI b = 0) : b = true := by
  cases b
  · exact absurd rfl h
  · rfl
theorem nI_ofI {r : Int32} {z : Int} (h : r.toInt = z) (h1 : -2000 < z) (h2 : z < 2000) : (r + 3).toInt = z + 3 := by
  rw [fb_addI] <;> rw [h] <;> first | rfl | (show _ ≤ z + 3; omega) | (show z + 3 < _; omega)
theorem sp_wouldReach (hI : jInj X T0) (hv : jLS L A S Z) (hc : jCtx M so V n rc S Z) (hw : jWf so V n rc) (hl : jLaid M L A so V n lo) (h1 : lo < 2 ^ 31)
    (h : Q (some (.int (nI (pwr so V n rc lo)))) M) : jOk X T0 (d + 1) q_X1_wouldReach [.ref L, .ref S] M Q := by
  have hj10 := hw.1.2.2.1
  refine v_X1_wouldReach hI hv _ _ ?_
  obtain ⟨c, hcd⟩ : ∃ c : Nat → Bool, c = fun j => lo.testBit j && pnear rc (pfar so V n lo (pit so 2 j n) + (if ptg so V n (pit so 2 j n) < pit so 2 j n then 3 else 0)) := ⟨_, rfl⟩
  have h : Q (some (.int (nI (pset c (pct so 2 n))))) M := by rw [hcd]; exact h
  have key : ∀ j, j ≤ pct so 2 n → jRun X T0 (d + 1) q_X1_wouldReach (4, [.ref L, .ref S, .int (nI (pset c j)), .int (nI j), .null], [], M) Q := by
    refine jUp ?_ ?_
    · refine v_X1_wouldReach_4 hv _ _ _ _ ⟨fun _ => h, fun g => absurd ?_ g⟩
      rw [hc.1.2.1]; exact nI_le (Nat.le_refl _) (by omega)
    · intro j hj ih
      obtain ⟨i1, i2, i3⟩ := pit_spec n hj
      refine v_X1_wouldReach_4 hv _ _ _ _ ⟨fun g => absurd g ?_, fun _ => ⟨vp_in_nI (by omega) (by decide), ?_⟩⟩
      · rw [hc.1.2.1]; exact nI_ge hj (by omega)
      · rw [nI_cl (by omega), ← i2, hc.2.2.1.2.1 _ i3 i1, i2]
        have tail : ∀ far : Int32, far.toInt = pfar so V n lo (pit so 2 j n) + (if ptg so V n (pit so 2 j n) < pit so 2 j n then 3 else 0) → jRun X T0 (d + 1) q_X1_wouldReach (38, [.ref L, .ref S, .int (nI (pset c j)), .int (nI j), .int far], [], M) Q := by
          intro far hfar
          have hno : c j = false → jRun X T0 (d + 1) q_X1_wouldReach (61, [.ref L, .ref S, .int (nI (pset c j)), .int (nI j), .int far], [], M) Q := by
            intro hz
            refine v_X1_wouldReach_61 hv _ _ _ _ _ ?_
            rw [nI_1]
            rw [show pset c (j + 1) = pset c j by simp [pset, hz]] at ih
            exact ih
          refine v_X1_wouldReach_38 hv _ _ _ _ _ ?_
          refine sp_isLong hI hv hl.1 h1 (by omega) ⟨_, rfl, fun g => ?_, fun g => ?_⟩
          · exact hno (by rw [hcd]; simp [jBI_0.mp g])
          · refine sp_reaches hI hv.sz hc.2.2.2.2.2.2 hw.1.2.1 ⟨_, rfl, fun g2 => ?_, fun g2 => ?_⟩
            · have := jBI_0.mp g2
              rw [hfar] at this
              exact hno (by rw [hcd]; simp only [this]; simp)
            · have h2 := jnb g2
              rw [hfar] at h2
              have hy : c j = true := by rw [hcd]; simp only [h2, jnb g]; rfl
              have := pset_or (c := c) (m := j) (by omega)
              rw [if_pos hy] at this
              rw [jshl1 j (by omega), this]
              refine v_X1_wouldReach_61 hv _ _ _ _ _ ?_
              rw [nI_1]
              exact ih
        have sg := pfar_sign (lo := lo) hw i3 i1
        have rg := pfar_rng (lo := lo) hw i3 (Or.inl i1)
        refine sp_farOf hI hv hc hw hl i3 (Or.inl i1) (fun r _ hr => ⟨_, rfl, fun g => tail r ?_, fun g => tail _ ?_⟩)
        · rw [fa_le] at g
          have g : 0 ≤ r.toInt := g
          rw [if_neg (fun q => by have := sg.1 q; omega)]
          omega
        · rw [fa_le] at g
          have g : ¬ 0 ≤ r.toInt := g
          rw [nI_ofI hr rg.1 rg.2, if_pos (by
            refine Classical.byContradiction (fun q => ?_)
            have := sg.2 q
            omega)]
  exact key 0 (Nat.zero_le _)
theorem pdiff_lt {a b m : Nat} (h : a < 2 ^ m) : pdiff a b < 2 ^ m := jlt_bits (fun j hj => by rw [pdiff_bit, jbit_hi h hj]; rfl)
theorem pwr_lt : pwr so V n rc lo < 2 ^ pct so 2 n := pset_lt _ _
theorem pmade_lt {held : Nat} : pmade so V n rc lo held < 2 ^ pct so 2 n := pdiff_lt (pdiff_lt pwr_lt)
theorem pgrow_lt2 {f : Nat} (h : lo < 2 ^ pct so 2 n) : (pgrow (pstr so V n rc) f lo).1 < 2 ^ pct so 2 n := pgrow_lt _ _ (fun l => pstr_lt l) f lo h
theorem sp_shrink (hI : jInj X T0) (hv : jLS L A S Z) (hc : jCtx M so V n rc S Z) (hw : jWf so V n rc)
    (h : ∀ M', jFr L A M M' → jLaid M' L A so V n (pshr so V n rc 10 (2 ^ pct so 2 n - 1) 0).1 → M' L 3 = nI (pshr so V n rc 10 (2 ^ pct so 2 n - 1) 0).2 → Q none M') : jOk X T0 (d + 4) q_X1_shrink [.ref L, .ref S] M Q := by
  obtain ⟨hLA, -, -⟩ := hv.ne
  have hj10 := hw.1.2.2.1
  have hp : 2 ^ pct so 2 n ≤ 2 ^ 10 := Nat.pow_le_pow_right (by decide) hj10
  have hp1 : 1 ≤ 2 ^ pct so 2 n := Nat.one_le_two_pow
  have hS : S ≠ L ∧ S ≠ A := by
    rcases hv with ⟨rfl, rfl, rfl, rfl⟩ | ⟨rfl, rfl, rfl, rfl⟩ | ⟨rfl, rfl, rfl, rfl⟩ | ⟨rfl, rfl, rfl, rfl⟩ <;> decide
  obtain ⟨G, hG⟩ : ∃ G, G = pshr so V n rc 10 (2 ^ pct so 2 n - 1) 0 := ⟨_, rfl⟩
  rw [← hG] at h
  refine v_X1_shrink hI hv _ _ ?_
  refine sp_allJumps (so := so) (n := n) hI hc.1.2.1 hj10 ⟨_, rfl, ?_⟩
  refine sp_lay2 hI hv hc hw (by omega) (fun M1 hf1 hl1 _ => ⟨rfl, ?_⟩)
  have key : ∀ i, i ≤ 10 → ∀ (M1 : jMem) (lo held r : Nat), jFr L A M M1 → jLaid M1 L A so V n lo → lo < 2 ^ pct so 2 n → held < 2 ^ pct so 2 n → (pshr so V n rc (10 - i) lo held).1 = G.1 → r + (pshr so V n rc (10 - i) lo held).2 = G.2 →
      jRun X T0 (d + 4) q_X1_shrink (19, [.ref L, .ref S, .int (nI r), .int (nI held), .int (nI i), .null, .null], [], M1) Q := by
    refine jUp ?_ ?_
    · intro M1 lo held r hf hl hlo hh e1 e2
      refine v_X1_shrink_19 hv _ _ _ _ _ ⟨fun _ M2 e3 => ?_, fun g => absurd (by decide) g⟩
      simp only [Nat.sub_self, pshr, Nat.add_zero] at e1 e2
      subst e3
      exact h _ (hf.put hLA (Or.inr rfl)) (by rw [← e1]; exact hl.put hLA) (by rw [jP_s, ← e2]; simp [upd])
    · intro i hi ih M1 lo held r hf hl hlo hh e1 e2
      have hc1 := hf.ctx hv hc
      have hstep : 10 - i = (10 - (i + 1)) + 1 := by omega
      rw [hstep] at e1 e2
      refine v_X1_shrink_19 hv _ _ _ _ _ ⟨fun g => absurd g (nI_ge (b := 10) hi (by decide)), fun _ => ?_⟩
      refine sp_wouldReach hI hv hc1 hw hl (by omega) ⟨_, rfl, ?_⟩
      rw [hc1.2.2.2.2.1, jdiff, jdiff, hl.1, jdiff]
      show (¬ nI (pmade so V n rc lo held) = 0 → _) ∧ (nI (pmade so V n rc lo held) = 0 → _)
      have hm := pmade_lt (so := so) (V := V) (n := n) (rc := rc) (lo := lo) (held := held)
      refine ⟨fun g => ?_, fun g => fun M2 e3 => ?_⟩
      · have hne : pmade so V n rc lo held ≠ 0 := fun q => g (by rw [q]; rfl)
        rw [pshr_s hne] at e1 e2
        dsimp only at e1 e2
        have hk : pdiff lo (pmade so V n rc lo held) < 2 ^ pct so 2 n := pdiff_lt hlo
        refine sp_grow2 hI hv hc1 hw hk (fun M2 hf2 hl2 _ => ⟨rfl, ?_⟩)
        have hg2 := pgrow_lt2 (V := V) (rc := rc) (f := 10) hk
        rw [hl2.1]
        show jRun X T0 (d + 4) q_X1_shrink (19, [.ref L, .ref S, .int (nI r + 1), .int (nI held ||| (nI (pgrow (pstr so V n rc) 10 (pdiff lo (pmade so V n rc lo held))).1 &&& (nI (pdiff lo (pmade so V n rc lo held)) ^^^ -1))), .int (nI i + 1), .null, .null], [], M2) Q
        rw [jdiff, fa_or, nI_1, nI_1]
        exact ih M2 (pgrow (pstr so V n rc) 10 (pdiff lo (pmade so V n rc lo held))).1 (held ||| pdiff (pgrow (pstr so V n rc) 10 (pdiff lo (pmade so V n rc lo held))).1 (pdiff lo (pmade so V n rc lo held))) (r + 1) (hf.tr hLA hf2) hl2 hg2 (Nat.or_lt_two_pow hh (pdiff_lt hg2)) e1 (by omega)
      · have hz : pmade so V n rc lo held = 0 := nI_inj (by omega) (by decide) g
        rw [pshr_z hz] at e1 e2
        dsimp only at e1 e2
        subst e3
        exact h _ (hf.put hLA (Or.inr rfl)) (by rw [← e1]; exact hl.put hLA) (by rw [jP_s, ← e2]; simp [upd])
  exact key 0 (by decide) M1 _ 0 0 hf1 hl1 (by omega) (by omega) (by rw [hG]) (by rw [hG, Nat.zero_add])
end JSH
