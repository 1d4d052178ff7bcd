def pit (so : Nat → Nat) (s j : Nat) : Nat → Nat
  | 0 => 0
  | k + 1 => if so k = s ∧ pct so s k = j then k else pit so s j k
theorem pit_spec {so : Nat → Nat} {s j : Nat} : ∀ n, j < pct so s n → so (pit so s j n) = s ∧ pct so s (pit so s j n) = j ∧ pit so s j n < n
  | 0, h => absurd h (Nat.not_lt_zero _)
  | n + 1, h => by
    simp only [pit]
    split
    · rename_i g
      exact ⟨g.1, g.2, by omega⟩
    · rename_i g
      have h1 : j < pct so s n := by
        by_cases e : so n = s
        · have : pct so s (n + 1) = pct so s n + 1 := by simp [pct, fb_ct_succ, e]
          have : pct so s n ≠ j := fun q => g ⟨e, q⟩
          omega
        · have : pct so s (n + 1) = pct so s n := by simp [pct, fb_ct_succ, e]
          omega
      have := pit_spec n h1
      exact ⟨this.1, this.2.1, by omega⟩
def pfar (so V : Nat → Nat) (n lo k : Nat) : Int := (ppos so V lo (ptg so V n k) : Int) - ppos so V lo (k + 1)
def pstr (so V : Nat → Nat) (n rc lo : Nat) : Nat := pset (fun j => !lo.testBit j && !pnear rc (pfar so V n lo (pit so 2 j n))) (pct so 2 n)
def pgrow (st : Nat → Nat) : Nat → Nat → Nat × Nat
  | 0, lo => (lo, 0)
  | f + 1, lo => if st lo = 0 then (lo, 0) else ((pgrow st f (lo ||| st lo)).1, (pgrow st f (lo ||| st lo)).2 + 1)
theorem pgrow_z {st : Nat → Nat} {f lo : Nat} (h : st lo = 0) : pgrow st (f + 1) lo = (lo, 0) := by simp only [pgrow, if_pos h]
theorem pgrow_s {st : Nat → Nat} {f lo : Nat} (h : st lo ≠ 0) : pgrow st (f + 1) lo = ((pgrow st f (lo ||| st lo)).1, (pgrow st f (lo ||| st lo)).2 + 1) := by simp only [pgrow, if_neg h]
theorem pgrow_le (st : Nat → Nat) : ∀ f lo, (pgrow st f lo).2 ≤ f
  | 0, lo => Nat.le_refl _
  | f + 1, lo => by
    simp only [pgrow]
    split
    · exact Nat.zero_le _
    · have := pgrow_le st f (lo ||| st lo)
      show _ + 1 ≤ f + 1
      omega
theorem pgrow_lt (st : Nat → Nat) (m : Nat) (h : ∀ lo, st lo < 2 ^ m) : ∀ f lo, lo < 2 ^ m → (pgrow st f lo).1 < 2 ^ m
  | 0, lo, hl => hl
  | f + 1, lo, hl => by
    simp only [pgrow]
    split
    · exact hl
    · exact pgrow_lt st m h f _ (Nat.or_lt_two_pow hl (h lo))
section JG
variable {X : jX} {d : Nat} {M : jMem} {Q : Option Value → jMem → Prop} {L A S Z : Nat} {so V : Nat → Nat} {n rc lo : Nat}
/-- a layout stands in its cells -/
def jLaid (M : jMem) (L A : Nat) (so V : Nat → Nat) (n lo : Nat) : Prop := M L 2 = nI lo ∧ ∀ k, k ≤ n → M A k = nI (ppos so V lo k)
theorem ptg_lt (hw : jWf so V n rc) {k : Nat} (hk : k < n) (hs : so k = 2 ∨ so k = 4) : ptg so V n k < n ∧ so (ptg so V n k) = 1 := by
  have h1 := pli_is n (hw.2.1.2.2.2.2 k hk hs)
  exact ⟨h1.2.2, h1.1⟩
theorem sp_farOf (hI : jInj X T0) (hv : jLS L A S Z) {k : Nat} (hc : jCtx M so V n rc S Z) (hw : jWf so V n rc) (hl : jLaid M L A so V n lo) (hk : k < n) (hs : so k = 2 ∨ so k = 4)
    (h : ∀ r : Int32, r = nI (ppos so V lo (ptg so V n k)) - nI (ppos so V lo (k + 1)) → r.toInt = pfar so V n lo k → Q (some (.int r)) M) : jOk X T0 d q_X1_farOf [.ref L, .int (nI k)] M Q := by
  have hn := hw.1.1
  have ht := ptg_lt hw hk hs
  refine v_X1_farOf hI hv _ _ _ ?_
  rw [nI_1, nI_cl (by omega), hc.2.1.2.2.2 k hk hs, nI_cl (by omega), nI_cl (by omega), hl.2 _ (by omega), hl.2 _ (by omega)]
  refine ⟨vp_in_nI (by omega) (by decide), vp_in_nI (by omega) (by decide), vp_in_nI (by omega) (by decide), h _ rfl ?_⟩
  have p1 := ppos_lt (lo := lo) hw (show ptg so V n k ≤ n by omega)
  have p2 := ppos_lt (lo := lo) hw (show k + 1 ≤ n by omega)
  exact pk_sub_toInt (by omega) (by omega)
theorem sp_stranded (hI : jInj X T0) (hv : jLS L A S Z) (hc : jCtx M so V n rc S Z) (hw : jWf so V n rc) (hl : jLaid M L A so V n lo) (h1 : lo < 2 ^ 31)
    (h : Q (some (.int (nI (pstr so V n rc lo)))) M) : jOk X T0 (d + 1) q_X1_strandedJumps [.ref L, .ref S] M Q := by
  have hj10 := hw.1.2.2.1
  refine v_X1_strandedJumps hI hv _ _ ?_
  have key : ∀ j, j ≤ pct so 2 n → jRun X T0 (d + 1) q_X1_strandedJumps (4, [.ref L, .ref S, .int (nI (pset (fun j => !lo.testBit j && !pnear rc (pfar so V n lo (pit so 2 j n))) j)), .int (nI j)], [], M) Q := by
    refine jUp ?_ ?_
    · refine v_X1_strandedJumps_4 hv _ _ _ _ ⟨fun _ => h, fun g => absurd ?_ g⟩
      rw [hc.1.2.1]; exact nI_le (Nat.le_refl _) (by omega)
    · intro j hj ih
      obtain ⟨i1, i2, i3⟩ := pit_spec n hj
      rw [nI_succ] at ih
      refine v_X1_strandedJumps_4 hv _ _ _ _ ⟨fun g => absurd g ?_, fun _ => ?_⟩
      · rw [hc.1.2.1]; exact nI_ge hj (by omega)
      · refine sp_isLong hI hv hl.1 h1 (by omega) ⟨_, rfl, fun g => ?_, fun g => ⟨vp_in_nI (by omega) (by decide), ?_⟩⟩
        · have hb : lo.testBit j = true := by
            cases hb : lo.testBit j
            · exact absurd (jBI_0.mpr hb) g
            · rfl
          rw [show pset (fun j => !lo.testBit j && !pnear rc (pfar so V n lo (pit so 2 j n))) (j + 1) = pset (fun j => !lo.testBit j && !pnear rc (pfar so V n lo (pit so 2 j n))) j by simp [pset, hb]] at ih
          exact ih
        · have hb := jBI_0.mp g
          rw [nI_cl (by omega), ← i2, hc.2.2.1.2.1 _ i3 i1, i2]
          refine sp_farOf hI hv hc hw hl i3 (Or.inl i1) (fun r _ hr => ⟨_, rfl, ?_⟩)
          refine sp_reaches hI hv.sz hc.2.2.2.2.2.2 hw.1.2.1 ⟨_, rfl, fun g2 => ?_, fun g2 => ?_⟩
          · have hb2 : pnear rc r.toInt = true := by
              cases hb : pnear rc r.toInt
              · exact absurd (jBI_0.mpr hb) g2
              · rfl
            rw [hr] at hb2
            rw [show pset (fun j => !lo.testBit j && !pnear rc (pfar so V n lo (pit so 2 j n))) (j + 1) = pset (fun j => !lo.testBit j && !pnear rc (pfar so V n lo (pit so 2 j n))) j by simp [pset, hb2]] at ih
            exact ih
          · have hb2 := jBI_0.mp g2
            rw [hr] at hb2
            have := pset_or (c := fun j => !lo.testBit j && !pnear rc (pfar so V n lo (pit so 2 j n))) (m := j) (by omega)
            rw [if_pos (by simp [hb, hb2])] at this
            rw [jshl1 j (by omega), this]
            exact ih
  exact key 0 (Nat.zero_le _)
theorem pstr_lt (lo : Nat) : pstr so V n rc lo < 2 ^ pct so 2 n := pset_lt _ _
theorem jLaid.mk {f g : Nat → Int32} (hLA : L ≠ A) (hg : g 2 = nI lo) (hf : ∀ k, k ≤ n → f k = nI (ppos so V lo k)) : jLaid (jSC (jSC M L g) A f) L A so V n lo := by
  refine ⟨by rw [jSC_n hLA, jSC_s]; exact hg, fun k hk => by rw [jSC_s]; exact hf k hk⟩
theorem jSC_swap {i j : Nat} {f g : Nat → Int32} (h : i ≠ j) : jSC (jSC M i f) j g = jSC (jSC M j g) i f := by
  funext c
  by_cases e1 : c = i
  · subst e1
    rw [jSC_s, jSC_n h, jSC_s]
  · by_cases e2 : c = j
    · subst e2
      rw [jSC_s, jSC_n e1, jSC_s]
    · rw [jSC_n e2, jSC_n e1, jSC_n e1, jSC_n e2]
theorem jP_sc2 (hLA : L ≠ A) {f g : Nat → Int32} {k : Nat} {v : Int32} : jP (jSC (jSC M L g) A f) L k v = jSC (jSC M L (upd g k v)) A f := by
  rw [jSC_swap hLA, jP_sc, ← jSC_swap hLA]
theorem sp_growFrom (hI : jInj X T0) (hv : jLS L A S Z) (hc : jCtx M so V n rc S Z) (hw : jWf so V n rc) (h1 : lo < 2 ^ pct so 2 n)
    (h : ∀ f g : Nat → Int32, (∀ k, k ≠ 2 → k ≠ 3 → g k = M L k) → g 2 = nI (pgrow (pstr so V n rc) 10 lo).1 → g 3 = nI (pgrow (pstr so V n rc) 10 lo).2 → (∀ k, k ≤ n → f k = nI (ppos so V (pgrow (pstr so V n rc) 10 lo).1 k)) → Q none (jSC (jSC M L g) A f)) : jOk X T0 (d + 3) q_X1_growFrom [.ref L, .ref S, .int (nI lo)] M Q := by
  obtain ⟨hLA, hL12, hA12⟩ := hv.ne
  have hj10 := hw.1.2.2.1
  have hp : 2 ^ pct so 2 n ≤ 2 ^ 10 := Nat.pow_le_pow_right (by decide) hj10
  obtain ⟨G, hG⟩ : ∃ G, G = pgrow (pstr so V n rc) 10 lo := ⟨_, rfl⟩
  rw [← hG] at h
  refine v_X1_growFrom hI hv _ _ _ ?_
  refine sp_lay hI hv hc hw (by omega) (fun f hf => ⟨rfl, fun M2 e2 => ?_⟩)
  subst e2
  rw [jP_sc2 hLA]
  have key : ∀ i, i ≤ 10 → ∀ (lo' r : Nat) (f g : Nat → Int32), lo' < 2 ^ pct so 2 n → (∀ k, k ≠ 2 → k ≠ 3 → g k = M L k) → g 2 = nI lo' → g 3 = nI r → (∀ k, k ≤ n → f k = nI (ppos so V lo' k)) →
      (pgrow (pstr so V n rc) (10 - i) lo').1 = G.1 → r + (pgrow (pstr so V n rc) (10 - i) lo').2 = G.2 →
      jRun X T0 (d + 3) q_X1_growFrom (13, [.ref L, .ref S, .int (nI lo), .int (nI i), .null], [], jSC (jSC M L g) A f) Q := by
    refine jUp ?_ ?_
    · intro lo' r f g hlo hg hg2 hg3 hf e1 e2
      refine v_X1_growFrom_13 hv _ _ _ _ ⟨fun _ => ?_, fun g => absurd (by decide) g⟩
      simp only [Nat.sub_self, pgrow, Nat.add_zero] at e1 e2
      exact h f g hg (by rw [← e1]; exact hg2) (by rw [← e2]; exact hg3) (by rw [← e1]; exact hf)
    · intro i hi ih lo' r f g hlo hg hg2 hg3 hf e1 e2
      refine v_X1_growFrom_13 hv _ _ _ _ ⟨fun q => absurd q ?_, fun _ => ?_⟩
      · exact nI_ge (b := 10) hi (by decide)
      · refine sp_stranded hI hv (hc.lay hv f g) hw (jLaid.mk hLA hg2 hf) (by omega) ⟨_, rfl, fun q => fun M2 e3 => ?_, fun q => ?_⟩
        · subst e3
          rw [jP_sc2 hLA, show (jSC (jSC M L g) A f) L 3 = nI r by rw [jSC_n hLA, jSC_s]; exact hg3]
          rw [show (jSC (jSC M L (upd g 3 (nI r + 1))) A f) L 2 = nI lo' by rw [jSC_n hLA, jSC_s]; simp [upd]; exact hg2, fa_or]
          have hne : pstr so V n rc lo' ≠ 0 := fun z => q (by rw [z]; rfl)
          have hlt : lo' ||| pstr so V n rc lo' < 2 ^ pct so 2 n := Nat.or_lt_two_pow hlo (pstr_lt lo')
          have hstep : 10 - i = (10 - (i + 1)) + 1 := by omega
          rw [hstep] at e1 e2
          rw [pgrow_s hne] at e1 e2
          dsimp only at e1 e2
          refine sp_lay hI hv (hc.lay hv _ _) hw (by omega) (fun f2 hf2 => ⟨rfl, ?_⟩)
          have e4 : jSC (jSC (jSC (jSC M L (upd g 3 (nI r + 1))) A f) L (upd (jSC (jSC M L (upd g 3 (nI r + 1))) A f L) 2 (nI (lo' ||| pstr so V n rc lo')))) A f2 = jSC (jSC M L (upd (upd g 3 (nI r + 1)) 2 (nI (lo' ||| pstr so V n rc lo')))) A f2 := by
            rw [jSC_n hLA, jSC_s, jSC_swap (M := jSC M L (upd g 3 (nI r + 1))) (fun q => hLA q.symm), jSC_two, jSC_two]
          rw [e4, nI_1]
          refine ih _ (r + 1) f2 _ hlt (fun k h2 h3 => by simp [upd, h2, h3]; exact hg k h2 h3) (by simp [upd]) (by simp [upd, nI_succ]) hf2 e1 (by omega)
        · have hz : pstr so V n rc lo' = 0 := by
            have := pstr_lt (so := so) (V := V) (n := n) (rc := rc) lo'
            exact nI_inj (by omega) (by decide) q
          have hstep : 10 - i = (10 - (i + 1)) + 1 := by omega
          rw [hstep] at e1 e2
          rw [pgrow_z hz] at e1 e2
          dsimp only at e1 e2
          exact h f g hg (by rw [← e1]; exact hg2) (by rw [← e2, Nat.add_zero]; exact hg3) (by rw [← e1]; exact hf)
  refine key 0 (by decide) lo 0 f _ h1 (fun k h2 h3 => by simp [upd, h2, h3]) (by simp [upd]) (by simp [upd]; rfl) hf (by rw [hG]) (by rw [hG, Nat.zero_add])
end JG
