section JM2
variable {X : jX} {d : Nat} {M : jMem} {Q : Option Value → jMem → Prop} {so V : Nat → Nat} {n rc lo : Nat}
theorem sp_mfarOf (hI : jInj X T0) {k : Nat} (hc : mCtx M so V n rc) (hw : jWf so V n rc) (hl : mLaid M so V n lo) (hk : k < n) (hs : so k = 2 ∨ so k = 4)
    (h : ∀ r : Int32, r = nI (ppos so V lo (ptg so V n k)) - nI (ppos so V lo (k + 1)) → r.toInt = pfar so V n lo k → Q (some (.int r)) M) : jOk X T0 d q_X8_farOf [.ref 54, .int (nI k)] M Q := by
  have hn := hw.1.1
  have ht := ptg_lt hw hk hs
  have hv8 := hw.2.1.2.2.2.1 k hk (by omega)
  have hp := hw.2.1.2.2.2.2 k hk hs
  have hpl := pli_le (so := so) (V := V) (x := V k) n
  refine v_X8_farOf hI _ _ _ ?_
  have e1 : nI (pli so V (V k) n) - 1 = nI (ptg so V n k) := by
    rw [show (1 : Int32) = nI 1 from rfl, pk_sub (by omega)]; rfl
  rw [nI_1, nI_cl (by omega), hc.2.1.2 k (by omega), nI_cl (by omega), hc.2.2.1 _ hv8 (by omega), e1, nI_cl (by omega), nI_cl (by omega), hl.2 _ (by omega), hl.2 _ (by omega)]
  refine ⟨vp_in_nI (by omega) (by decide), vp_in_nI (by omega) (by decide), vp_in_nI (by omega) (by decide), vp_in_nI (by omega) (by decide), h _ rfl ?_⟩
  have p1 := ppos_lt (lo := lo) hw (show ptg so V n k ≤ n by omega)
  have p2 := ppos_lt (lo := lo) hw (show k + 1 ≤ n by omega)
  exact pk_sub_toInt (by omega) (by omega)
theorem jor0 (x : Int32) : x ||| 0 = x := by simp
theorem sp_shortOnes (hI : jInj X T0) (hc : mCtx M so V n rc) (hw : jWf so V n rc) (hl : mLaid M so V n lo) (h1 : lo < 2 ^ 31)
    (h : Q (some (.int (nI (pstr so V n rc lo)))) M) : jOk X T0 (d + 2) q_X8_shortOnes [.ref 54] M Q := by
  have hj10 := hw.1.2.2.1
  refine v_X8_shortOnes hI _ _ ?_
  have key : ∀ j, j ≤ pct so 2 n → jRun X T0 (d + 2) q_X8_shortOnes (4, [.ref 54, .int (nI (pset (fun j => !lo.testBit j && !pnear rc (pfar so V n lo (pit so 2 j n))) j)), .int (nI j)], [], M) Q := by
    refine jUp ?_ ?_
    · refine v_X8_shortOnes_4 _ _ _ _ ⟨fun _ => h, fun g => absurd ?_ g⟩
      rw [hc.1.2.2.1]; exact nI_le (Nat.le_refl _) (by omega)
    · intro j hj ih
      obtain ⟨i1, i2, i3⟩ := pit_spec n hj
      rw [nI_succ] at ih
      refine v_X8_shortOnes_4 _ _ _ _ ⟨fun g => absurd g ?_, fun _ => ?_⟩
      · rw [hc.1.2.2.1]; exact nI_ge hj (by omega)
      · rw [hl.1]
        simp only [jor0]
        refine sp_has hI h1 (by omega) ⟨_, rfl, fun g => ?_, fun g => ⟨vp_in_nI (by omega) (by decide), ?_⟩⟩
        · have hb : lo.testBit j = true := by
            cases hb : lo.testBit j
            · exact absurd (jBI_0.mpr hb) g
            · rfl
          rw [show pset (fun j => !lo.testBit j && !pnear rc (pfar so V n lo (pit so 2 j n))) (j + 1) = pset (fun j => !lo.testBit j && !pnear rc (pfar so V n lo (pit so 2 j n))) j by simp [pset, hb]] at ih
          exact ih
        · have hb := jBI_0.mp g
          rw [nI_cl (by omega), ← i2, hc.2.2.2.1 _ i3 i1, i2]
          refine sp_mfarOf hI hc hw hl i3 (Or.inl i1) (fun r _ hr => ⟨_, rfl, ?_⟩)
          refine sp_isNear hI hc.1.2.1 hw.1.2.1 ⟨_, rfl, fun g2 => ?_, fun g2 => ?_⟩
          · have hb2 : pnear rc r.toInt = true := by
              cases hb : pnear rc r.toInt
              · exact absurd (jBI_0.mpr hb) g2
              · rfl
            rw [hr] at hb2
            rw [show pset (fun j => !lo.testBit j && !pnear rc (pfar so V n lo (pit so 2 j n))) (j + 1) = pset (fun j => !lo.testBit j && !pnear rc (pfar so V n lo (pit so 2 j n))) j by simp [pset, hb2]] at ih
            exact ih
          · have hb2 := jBI_0.mp g2
            rw [hr] at hb2
            have := pset_or (c := fun j => !lo.testBit j && !pnear rc (pfar so V n lo (pit so 2 j n))) (m := j) (by omega)
            rw [if_pos (by simp [hb, hb2])] at this
            rw [jshl1 j (by omega), this]
            exact ih
  exact key 0 (Nat.zero_le _)
theorem mLaid.mk {f g : Nat → Int32} (hg : g 30 = nI lo) (hf : ∀ k, k ≤ n → f k = nI (ppos so V lo k)) : mLaid (jSC (jSC M 54 g) 69 f) so V n lo :=
  ⟨by rw [jSC_n (by decide), jSC_s]; exact hg, fun k hk => by rw [jSC_s]; exact hf k hk⟩
/-- growing comes to its end within as many rounds as there are jumps -/
def pfree (m lo : Nat) : Nat := fb_ct (fun j => !lo.testBit j) m
theorem pstr_new {lo j : Nat} (h : (pstr so V n rc lo).testBit j = true) : j < pct so 2 n ∧ lo.testBit j = false := by
  unfold pstr at h
  rw [pset_bit] at h
  simp only [Bool.and_eq_true, decide_eq_true_eq, Bool.not_eq_true'] at h
  exact ⟨h.1, h.2.1⟩
theorem pzero {s : Nat} (h : ∀ j, s.testBit j = false) : s = 0 := Nat.eq_of_testBit_eq (fun j => by rw [h j]; simp)
theorem pnonz {s : Nat} (h : s ≠ 0) : ∃ j, s.testBit j = true := by
  refine Classical.byContradiction (fun q => h (pzero (fun j => ?_)))
  cases hb : s.testBit j
  · rfl
  · exact absurd ⟨j, hb⟩ q
theorem pfree_lt {m lo s : Nat} (hs : ∀ j, s.testBit j = true → j < m ∧ lo.testBit j = false) (hne : s ≠ 0) : pfree m (lo ||| s) < pfree m lo := by
  obtain ⟨j, hj⟩ := pnonz hne
  obtain ⟨h1, h2⟩ := hs j hj
  unfold pfree
  have key : ∀ m, j < m → fb_ct (fun j => !(lo ||| s).testBit j) m < fb_ct (fun j => !lo.testBit j) m := by
    intro m
    induction m with
    | zero => intro h; omega
    | succ m ih =>
      intro h
      rw [fb_ct_succ, fb_ct_succ]
      have hle : fb_ct (fun j => !(lo ||| s).testBit j) m ≤ fb_ct (fun j => !lo.testBit j) m := fb_ct_sub (fun k _ hk => by
        simp only [Nat.testBit_or, Bool.not_eq_true', Bool.or_eq_false_iff] at hk ⊢
        exact hk.1)
      by_cases e : j = m
      · subst e
        have e1 : ¬ (!(lo ||| s).testBit j) = true := by rw [Nat.testBit_or, hj]; simp
        have e2 : (!lo.testBit j) = true := by rw [h2]; rfl
        rw [if_neg e1, if_pos e2]
        omega
      · have := ih (by omega)
        have h3 : (if (!(lo ||| s).testBit m) = true then 1 else 0) ≤ (if (!lo.testBit m) = true then 1 else 0) := by
          simp only [Nat.testBit_or]
          cases lo.testBit m <;> cases s.testBit m <;> decide
        omega
  exact key m h1
theorem pgrow_end : ∀ f lo, pfree (pct so 2 n) lo ≤ f → pstr so V n rc (pgrow (pstr so V n rc) f lo).1 = 0
  | 0, lo, h => by
    show pstr so V n rc lo = 0
    refine pzero (fun j => ?_)
    cases hb : (pstr so V n rc lo).testBit j
    · rfl
    · obtain ⟨h1, h2⟩ := pstr_new hb
      have : 0 < pfree (pct so 2 n) lo := fb_ct_pos.mpr ⟨j, h1, by simp [h2]⟩
      omega
  | f + 1, lo, h => by
    by_cases hz : pstr so V n rc lo = 0
    · rw [pgrow_z hz]; exact hz
    · rw [pgrow_s hz]
      have := pfree_lt (m := pct so 2 n) (lo := lo) (fun j hj => pstr_new hj) hz
      exact pgrow_end f _ (by omega)
theorem pfree_le (m lo : Nat) : pfree m lo ≤ m := fb_ct_le _ _
/-- more fuel than is needed changes nothing -/
theorem pgrow_fuel {st : Nat → Nat} : ∀ f lo, st (pgrow st f lo).1 = 0 → pgrow st (f + 1) lo = pgrow st f lo
  | 0, lo, h => by
    have h : st lo = 0 := h
    rw [pgrow_z h]; rfl
  | f + 1, lo, h => by
    by_cases hz : st lo = 0
    · rw [pgrow_z hz, pgrow_z hz]
    · rw [pgrow_s hz] at h
      rw [pgrow_s hz, pgrow_fuel f _ h, pgrow_s hz]
theorem sp_mgrow (hI : jInj X T0) (hc : mCtx M so V n rc) (hw : jWf so V n rc)
    (h : ∀ f g : Nat → Int32, (∀ k, k ≠ 30 → k ≠ 31 → g k = M 54 k) → g 30 = nI (pgrow (pstr so V n rc) 10 (V 32)).1 → g 31 = nI (pgrow (pstr so V n rc) 10 (V 32)).2 → (∀ k, k ≤ n → f k = nI (ppos so V (pgrow (pstr so V n rc) 10 (V 32)).1 k)) → Q none (jSC (jSC M 54 g) 69 f)) : jOk X T0 (d + 3) q_X8_grow [.ref 54] M Q := by
  have hj10 := hw.1.2.2.1
  have hp : 2 ^ pct so 2 n ≤ 2 ^ 10 := Nat.pow_le_pow_right (by decide) hj10
  obtain ⟨G, hG⟩ : ∃ G, G = pgrow (pstr so V n rc) 10 (V 32) := ⟨_, rfl⟩
  rw [← hG] at h
  have hV := hw.2.2.1.1
  refine v_X8_grow hI _ _ (fun M1 e1 => ?_)
  have e2 : M1 = jSC (jSC M 54 (upd (M 54) 31 0)) 69 (M 69) := by
    subst e1
    funext c
    by_cases e : c = 69
    · subst e
      rw [jSC_s, jP_n (by decide)]
    · rw [jSC_n e]
      rfl
  have hc1 : mCtx M1 so V n rc := by rw [e2]; exact hc.lay (fun k _ h3 => by simp [upd, h3])
  have key : ∀ i (lo' r : Nat) (f g : Nat → Int32), pfree (pct so 2 n) lo' ≤ i → lo' < 2 ^ pct so 2 n → (∀ k, k ≠ 30 → k ≠ 31 → g k = M 54 k) → g 30 = nI lo' → g 31 = nI r → (∀ k, k ≤ n → f k = nI (ppos so V lo' k)) →
      (pgrow (pstr so V n rc) i lo').1 = G.1 → r + (pgrow (pstr so V n rc) i lo').2 = G.2 →
      jRun X T0 (d + 3) q_X8_grow (21, [.ref 54, .int (nI (pstr so V n rc lo'))], [], jSC (jSC M 54 g) 69 f) Q := by
    intro i
    induction i with
    | zero =>
      intro lo' r f g hi hlo hg hg2 hg3 hf e1 e2
      have hz : pstr so V n rc lo' = 0 := pgrow_end (so := so) (V := V) (n := n) (rc := rc) 0 lo' hi
      refine v_X8_grow_21 _ _ _ ⟨fun _ => ?_, fun q => absurd (by rw [hz]; rfl) q⟩
      simp only [pgrow, Nat.add_zero] at e1 e2
      exact h f g hg (by rw [← e1]; exact hg2) (by rw [← e2]; exact hg3) (by rw [← e1]; exact hf)
    | succ i ih =>
      intro lo' r f g hi hlo hg hg2 hg3 hf e1 e2
      have hsl := pstr_lt (so := so) (V := V) (n := n) (rc := rc) lo'
      refine v_X8_grow_21 _ _ _ ⟨fun q => ?_, fun q => fun M2 e3 => ?_⟩
      · have hz : pstr so V n rc lo' = 0 := nI_inj (by omega) (by decide) q
        rw [pgrow_z hz] at e1 e2
        dsimp only at e1 e2
        exact h f g hg (by rw [← e1]; exact hg2) (by rw [← e2, Nat.add_zero]; exact hg3) (by rw [← e1]; exact hf)
      · have hne : pstr so V n rc lo' ≠ 0 := fun z => q (by rw [z]; rfl)
        have hlt : lo' ||| pstr so V n rc lo' < 2 ^ pct so 2 n := Nat.or_lt_two_pow hlo hsl
        rw [pgrow_s hne] at e1 e2
        dsimp only at e1 e2
        subst e3
        rw [jP_sc2 (by decide), show (jSC (jSC M 54 g) 69 f) 54 31 = nI r by rw [jSC_n (by decide), jSC_s]; exact hg3]
        rw [show (jSC (jSC M 54 (upd g 31 (nI r + 1))) 69 f) 54 30 = nI lo' by rw [jSC_n (by decide), jSC_s]; simp [upd]; exact hg2, fa_or]
        have hc3 : mCtx (jSC (jSC M 54 (upd g 31 (nI r + 1))) 69 f) so V n rc := hc.lay (fun k h2 h3 => by simp [upd, h3]; exact hg k h2 h3)
        refine sp_layOut hI hc3 hw (by omega) (fun f2 hf2 => ⟨rfl, ?_⟩)
        have e4 : jSC (jSC (jSC (jSC M 54 (upd g 31 (nI r + 1))) 69 f) 54 (upd (jSC (jSC M 54 (upd g 31 (nI r + 1))) 69 f 54) 30 (nI (lo' ||| pstr so V n rc lo')))) 69 f2 = jSC (jSC M 54 (upd (upd g 31 (nI r + 1)) 30 (nI (lo' ||| pstr so V n rc lo')))) 69 f2 := by
          rw [jSC_n (by decide), jSC_s, jSC_swap (M := jSC M 54 (upd g 31 (nI r + 1))) (by decide), jSC_two, jSC_two]
        have hg4 : ∀ k, k ≠ 30 → k ≠ 31 → (upd (upd g 31 (nI r + 1)) 30 (nI (lo' ||| pstr so V n rc lo'))) k = M 54 k := fun k h2 h3 => by simp [upd, h2, h3]; exact hg k h2 h3
        rw [e4]
        refine sp_shortOnes hI (hc.lay hg4) hw (mLaid.mk (by simp [upd]) hf2) (by omega) ⟨_, rfl, ?_⟩
        have hfr := pfree_lt (m := pct so 2 n) (lo := lo') (fun j hj => pstr_new hj) hne
        exact ih _ (r + 1) f2 _ (by omega) hlt hg4 (by simp [upd]) (by simp [upd, nI_succ]) hf2 e1 (by omega)
  rw [hc1.2.1.2 32 (by decide)]
  refine sp_layOut hI hc1 hw (by omega) (fun f2 hf2 => ⟨rfl, ?_⟩)
  have e4 : jSC (jSC M1 54 (upd (M1 54) 30 (nI (V 32)))) 69 f2 = jSC (jSC M 54 (upd (upd (M 54) 31 0) 30 (nI (V 32)))) 69 f2 := by
    rw [e2, jSC_n (by decide), jSC_s, jSC_swap (M := jSC M 54 (upd (M 54) 31 0)) (by decide), jSC_two, jSC_two]
  have hg4 : ∀ k, k ≠ 30 → k ≠ 31 → (upd (upd (M 54) 31 0) 30 (nI (V 32))) k = M 54 k := fun k h2 h3 => by simp [upd, h2, h3]
  rw [e4]
  refine sp_shortOnes hI (hc.lay hg4) hw (mLaid.mk (by simp [upd]) hf2) (by omega) ⟨_, rfl, ?_⟩
  exact key 10 (V 32) 0 f2 _ (Nat.le_trans (pfree_le _ _) hj10) hV hg4 (by simp [upd]) (by simp [upd]; rfl) hf2 (by rw [hG]) (by rw [hG, Nat.zero_add])
end JM2
