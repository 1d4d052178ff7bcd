section JO4
variable {X : jX} {d : Nat} {M M0 : jMem} {Q : Option Value → jMem → Prop} {so V : Nat → Nat} {n rc : Nat} {fw : Int32}
theorem jin2 {x : Int32} {m : Nat} (hm : m < 2 ^ 31) (h : decide (0 ≤ x ∧ x ≤ nI m) = true) : ∃ j, j ≤ m ∧ x = nI j := by
  have h := of_decide_eq_true h
  obtain ⟨j, hj, rfl⟩ := jnn h.1
  refine ⟨j, ?_, rfl⟩
  have := h.2
  rw [nI_leI hj hm] at this
  exact this
theorem jand3 {a b c d' : Bool} (h : ((a && b) && (c && d')) = true) : (a && b) = true ∧ c = true ∧ d' = true := by
  simp only [Bool.and_eq_true] at h ⊢
  exact h
theorem cq_odds (hI : jInj X T0) {k x b : Int32} (hc : jCtx M so V n rc 22 23) (hw : jWf so V n rc) (h60 : ∀ k, k < n → so k = 0 → V k ≤ 60) (h9 : M 12 9 = nI (pct so 0 n)) (hca : jCa M so V n rc fw)
    (h : ∀ M', jFz M M' → jCa M' so V n rc fw → Q (some (.int (fodds so V n rc k x b))) M') : jOk X T0 (d + 6) q_X7_odds [.ref 0, .int k, .int x, .int b] M Q := by
  have hn := hw.1.1
  have hq6 := pq_le (so := so) (n := n)
  have h10 := p10 hq6
  have bad : ((pkn n k && decide (so k.toNatClampNeg = 2)) && (decide (0 ≤ x ∧ x ≤ 10) && decide (0 ≤ b ∧ b ≤ 1))) = false → Q (some (.int (-1))) M := by
    intro hf
    have := h M jFz.rf hca
    rw [fodds, hf] at this
    exact this
  refine v_X7_odds hI _ _ _ _ _ (sp_isOf (s := 2) (so := so) hI hc.1.1 hc.2.1.1 hn hw.2.1.1 (by decide) ⟨_, rfl, fun g => bad (by rw [jBI_0.mp g]; rfl), fun g => ?_⟩)
  have hk := jnb g
  refine ⟨fun g1 => bad ?_, fun g1 => ⟨fun g2 => bad ?_, fun g2 => ⟨fun g3 => bad ?_, fun g3 => ⟨fun g4 => ?_, fun g4 => bad ?_⟩⟩⟩⟩
  · rw [decide_eq_false (fun q => by rw [fa_lt] at g1; have := q.1; rw [fa_le] at this; omega) (p := 0 ≤ x ∧ x ≤ 10)]; simp
  · rw [decide_eq_false (fun q => by rw [fa_lt] at g2; have := q.2; rw [fa_le] at this; omega) (p := 0 ≤ x ∧ x ≤ 10)]; simp
  · rw [decide_eq_false (fun q => by rw [fa_lt] at g3; have := q.1; rw [fa_le] at this; omega) (p := 0 ≤ b ∧ b ≤ 1)]; simp
  · have hx : decide (0 ≤ x ∧ x ≤ 10) = true := decide_eq_true ⟨fa_of_nlt g1, fa_of_nlt g2⟩
    have hb : decide (0 ≤ b ∧ b ≤ 1) = true := decide_eq_true ⟨fa_of_nlt g3, g4⟩
    have hk2 := hk
    rw [Bool.and_eq_true] at hk2
    obtain ⟨k, hkn, rfl⟩ := pit_t hk2.1 hn
    obtain ⟨x, hxn, rfl⟩ := jin2 (m := 10) (by decide) hx
    have hs : so k = 2 := by have := of_decide_eq_true hk2.2; rw [nI_cl (by omega)] at this; exact this
    have hj := pct_lt (n := n) hkn hs
    simp only [fodds, hx, hb, nI_cl (show k < 2 ^ 31 by omega), nI_cl (show x < 2 ^ 31 by omega), show pkn n (nI k) = true from hk2.1, hs, decide_true, Bool.and_self, if_true] at h
    have hab := pabv_le (so := so) (V := V) (n := n) (rc := rc) (x := x) (by omega) (j := pct so 2 k)
    have hpos : 0 < Nat.gcd (pabv so V n rc (pct so 2 k) x (2 ^ pq so n)) (10 ^ pq so n) := Nat.gcd_pos_of_pos_right _ (Nat.pow_pos (by decide))
    have hgle : Nat.gcd (pabv so V n rc (pct so 2 k) x (2 ^ pq so n)) (10 ^ pq so n) ≤ 10 ^ pq so n := Nat.gcd_le_right _ (Nat.pow_pos (by decide))
    refine sp_allOdds (so := so) (n := n) hI h9 hn ⟨_, rfl, vp_in_nI (by omega) (by decide), ?_⟩
    rw [nI_cl (by omega), show M 15 k = nI (pct so 2 k) by rw [hc.2.1.2.2.1 k hkn]; simp [pnum, hs]]
    refine sp_oddsOfLong hI hc hw h60 hj (by omega) (fun M1 f1 => ⟨_, rfl, ?_⟩)
    have hH := h M1 f1.fz (f1.ca hca)
    refine sp_commonDivisor hI (by omega) (by omega) ⟨_, rfl, fun _ => ⟨fun e => ⟨nI_ne0 hpos (by omega), ?_⟩, fun e => ⟨nI_ne0 hpos (by omega), ?_⟩⟩, fun g5 => absurd (nI_lt (a := 0) hpos (by omega)) g5⟩
    · rw [if_neg e] at hH
      rw [pk_div (by omega) hpos (by omega)]
      exact hH
    · rw [if_pos e] at hH
      rw [pk_div (by omega) hpos (by omega)]
      exact hH
  · rw [decide_eq_false (fun q => g4 q.2) (p := 0 ≤ b ∧ b ≤ 1)]; simp
theorem sp_growOps (hI : jInj X T0) {s : Nat} {by' : Int32} (hs : s < 2 ^ 31) (h7 : M 54 7 = nI n) (h56 : ∀ k, k < n → M 56 k = nI (so k)) (hn : n ≤ 32) (hso : ∀ k, k < n → so k ≤ 5)
    (h : ∀ f : Nat → Int32, (∀ i, f i = if i < n ∧ so i = 0 ∧ pct so 0 i < 6 ∧ s.testBit (pct so 0 i) = true then M 57 i + by' else M 57 i) → Q none (jSC M 57 f)) : jOk X T0 (d + 1) q_X8_growOps [.ref 54, .int (nI s), .int by'] M Q := by
  refine v_X8_growOps hI _ _ _ _ ?_
  have key : ∀ k, k ≤ n → ∀ f : Nat → Int32, (∀ i, f i = if i < k ∧ so i = 0 ∧ pct so 0 i < 6 ∧ s.testBit (pct so 0 i) = true then M 57 i + by' else M 57 i) →
      jRun X T0 (d + 1) q_X8_growOps (5, [.ref 54, .int (nI s), .int by', .int (nI (if pct so 0 k < 6 then pct so 0 k else 6)), .int (nI k)], [], jSC M 57 f) Q := by
    have hM : ∀ f : Nat → Int32, jSC M 57 f 54 = M 54 ∧ jSC M 57 f 56 = M 56 ∧ jSC M 57 f 57 = f := fun f => ⟨jSC_n (by decide), jSC_n (by decide), jSC_s⟩
    refine jUp ?_ ?_
    · intro f hf
      refine v_X8_growOps_5 _ _ _ _ _ _ ⟨fun _ => h f hf, fun g => absurd ?_ g⟩
      rw [(hM f).1, h7]; exact nI_le (Nat.le_refl _) (by omega)
    · intro k hk ih f hf
      have h5 := hso k hk
      have e1 : pct so 0 (k + 1) = pct so 0 k + (if so k = 0 then 1 else 0) := by simp [pct, fb_ct_succ]
      refine v_X8_growOps_5 _ _ _ _ _ _ ⟨fun g => absurd g ?_, fun _ => ⟨vp_in_nI (by omega) (by decide), ?_⟩⟩
      · rw [(hM f).1, h7]; exact nI_ge hk (by omega)
      · rw [nI_cl (by omega), (hM f).2.1, (hM f).2.2, h56 k hk]
        refine ⟨fun g => ?_, fun g => ?_⟩
        · have hne : so k ≠ 0 := fun q => g (by rw [q]; rfl)
          rw [if_neg hne, Nat.add_zero] at e1
          rw [e1] at ih
          rw [nI_1]
          refine ih f (fun i => ?_)
          rw [hf i]
          by_cases e : i = k
          · subst e; rw [if_neg (fun q => hne q.2.1), if_neg (fun q => hne q.2.1)]
          · simp only [show (i < k) = (i < k + 1) from propext (by omega)]
        · have h0 : so k = 0 := nI_inj (by omega) (by decide) g
          rw [if_pos h0] at e1
          refine ⟨fun g2 => ?_, fun g2 => ⟨vp_in_nI (by omega) (by decide), ?_⟩⟩
          · rw [show (6 : Int32) = nI 6 from rfl, nI_leI (by decide) (by split <;> omega)] at g2
            have h6 : ¬ pct so 0 k < 6 := fun q => by rw [if_pos q] at g2; omega
            rw [e1, if_neg (by omega)] at ih
            rw [if_neg h6, nI_1]
            refine ih f (fun i => ?_)
            rw [hf i]
            by_cases e : i = k
            · subst e; rw [if_neg (fun q => h6 q.2.2.1), if_neg (fun q => h6 q.2.2.1)]
            · simp only [show (i < k) = (i < k + 1) from propext (by omega)]
          · rw [show (6 : Int32) = nI 6 from rfl, nI_leI (by decide) (by split <;> omega)] at g2
            have h6 : pct so 0 k < 6 := Classical.byContradiction (fun q => by rw [if_neg q] at g2; omega)
            rw [if_pos h6]
            have efk : f k = M 57 k := by rw [hf k, if_neg (fun q => by omega)]
            rw [e1] at ih
            have ctr : (if pct so 0 k + 1 < 6 then pct so 0 k + 1 else 6) = pct so 0 k + 1 := by split <;> omega
            rw [ctr] at ih
            refine sp_has hI hs (by omega) ⟨_, rfl, fun g3 M2 e2 => ?_, fun g3 M2 e2 => ?_⟩
            · have hb := jBI_0.mp g3
              rw [jP_sc, efk, show M 57 k + 0 = M 57 k by simp] at e2
              subst e2
              rw [nI_1, nI_1]
              refine ih _ (fun i => ?_)
              by_cases e : i = k
              · subst e; simp only [upd, if_true]; rw [if_neg (fun q => by rw [hb] at q; cases q.2.2.2)]
              · rw [show upd f k (M 57 k) i = f i by simp [upd, e], hf i]
                simp only [show (i < k) = (i < k + 1) from propext (by omega)]
            · have hb := jnb g3
              rw [jP_sc, efk] at e2
              subst e2
              rw [nI_1, nI_1]
              refine ih _ (fun i => ?_)
              by_cases e : i = k
              · subst e; simp only [upd, if_true]; rw [if_pos ⟨by omega, h0, h6, hb⟩]
              · rw [show upd f k (M 57 k + by') i = f i by simp [upd, e], hf i]
                simp only [show (i < k) = (i < k + 1) from propext (by omega)]
  have h0 := key 0 (Nat.zero_le _) (M 57) (fun i => by rw [if_neg (fun q => absurd q.1 (Nat.not_lt_zero i))])
  have e : jSC M 57 (M 57) = M := by
    funext c
    by_cases h1 : c = 57
    · subst h1; rw [jSC_s]
    · rw [jSC_n h1]
  rw [e] at h0
  exact h0
end JO4
