section JLE
variable {X : jX} {d : Nat} {M M0 : jMem} {Q : Option Value → jMem → Prop} {L A S Z : Nat} {so V : Nat → Nat} {n rc lo : Nat}
theorem pdiff_nil {p s : Nat} : pdiff p s = 0 ↔ s &&& p = p := by
  refine ⟨fun h => Nat.eq_of_testBit_eq (fun j => ?_), fun h => pzero (fun j => ?_)⟩
  · have h1 := congrArg (fun z => z.testBit j) h
    simp only [pdiff_bit, Nat.zero_testBit] at h1
    rw [Nat.testBit_and]
    revert h1
    cases s.testBit j <;> cases p.testBit j <;> simp
  · have h1 := congrArg (fun z => z.testBit j) h
    simp only [Nat.testBit_and] at h1
    rw [pdiff_bit]
    revert h1
    cases s.testBit j <;> cases p.testBit j <;> simp
theorem ppad_mono {v p q : Nat} (hv : v = 2 ∨ v = 4 ∨ v = 8 ∨ v = 16) (h : p ≤ q) : p + ppad v p ≤ q + ppad v q := by
  unfold ppad
  rcases hv with rfl | rfl | rfl | rfl <;> omega
theorem ppos_sub (hw : jWf so V n rc) {lo' : Nat} (hs : ∀ j, lo.testBit j = true → lo'.testBit j = true) : ∀ k, k ≤ n → ppos so V lo k ≤ ppos so V lo' k
  | 0, _ => Nat.le_refl _
  | k + 1, hk => by
    have ih := ppos_sub hw hs k (by omega)
    simp only [ppos]
    by_cases h3 : so k = 3
    · have e1 : ∀ l p, plen so V l k p = ppad (V k) p := fun l p => by simp [plen, h3]
      rw [e1, e1]
      exact ppad_mono (hw.2.1.2.2.1 k (by omega) h3) ih
    · have e1 : plen so V lo k (ppos so V lo k) ≤ plen so V lo' k (ppos so V lo' k) := by
        unfold plen
        by_cases h2 : so k = 2
        · simp only [h2]
          simp
          by_cases hb : lo.testBit (pct so 2 k) = true
          · rw [if_pos hb, if_pos (hs _ hb)]; omega
          · rw [if_neg hb]
            split <;> omega
        · simp only [h2, h3, if_false]
          omega
      omega
theorem pbc_all : ∀ m, m < 11 → ∀ i, i < 2 ^ m - 1 → pbc i < pbc (2 ^ m - 1) := by decide +kernel
def pgood (so V : Nat → Nat) (n rc s : Nat) : Bool := decide (s &&& V 32 = V 32) && decide (pstr so V n rc s = 0)
def pbet (so V : Nat → Nat) (n s b : Nat) : Bool := decide (ppos so V s n < ppos so V b n) || (decide (ppos so V s n = ppos so V b n) && decide (pbc s < pbc b))
def pcb (so V : Nat → Nat) (n rc : Nat) : Nat → Nat
  | 0 => 2 ^ pct so 2 n - 1
  | i + 1 => if (pgood so V n rc i && pbet so V n i (pcb so V n rc i)) = true then i else pcb so V n rc i
def pleast (so V : Nat → Nat) (n rc : Nat) : Nat := pcb so V n rc (2 ^ pct so 2 n - 1)
theorem pcb_lt : ∀ i, i ≤ 2 ^ pct so 2 n - 1 → pcb so V n rc i < 2 ^ pct so 2 n
  | 0, _ => by have := Nat.one_le_two_pow (n := pct so 2 n); simp only [pcb]; omega
  | i + 1, h => by
    have := pcb_lt i (by omega)
    simp only [pcb]
    split <;> omega
theorem sp_size (hI : jInj X T0) (hv : jLS L A S Z) (hc : jCtx M so V n rc S Z) (hw : jWf so V n rc) (hl : jLaid M L A so V n lo) (h : Q (some (.int (nI (ppos so V lo n)))) M) : jOk X T0 d q_X1_size [.ref L] M Q := by
  have hn := hw.1.1
  refine v_X1_size hI hv _ _ ?_
  rw [hc.1.1, nI_cl (by omega), hl.2 n (Nat.le_refl _)]
  exact ⟨vp_in_nI (by omega) (by decide), h⟩
theorem sp_tryAll (hI : jInj X T0) (hv : jLS L A S Z) (hc : jCtx M so V n rc S Z) (hw : jWf so V n rc)
    (h : ∀ M', jFr L A M M' → jLaid M' L A so V n (pleast so V n rc) → M' L 3 = 0 → Q none M') : jOk X T0 (d + 3) q_X1_tryAll [.ref L, .ref S] M Q := by
  obtain ⟨hLA, -, -⟩ := hv.ne
  have hj10 := hw.1.2.2.1
  have hp : 2 ^ pct so 2 n ≤ 2 ^ 10 := Nat.pow_le_pow_right (by decide) hj10
  have hp1 : 1 ≤ 2 ^ pct so 2 n := Nat.one_le_two_pow
  have hV := hw.2.2.1.1
  have psz : ∀ l, ppos so V l n < 2000 := fun l => ppos_lt hw (Nat.le_refl _)
  refine v_X1_tryAll hI hv _ _ ?_
  refine sp_allJumps (so := so) (n := n) hI hc.1.2.1 hj10 ⟨_, rfl, ?_⟩
  refine sp_lay2 hI hv hc hw (by omega) (fun M1 hf1 hl1 _ => ⟨rfl, ?_⟩)
  refine sp_size hI hv (hf1.ctx hv hc) hw hl1 ⟨_, rfl, ?_⟩
  have key : ∀ i, i ≤ 2 ^ pct so 2 n - 1 → ∀ (M1 : jMem), jFr L A M M1 →
      jRun X T0 (d + 3) q_X1_tryAll (22, [.ref L, .ref S, .int (nI (pcb so V n rc i)), .int (nI (ppos so V (pcb so V n rc i) n)), .int (nI i), .null], [], M1) Q := by
    refine jUp ?_ ?_
    · intro M1 hf
      have hc1 := hf.ctx hv hc
      refine v_X1_tryAll_22 hv _ _ _ _ _ ?_
      refine sp_allJumps (so := so) (n := n) hI hc1.1.2.1 hj10 ⟨_, rfl, fun _ => ?_, fun g => absurd (nI_le (Nat.le_refl _) (by omega)) g⟩
      have hb := pcb_lt (so := so) (V := V) (n := n) (rc := rc) _ (Nat.le_refl _)
      refine sp_lay2 hI hv hc1 hw (by omega) (fun M2 hf2 hl2 _ => ⟨rfl, fun M3 e3 => ?_⟩)
      subst e3
      exact h _ ((hf.tr hLA hf2).put hLA (Or.inr rfl)) (hl2.put hLA) (by rw [jP_s]; simp [upd])
    · intro i hi ih M1 hf
      have hc1 := hf.ctx hv hc
      have hb := pcb_lt (so := so) (V := V) (n := n) (rc := rc) i (by omega)
      obtain ⟨b, hbd⟩ : ∃ b, b = pcb so V n rc i := ⟨_, rfl⟩
      have stay : (pgood so V n rc i && pbet so V n i b) = false → ∀ M2, jFr L A M M2 → jRun X T0 (d + 3) q_X1_tryAll (114, [.ref L, .ref S, .int (nI b), .int (nI (ppos so V b n)), .int (nI i), .null], [], M2) Q := by
        intro hz M2 hf2
        refine v_X1_tryAll_114 hv _ _ _ _ _ ?_
        have := ih M2 hf2
        rw [show pcb so V n rc (i + 1) = b by simp only [pcb]; rw [← hbd, hz]; simp] at this
        rw [nI_1]
        exact this
      have take : (pgood so V n rc i && pbet so V n i b) = true → ∀ M2, jFr L A M M2 → jRun X T0 (d + 3) q_X1_tryAll (114, [.ref L, .ref S, .int (nI i), .int (nI (ppos so V i n)), .int (nI i), .null], [], M2) Q := by
        intro hz M2 hf2
        refine v_X1_tryAll_114 hv _ _ _ _ _ ?_
        have := ih M2 hf2
        rw [show pcb so V n rc (i + 1) = i by simp only [pcb]; rw [← hbd, hz]; simp] at this
        rw [nI_1]
        exact this
      rw [← hbd] at hb ⊢
      refine v_X1_tryAll_22 hv _ _ _ _ _ ?_
      refine sp_allJumps (so := so) (n := n) hI hc1.1.2.1 hj10 ⟨_, rfl, fun g => absurd g (nI_ge (by omega) (by omega)), fun _ => ?_⟩
      rw [hc1.2.2.2.2.1, fa_and]
      refine ⟨fun g => ?_, fun g => ?_⟩
      · have hpin : i &&& V 32 = V 32 := nI_inj (Nat.lt_of_le_of_lt Nat.and_le_right (by omega)) (by omega) g
        refine sp_lay2 hI hv hc1 hw (by omega) (fun M2 hf2 hl2 _ => ⟨rfl, ?_⟩)
        have hf2' := hf.tr hLA hf2
        have hc2 := hf2'.ctx hv hc
        have at91 : ∀ q : Bool, q = pbet so V n i b → jRun X T0 (d + 3) q_X1_tryAll (91, [.ref L, .ref S, .int (nI b), .int (nI (ppos so V b n)), .int (nI i), .null], [.int (jBI q)], M2) Q := by
          intro q hq
          refine v_X1_tryAll_91 hv _ _ _ _ _ _ ⟨fun g2 => stay ?_ M2 hf2', fun g2 => ?_⟩
          · rw [← hq, jBI_0.mp g2]; simp
          · have hq1 := jnb g2
            refine sp_stranded hI hv hc2 hw hl2 (by omega) ⟨_, rfl, fun g3 => stay ?_ M2 hf2', fun g3 => ?_⟩
            · have : pstr so V n rc i ≠ 0 := fun z => g3 (by rw [z]; rfl)
              simp [pgood, this]
            · have hs := pstr_lt (so := so) (V := V) (n := n) (rc := rc) i
              have hz : pstr so V n rc i = 0 := nI_inj (by omega) (by decide) g3
              refine sp_size hI hv hc2 hw hl2 ⟨_, rfl, take ?_ M2 hf2'⟩
              rw [← hq, hq1]
              simp [pgood, hpin, hz]
        have p1 := psz i
        have p2 := psz b
        refine sp_size hI hv hc2 hw hl2 ⟨_, rfl, fun g2 => ?_, fun g2 => ?_⟩
        · rw [nI_ltI (by omega) (by omega)] at g2
          exact v_X1_tryAll_86 hv _ _ _ _ _ (at91 true (by simp [pbet, g2]))
        · rw [nI_ltI (by omega) (by omega)] at g2
          refine sp_size hI hv hc2 hw hl2 ⟨_, rfl, fun g3 => ?_, fun g3 => ?_⟩
          · have g3 : ppos so V i n ≠ ppos so V b n := fun q => g3 (by rw [q])
            exact v_X1_tryAll_90 hv _ _ _ _ _ (at91 false (by simp [pbet, g2, g3]))
          · have g3 : ppos so V i n = ppos so V b n := nI_inj (by omega) (by omega) g3
            refine sp_bitCount hI (by omega) ⟨_, rfl, sp_bitCount hI (by omega) ⟨_, rfl, fun g4 => ?_, fun g4 => ?_⟩⟩
            · rw [nI_leI (Nat.lt_of_le_of_lt (pbc_le _) (by decide)) (Nat.lt_of_le_of_lt (pbc_le _) (by decide))] at g4
              exact v_X1_tryAll_90 hv _ _ _ _ _ (at91 false (by simp [pbet, g3, show ¬ pbc i < pbc b by omega]))
            · rw [nI_leI (Nat.lt_of_le_of_lt (pbc_le _) (by decide)) (Nat.lt_of_le_of_lt (pbc_le _) (by decide))] at g4
              exact v_X1_tryAll_86 hv _ _ _ _ _ (at91 true (by simp [pbet, g3, show pbc i < pbc b by omega]))
      · have hpin : ¬ i &&& V 32 = V 32 := fun q => g (by rw [q])
        exact stay (by simp [pgood, hpin]) M1 hf
  exact key 0 (Nat.zero_le _) M1 hf1
/-- the reference's best so far -/
def pmb (so V : Nat → Nat) (n rc : Nat) : Nat → Option Nat
  | 0 => none
  | i + 1 => if pgood so V n rc i = true then (match pmb so V n rc i with
    | none => some i
    | some b => if pbet so V n i b = true then some i else some b) else pmb so V n rc i
theorem pmb_cb (hw : jWf so V n rc) : ∀ i, i ≤ 2 ^ pct so 2 n - 1 → (pmb so V n rc i = none ∧ pcb so V n rc i = 2 ^ pct so 2 n - 1) ∨ pmb so V n rc i = some (pcb so V n rc i)
  | 0, _ => Or.inl ⟨rfl, rfl⟩
  | i + 1, h => by
    have hj10 := hw.1.2.2.1
    have ih := pmb_cb hw i (by omega)
    simp only [pmb, pcb]
    cases hg : pgood so V n rc i
    · simp
      exact ih
    · rcases ih with ⟨e1, e2⟩ | e1
      · right
        rw [e1, e2]
        have hbt : pbet so V n i (2 ^ pct so 2 n - 1) = true := by
          have h1 := ppos_sub (lo := i) (lo' := 2 ^ pct so 2 n - 1) hw (fun j hj => by
            rw [Nat.testBit_two_pow_sub_one]
            refine decide_eq_true (Classical.byContradiction (fun q => ?_))
            rw [jbit_hi (m := pct so 2 n) (by omega) (by omega)] at hj
            cases hj) n (Nat.le_refl _)
          have h2 := pbc_all (pct so 2 n) (by omega) i (by omega)
          simp only [pbet, Bool.or_eq_true, Bool.and_eq_true, decide_eq_true_eq]
          omega
        simp [hbt]
      · rw [e1]
        cases hb : pbet so V n i (pcb so V n rc i)
        · simp [hb]
        · simp [hb]
theorem pmb_end (hw : jWf so V n rc) : pmb so V n rc (2 ^ pct so 2 n) = some (pleast so V n rc) := by
  have hj10 := hw.1.2.2.1
  have hp1 : 1 ≤ 2 ^ pct so 2 n := Nat.one_le_two_pow
  have hV := hw.2.2.1.1
  have hc := pmb_cb hw (2 ^ pct so 2 n - 1) (Nat.le_refl _)
  have hall : ∀ j, j < pct so 2 n → (2 ^ pct so 2 n - 1).testBit j = true := fun j hj => by rw [Nat.testBit_two_pow_sub_one]; exact decide_eq_true hj
  have hg : pgood so V n rc (2 ^ pct so 2 n - 1) = true := by
    have h1 : (2 ^ pct so 2 n - 1) &&& V 32 = V 32 := by
      rw [Nat.and_comm, Nat.and_two_pow_sub_one_of_lt_two_pow hV]
    have h2 : pstr so V n rc (2 ^ pct so 2 n - 1) = 0 := by
      refine pzero (fun j => ?_)
      cases hb : (pstr so V n rc (2 ^ pct so 2 n - 1)).testBit j
      · rfl
      · obtain ⟨q1, q2⟩ := pstr_new hb
        rw [hall j q1] at q2
        cases q2
    simp [pgood, h1, h2]
  have e : 2 ^ pct so 2 n = (2 ^ pct so 2 n - 1) + 1 := by omega
  rw [e]
  simp only [pmb, hg, if_true]
  unfold pleast
  rcases hc with ⟨e1, e2⟩ | e1
  · rw [e1, e2]
  · rw [e1]
    have hb := pcb_lt (so := so) (V := V) (n := n) (rc := rc) _ (Nat.le_refl (2 ^ pct so 2 n - 1))
    have hn : ¬ pbet so V n (2 ^ pct so 2 n - 1) (pcb so V n rc (2 ^ pct so 2 n - 1)) = true := by
      have h1 := ppos_sub (lo := pcb so V n rc (2 ^ pct so 2 n - 1)) (lo' := 2 ^ pct so 2 n - 1) hw (fun j hj => by
        rw [Nat.testBit_two_pow_sub_one]
        refine decide_eq_true (Classical.byContradiction (fun q => ?_))
        rw [jbit_hi (m := pct so 2 n) hb (by omega)] at hj
        cases hj) n (Nat.le_refl _)
      have h2 : pbc (pcb so V n rc (2 ^ pct so 2 n - 1)) ≤ pbc (2 ^ pct so 2 n - 1) := by
        by_cases q : pcb so V n rc (2 ^ pct so 2 n - 1) = 2 ^ pct so 2 n - 1
        · rw [q]; exact Nat.le_refl _
        · exact Nat.le_of_lt (pbc_all (pct so 2 n) (by omega) _ (by omega))
      simp only [pbet, Bool.or_eq_true, Bool.and_eq_true, decide_eq_true_eq]
      omega
    simp [hn]
end JLE
