section JGA
variable {X : jX} {d : Nat} {M M0 : jMem} {Q : Option Value → jMem → Prop} {so V : Nat → Nat} {n rc : Nat} {fw : Int32}
/-- the round over the highest bit -/
theorem sp_serv_a {m : Nat} (hm : m ≤ 3) (F : Nat → Option Nat) (b0 : Int32) (hb0 : (m ≤ 1 → b0 = -1) ∧ (¬ m ≤ 1 → b0 = 0))
    (inner : ∀ a, a < 24 → ∀ M1, mSS M0 M1 V → (∀ s, F a = some s → ∀ M', mSS M0 M' V → Q (some (.int (nI s))) M') → (F a = none → ∀ M', mSS M0 M' V → jRun X T0 (d + 5) q_X8_serving (21, [.ref 54, .int (nI m), .int (nI a + 1), .null, .null, .null, .null], [], M') Q) → jRun X T0 (d + 5) q_X8_serving (38, [.ref 54, .int (nI m), .int (nI a), .int b0, .null, .null, .null], [], M1) Q)
    (h : ∀ M', mSS M0 M' V → Q (some (.int (pmi (pfind F 24 0)))) M') (hS : mSS M0 M V) : jRun X T0 (d + 5) q_X8_serving (21, [.ref 54, .int (nI m), .int (nI 0), .null, .null, .null, .null], [], M) Q := by
  obtain ⟨R, hR⟩ : ∃ R, R = pfind F 24 0 := ⟨_, rfl⟩
  rw [← hR] at h
  have key : ∀ a, a ≤ 24 → ∀ M1, mSS M0 M1 V → R = pfind F (24 - a) a → jRun X T0 (d + 5) q_X8_serving (21, [.ref 54, .int (nI m), .int (nI a), .null, .null, .null, .null], [], M1) Q := by
    refine jUp ?_ ?_
    · intro M1 hS1 e
      refine v_X8_serving_21 _ _ _ _ ⟨fun _ => ?_, fun g => absurd (by decide) g⟩
      have := h M1 hS1
      rw [e] at this
      exact this
    · intro a ha ih M1 hS1 e
      rw [show 24 - a = (24 - (a + 1)) + 1 by omega] at e
      refine v_X8_serving_21 _ _ _ _ ⟨fun g => absurd g (nI_ge (b := 24) ha (by decide)), fun _ => ?_⟩
      have hin := inner a ha M1 hS1 (fun s hs M' hM' => by
          rw [pfind_s hs] at e
          have := h M' hM'
          rw [e] at this
          exact this) (fun hs M' hM' => by
          rw [pfind_n hs] at e
          rw [nI_1]
          exact ih M' hM' e)
      refine ⟨fun g => v_X8_serving_37 _ _ _ _ _ ?_, fun g => v_X8_serving_37 _ _ _ _ _ ?_⟩
      · rw [hb0.1 (Nat.le_of_not_lt (fun q => nI_ge (a := 1) (b := m) q (by omega) g))] at hin
        exact hin
      · rw [hb0.2 (fun q => g (fa_of_nlt (fun q2 => by rw [show (1 : Int32) = nI 1 from rfl, nI_ltI (by decide) (by omega)] at q2; omega)))] at hin
        exact hin
  exact key 0 (Nat.zero_le _) M hS hR
theorem sp_nle {a b : Nat} (h : a < b) (hb : b < 2 ^ 31) : ¬ nI b ≤ nI a := nI_ge h hb
theorem sp_le {a b : Nat} (h : a ≤ b) (hb : b < 2 ^ 31) : nI a ≤ nI b := fa_of_nlt (fun q => by rw [nI_ltI (by omega) (by omega)] at q; omega)
/-- the round over the second bit, for two and three -/
theorem sp_serv_b {m a : Nat} (hm : 2 ≤ m ∧ m ≤ 3) (ha : a < 24) (G : Nat → Option Nat) (c0 : Int32) (hc0 : (m ≤ 2 → c0 = -1) ∧ (¬ m ≤ 2 → c0 = 0))
    (inner : ∀ b, b < a → ∀ M1, mSS M0 M1 V → (∀ s, G b = some s → ∀ M', mSS M0 M' V → Q (some (.int (nI s))) M') → (G b = none → ∀ M', mSS M0 M' V → jRun X T0 (d + 5) q_X8_serving (38, [.ref 54, .int (nI m), .int (nI a), .int (nI b + 1), .null, .null, .null], [], M') Q) → jRun X T0 (d + 5) q_X8_serving (64, [.ref 54, .int (nI m), .int (nI a), .int (nI b), .int c0, .null, .null], [], M1) Q)
    (hy : ∀ s, pfind G a 0 = some s → ∀ M', mSS M0 M' V → Q (some (.int (nI s))) M') (hno : pfind G a 0 = none → ∀ M', mSS M0 M' V → jRun X T0 (d + 5) q_X8_serving (21, [.ref 54, .int (nI m), .int (nI a + 1), .null, .null, .null, .null], [], M') Q)
    (hS : mSS M0 M V) : jRun X T0 (d + 5) q_X8_serving (38, [.ref 54, .int (nI m), .int (nI a), .int (nI 0), .null, .null, .null], [], M) Q := by
  obtain ⟨R, hR⟩ : ∃ R, R = pfind G a 0 := ⟨_, rfl⟩
  rw [← hR] at hy hno
  have key : ∀ b, b ≤ a → ∀ M1, mSS M0 M1 V → R = pfind G (a - b) b → jRun X T0 (d + 5) q_X8_serving (38, [.ref 54, .int (nI m), .int (nI a), .int (nI b), .null, .null, .null], [], M1) Q := by
    refine jUp ?_ ?_
    · intro M1 hS1 e
      rw [Nat.sub_self] at e
      refine v_X8_serving_38 _ _ _ _ _ ⟨fun g => absurd g (sp_nle (a := 1) (by omega) (by omega)), fun _ => v_X8_serving_49 _ _ _ _ _ _ _ ⟨fun _ => hno e M1 hS1, fun g => absurd (sp_le (Nat.le_refl _) (by omega)) g⟩⟩
    · intro b hb ih M1 hS1 e
      rw [show a - b = (a - (b + 1)) + 1 by omega] at e
      refine v_X8_serving_38 _ _ _ _ _ ⟨fun g => absurd g (sp_nle (a := 1) (by omega) (by omega)), fun _ => v_X8_serving_49 _ _ _ _ _ _ _ ⟨fun g => absurd g (sp_nle hb (by omega)), fun _ => ?_⟩⟩
      have hin := inner b hb M1 hS1 (fun s hs M' hM' => by
          rw [pfind_s hs] at e
          exact hy s e M' hM') (fun hs M' hM' => by
          rw [pfind_n hs] at e
          rw [nI_1]
          exact ih M' hM' e)
      refine ⟨fun g => v_X8_serving_62 _ _ _ _ _ _ ?_, fun g => v_X8_serving_62 _ _ _ _ _ _ ?_⟩
      · rw [hc0.1 (Nat.le_of_not_lt (fun q => sp_nle (a := 2) (b := m) q (by omega) g))] at hin
        exact hin
      · rw [hc0.2 (fun q => g (sp_le (b := 2) q (by decide)))] at hin
        exact hin
  exact key 0 (Nat.zero_le _) M hS hR
/-- the single try without a third bit, and on to the next second one -/
theorem sp_serv_c (hI : jInj X T0) {m a : Nat} {b : Option Nat} (hm : m ≤ 2) (ha : a < 24) (hb : ∀ i, b = some i → i < 24) (hc : mCtx M0 so V n rc) (hw : jWf so V n rc) (hS : mSS M0 M V)
    (hy : ((pal so V n a && pbl (pal so V n) b) && pok so V n rc (2 ^ a ||| pbs b)) = true → ∀ M', mSS M0 M' V → Q (some (.int (nI (2 ^ a ||| pbs b)))) M')
    (hno : ((pal so V n a && pbl (pal so V n) b) && pok so V n rc (2 ^ a ||| pbs b)) = false → ∀ M', mSS M0 M' V → jRun X T0 (d + 5) q_X8_serving (38, [.ref 54, .int (nI m), .int (nI a), .int (piB b + 1), .null, .null, .null], [], M') Q) :
    jRun X T0 (d + 5) q_X8_serving (64, [.ref 54, .int (nI m), .int (nI a), .int (piB b), .int (-1), .null, .null], [], M) Q := by
  have hle : nI m ≤ 2 := sp_le (b := 2) hm (by decide)
  refine v_X8_serving_64 _ _ _ _ _ _ ⟨fun _ => ?_, fun g => absurd hle g⟩
  refine sp_try (c := none) hI ha hb (fun i hi => by cases hi) hc hw hS (s0 := 0) (s1 := -1) (by decide) (fun g M' hM' => ?_) (fun g M' hM' => ?_)
  · have := hy (by rw [show pbl (pal so V n) none = true from rfl, Bool.and_true, show pbs none = 0 from rfl, Nat.or_zero] at g; exact g) M' hM'
    rw [show pbs none = 0 from rfl, Nat.or_zero]
    exact this
  · refine v_X8_serving_64 _ _ _ _ _ _ ⟨fun _ => v_X8_serving_76 _ _ _ _ _ _ _ _ ⟨fun _ => ?_, fun g => absurd (by decide) g⟩, fun g => absurd hle g⟩
    exact hno (by rw [show pbl (pal so V n) none = true from rfl, Bool.and_true, show pbs none = 0 from rfl, Nat.or_zero] at g; exact g) M' hM'
/-- the round over the third bit -/
theorem sp_serv_c3 (hI : jInj X T0) {a b : Nat} (ha : a < 24) (hb : b < 24) (hc : mCtx M0 so V n rc) (hw : jWf so V n rc) (hS : mSS M0 M V)
    (hy : ∀ s, pfind (pt3 (pok so V n rc) (pal so V n) a b) b 0 = some s → ∀ M', mSS M0 M' V → Q (some (.int (nI s))) M')
    (hno : pfind (pt3 (pok so V n rc) (pal so V n) a b) b 0 = none → ∀ M', mSS M0 M' V → jRun X T0 (d + 5) q_X8_serving (38, [.ref 54, .int (nI 3), .int (nI a), .int (nI b + 1), .null, .null, .null], [], M') Q) :
    jRun X T0 (d + 5) q_X8_serving (64, [.ref 54, .int (nI 3), .int (nI a), .int (nI b), .int (nI 0), .null, .null], [], M) Q := by
  obtain ⟨R, hR⟩ : ∃ R, R = pfind (pt3 (pok so V n rc) (pal so V n) a b) b 0 := ⟨_, rfl⟩
  rw [← hR] at hy hno
  have key : ∀ c, c ≤ b → ∀ M1, mSS M0 M1 V → R = pfind (pt3 (pok so V n rc) (pal so V n) a b) (b - c) c → jRun X T0 (d + 5) q_X8_serving (64, [.ref 54, .int (nI 3), .int (nI a), .int (nI b), .int (nI c), .null, .null], [], M1) Q := by
    refine jUp ?_ ?_
    · intro M1 hS1 e
      rw [Nat.sub_self] at e
      refine v_X8_serving_64 _ _ _ _ _ _ ⟨fun g => absurd g (by decide), fun _ => v_X8_serving_76 _ _ _ _ _ _ _ _ ⟨fun _ => hno e M1 hS1, fun g => absurd (sp_le (Nat.le_refl _) (by omega)) g⟩⟩
    · intro c hcb ih M1 hS1 e
      rw [show b - c = (b - (c + 1)) + 1 by omega] at e
      refine v_X8_serving_64 _ _ _ _ _ _ ⟨fun g => absurd g (by decide), fun _ => ?_⟩
      refine sp_try (b := some b) (c := some c) hI ha (fun i hi => by cases hi; exact hb) (fun i hi => by cases hi; omega) hc hw hS1 (sp_nle hcb (by omega)) (fun g M' hM' => ?_) (fun g M' hM' => ?_)
      · have e2 : pt3 (pok so V n rc) (pal so V n) a b c = some (2 ^ a ||| 2 ^ b ||| 2 ^ c) := if_pos g
        rw [pfind_s e2] at e
        exact hy _ e M' hM'
      · have e2 : pt3 (pok so V n rc) (pal so V n) a b c = none := if_neg (fun q => absurd (q.symm.trans g) (by decide))
        rw [pfind_n e2] at e
        have := ih M' hM' e
        rw [show piB (some c) + 1 = nI (c + 1) from nI_1 c]
        exact this
  exact key 0 (Nat.zero_le _) M hS hR
theorem sp_serving (hI : jInj X T0) {m : Nat} (hm : m < 4) (hc : mCtx M0 so V n rc) (hw : jWf so V n rc) (hS : mSS M0 M V)
    (h : ∀ M', mSS M0 M' V → Q (some (.int (pmi (pfl (pok so V n rc) (pal so V n) m 0 (8 * pct so 5 n))))) M') : jOk X T0 (d + 5) q_X8_serving [.ref 54, .int (nI m)] M Q := by
  have h5 := hw.1.2.2.2.2
  refine v_X8_serving hI _ _ _ ⟨fun g => ?_, fun g => ?_⟩
  · match m, hm, g, h with
    | 0, _, g, _ => exact absurd rfl g
    | 1, _, _, h =>
      rw [← pfl_24 h5, pfl_1] at h
      refine sp_serv_a (m := 1) (by decide) (pt1 (pok so V n rc) (pal so V n)) (-1) ⟨fun _ => rfl, fun g => absurd (by decide) g⟩ (fun a ha M1 hS1 hy hno => ?_) h hS
      refine v_X8_serving_38 _ _ _ _ _ ⟨fun _ => v_X8_serving_49 _ _ _ _ _ _ _ ⟨fun g => absurd g (by decide), fun _ => ⟨fun _ => v_X8_serving_62 _ _ _ _ _ _ ?_, fun g => absurd (by decide) g⟩⟩, fun g => absurd (by decide) g⟩
      refine sp_serv_c (m := 1) (b := none) hI (by decide) ha (fun i hi => by cases hi) hc hw hS1 (fun g M' hM' => ?_) (fun g M' hM' => ?_)
      · rw [show pbl (pal so V n) none = true from rfl, Bool.and_true, show pbs none = 0 from rfl, Nat.or_zero] at g
        rw [show pbs none = 0 from rfl, Nat.or_zero]
        exact hy _ (if_pos g) M' hM'
      · rw [show pbl (pal so V n) none = true from rfl, Bool.and_true, show pbs none = 0 from rfl, Nat.or_zero] at g
        refine v_X8_serving_38 _ _ _ _ _ ⟨fun _ => v_X8_serving_49 _ _ _ _ _ _ _ ⟨fun _ => ?_, fun g => absurd (by decide) g⟩, fun g => absurd (by decide) g⟩
        exact hno (if_neg (fun q => absurd (q.symm.trans g) (by decide))) M' hM'
    | 2, _, _, h =>
      rw [← pfl_24 h5, pfl_2] at h
      refine sp_serv_a (m := 2) (by decide) (fun a => pfind (pt2 (pok so V n rc) (pal so V n) a) a 0) 0 ⟨fun g => absurd g (by decide), fun _ => rfl⟩ (fun a ha M1 hS1 hy hno => ?_) h hS
      refine sp_serv_b (m := 2) (by decide) ha (pt2 (pok so V n rc) (pal so V n) a) (-1) ⟨fun _ => rfl, fun g => absurd (by decide) g⟩ (fun b hb M2 hS2 hy2 hno2 => ?_) hy hno hS1
      exact sp_serv_c (m := 2) (b := some b) hI (by decide) ha (fun i hi => by cases hi; omega) hc hw hS2 (fun g M' hM' => hy2 _ (if_pos g) M' hM') (fun g M' hM' => hno2 (if_neg (fun q => absurd (q.symm.trans g) (by decide))) M' hM')
    | 3, _, _, h =>
      rw [← pfl_24 h5, pfl_3] at h
      refine sp_serv_a (m := 3) (by decide) (fun a => pfind (fun b => pfind (pt3 (pok so V n rc) (pal so V n) a b) b 0) a 0) 0 ⟨fun g => absurd g (by decide), fun _ => rfl⟩ (fun a ha M1 hS1 hy hno => ?_) h hS
      refine sp_serv_b (m := 3) (by decide) ha (fun b => pfind (pt3 (pok so V n rc) (pal so V n) a b) b 0) 0 ⟨fun g => absurd g (by decide), fun _ => rfl⟩ (fun b hb M2 hS2 hy2 hno2 => ?_) hy hno hS1
      exact sp_serv_c3 hI ha (by omega) hc hw hS2 hy2 hno2
  · have hm0 : m = 0 := nI_inj (by omega) (by decide) g
    subst hm0
    refine sp_doServe (s := 0) hI hc hw psk0 hS (fun M2 hS2 => ⟨_, rfl, fun g => ?_, fun g => ?_⟩)
    · have := h M2 hS2
      rw [show pfl (pok so V n rc) (pal so V n) 0 0 (8 * pct so 5 n) = none by simp [pfl, jBI_0.mp g]] at this
      exact this
    · have := h M2 hS2
      rw [show pfl (pok so V n rc) (pal so V n) 0 0 (8 * pct so 5 n) = some 0 by simp [pfl, jnb g]] at this
      exact this
end JGA
