section JTL
variable {X : jX} {d : Nat} {M M' : jMem} {Q : Option Value → jMem → Prop} {T : Nat × (Nat → Nat)}
def tmv (a : Nat) : Nat := if 999 < a then 1000 else a
theorem tmv_le (a : Nat) : tmv a ≤ 1000 := by unfold tmv; split <;> omega
theorem tmv_step {a b : Nat} (h1 : 48 ≤ b) : (if 1000 < 10 * tmv a + b - 48 then 1000 else 10 * tmv a + b - 48) = tmv (if 999 < a then a else 10 * a + b - 48) := by
  unfold tmv
  by_cases h : 999 < a
  · simp only [if_pos h]
    rw [if_pos (by omega)]
  · simp only [if_neg h]
    split <;> split <;> omega
theorem sp_readNumber (hI : jInj X T0) (hT : T.1 ≤ 150) (hB : ∀ k, k < T.1 → T.2 k < 256) {p : Nat} (hp : p < T.1) (hl : tds T p = true) (ht : jTxt (M 1 1) (M 2) T) (h2 : M 1 2 = nI p) (h4 : M 1 4 = nI p)
    (h : ∀ M', jTf M M' → jTk M' (p, (if 999 < tval T p 0 ∨ (T.2 p = 48 ∧ p + 1 < tend (tds T) T.1 p) then 4 else 2), tval T p 0, tend (tds T) T.1 p) → Q none M') : jOk X T0 (d + 1) q_X6_readNumber [.ref 1] M Q := by
  have hb := tend_b (c := tds T) (t := T.1) p (Nat.le_of_lt hp)
  have hb1 : p + 1 ≤ tend (tds T) T.1 p := by rw [tend_y hp hl]; exact (tend_b (c := tds T) (t := T.1) (p + 1) hp).1
  have hv := tval_b (T := T) p (Nat.le_of_lt hp) 0 (by decide)
  obtain ⟨e, he⟩ : ∃ e, e = tend (tds T) T.1 p := ⟨_, rfl⟩
  obtain ⟨v, hve⟩ : ∃ v, v = tval T p 0 := ⟨_, rfl⟩
  rw [← he, ← hve] at h
  rw [← he] at hb hb1
  rw [← hve] at hv
  have hBp := hB p hp
  refine v_X6_readNumber hI _ _ (fun M1 e1 => ?_)
  have f1 : jTf M M1 := by subst e1; exact jTf.rf.put (by decide)
  have ex : ∀ M2 : jMem, jTf M M2 → M2 1 2 = nI p → M2 1 4 = nI e → M2 1 5 = nI (tmv v) → jRun X T0 (d + 1) q_X6_readNumber (74, [.ref 1, .null], [], M2) Q := by
    intro M2 f2 g2 g4 g5
    have bad : (999 < v ∨ (T.2 p = 48 ∧ p + 1 < e)) → ∀ s0, jRun X T0 (d + 1) q_X6_readNumber (122, [.ref 1, .int s0], [.ref 1], M2) Q := by
      intro hbad s0
      refine v_X6_readNumber_122 _ _ _ _ ⟨rfl, fun M3 e3 => ?_⟩
      rw [if_pos hbad] at h
      exact h M3 (by subst e3; exact f2.put (by decide)) ⟨by subst e3; rw [jP_s]; exact g2, by subst e3; rw [jP_s]; rfl, by subst e3; rw [jP_s]; exact g4, fun q => absurd (show (4 : Nat) = 1 from q) (by decide), fun q => absurd (show (4 : Nat) = 2 from q) (by decide)⟩
    have at105 : ¬ (T.2 p = 48 ∧ p + 1 < e) → jRun X T0 (d + 1) q_X6_readNumber (105, [.ref 1, .null], [], M2) Q := by
      intro hz
      refine v_X6_readNumber_105 _ _ (v_X6_readNumber_106 _ _ _ ⟨fun g => absurd rfl g, fun _ => ?_⟩)
      rw [g5, show (999 : Int32) = nI 999 from rfl]
      have hm := tmv_le v
      refine ⟨fun g M3 e3 => ?_, fun g => bad (Or.inl ?_) _⟩
      · have hv9 : ¬ 999 < v := fun q => sp_nle (a := 999) (b := tmv v) (by unfold tmv; rw [if_pos q]; decide) (by omega) g
        rw [if_neg (fun q => q.elim hv9 hz)] at h
        refine h M3 (by subst e3; exact f2.put (by decide)) ⟨by subst e3; rw [jP_s]; exact g2, by subst e3; rw [jP_s]; rfl, by subst e3; rw [jP_s]; exact g4, fun q => absurd (show (2 : Nat) = 1 from q) (by decide), fun _ => ?_⟩
        have : M3 1 5 = M2 1 5 := by subst e3; rw [jP_s]; rfl
        rw [this, g5, show tmv v = v from if_neg hv9]
      · refine Nat.lt_of_not_le (fun q => g ?_)
        rw [show tmv v = v from if_neg (by omega)]
        exact sp_le q (by decide)
    refine v_X6_readNumber_74 _ _ ?_
    rw [g2, g4, nI_cl (by omega), (ht.tf f2).2 p hp, pk_sub (by omega)]
    refine ⟨vp_in_nI (by omega) (by decide), fun g => at105 (fun q => g (by rw [q.1]; rfl)), fun g => ⟨fun g3 => at105 (fun q => sp_nle (a := 1) (b := e - p) (by omega) (by omega) g3), fun g3 => ?_⟩⟩
    have h48 : T.2 p = 48 := nI_inj (by omega) (by decide) g
    have hgt : p + 1 < e := Nat.lt_of_not_le (fun q => g3 (sp_le (b := 1) (show e - p ≤ 1 by omega) (by decide)))
    exact v_X6_readNumber_106 _ _ _ ⟨fun _ => bad (Or.inr ⟨h48, hgt⟩) _, fun g => absurd g (by decide)⟩
  have key : ∀ q, q ≤ T.1 → ∀ (M2 : jMem) (a : Nat), jTf M M2 → M2 1 2 = nI p → M2 1 4 = nI q → M2 1 5 = nI (tmv a) → e = tend (tds T) T.1 q → v = tval T q a → jRun X T0 (d + 1) q_X6_readNumber (5, [.ref 1, .null], [], M2) Q := by
    refine jUp ?_ ?_
    · intro M2 a f2 g2 g4 g5 eq ev
      rw [tend_t (Nat.le_refl _)] at eq
      rw [tval_t (Nat.le_refl _)] at ev
      refine v_X6_readNumber_5 _ _ ?_
      rw [(ht.tf f2).1, g4]
      exact ⟨fun _ => ex M2 f2 g2 (by rw [eq]; exact g4) (by rw [ev]; exact g5), fun g => absurd (sp_le (Nat.le_refl _) (by omega)) g⟩
    · intro q hq ih M2 a f2 g2 g4 g5 eq ev
      have hBq := hB q hq
      have hm := tmv_le a
      refine v_X6_readNumber_5 _ _ ?_
      rw [(ht.tf f2).1, g4, nI_cl (by omega), (ht.tf f2).2 q hq]
      refine ⟨fun g => absurd g (sp_nle hq (by omega)), fun _ => ⟨vp_in_nI (by omega) (by decide), sp_isDigit hI hBq ⟨_, rfl, fun g => ?_, fun g => ?_⟩⟩⟩
      · have hc : tds T q = false := jBI_0.mp g
        rw [tend_n hc] at eq
        rw [tval_n (of_decide_eq_false hc)] at ev
        exact ex M2 f2 g2 (by rw [eq]; exact g4) (by rw [ev]; exact g5)
      · have hc : tds T q = true := jnb g
        have hc2 := of_decide_eq_true hc
        rw [tend_y hq hc] at eq
        rw [tval_y hq hc2] at ev
        rw [g4, nI_cl (by omega), (ht.tf f2).2 q hq, g5, show (10 : Int32) = nI 10 from rfl, pk_mul, nI_add, show (48 : Int32) = nI 48 from rfl, pk_sub (by omega), show (1000 : Int32) = nI 1000 from rfl]
        refine ⟨vp_in_nI (by omega) (by decide), fun M3 e3 M4 e4 => ?_⟩
        have e5 : M4 1 5 = nI (tmv (if 999 < a then a else 10 * a + T.2 q - 48)) := by
          rw [← tmv_step hc2.1]
          subst e4; subst e3
          rw [jP_s, jP_s]
          show (if nI 1000 < nI (10 * tmv a + T.2 q - 48) then nI 1000 else nI (10 * tmv a + T.2 q - 48)) = nI (if 1000 < 10 * tmv a + T.2 q - 48 then 1000 else 10 * tmv a + T.2 q - 48)
          by_cases hx : 1000 < 10 * tmv a + T.2 q - 48
          · rw [if_pos hx, if_pos (nI_lt hx (by omega))]
          · rw [if_neg hx, if_neg (fun r => hx ((nI_ltI (by decide) (by omega)).mp r))]
        exact ih M4 _ (by subst e4; subst e3; exact (f2.put (by decide)).put (by decide)) (by subst e4; subst e3; rw [jP_s, jP_s]; exact g2) (by subst e4; subst e3; rw [jP_s, jP_s]; show M2 1 4 + 1 = _; rw [g4, nI_1]) e5 eq ev
  exact key p (Nat.le_of_lt hp) M1 0 f1 (by subst e1; rw [jP_s]; exact h2) (by subst e1; rw [jP_s]; exact h4) (by subst e1; rw [jP_s]; rfl) he hve
theorem sp_next (hI : jInj X T0) (hT : T.1 ≤ 150) (hB : ∀ k, k < T.1 → T.2 k < 256) {p0 : Nat} (hp0 : p0 ≤ T.1) (ht : jTxt (M 1 1) (M 2) T) (h4 : M 1 4 = nI p0)
    (h : ∀ M', jTf M M' → jTk M' (tok T p0) → Q none M') : jOk X T0 (d + 2) q_X6_next [.ref 1] M Q := by
  obtain ⟨p, hpe⟩ : ∃ p, p = tend (tss T) T.1 p0 := ⟨_, rfl⟩
  have hb := tend_b (c := tss T) (t := T.1) p0 hp0
  rw [show tok T p0 = tok1 T p by rw [hpe]; rfl] at h
  rw [← hpe] at hb
  refine v_X6_next hI _ _ ?_
  have key : ∀ q, q ≤ T.1 → ∀ M2 : jMem, jTf M M2 → M2 1 4 = nI q → p = tend (tss T) T.1 q → jRun X T0 (d + 2) q_X6_next (0, [.ref 1], [], M2) Q := by
    refine jUp ?_ ?_
    · intro M2 f2 g4 eq
      rw [tend_t (Nat.le_refl _)] at eq
      refine v_X6_next_0 _ _ ?_
      rw [(ht.tf f2).1, g4]
      refine ⟨fun _ M3 e3 => ?_, fun g => absurd (sp_le (Nat.le_refl _) (by omega)) g⟩
      have f3 : jTf M M3 := by subst e3; exact f2.put (by decide)
      have z4 : M3 1 4 = nI T.1 := by subst e3; rw [jP_s]; exact g4
      rw [z4, (ht.tf f3).1]
      refine ⟨fun g => absurd g (fun r => by rw [nI_ltI (by omega) (by omega)] at r; omega), fun _ M4 e4 => ?_⟩
      rw [tok1, if_neg (by omega), eq] at h
      exact h M4 (by subst e4; exact f3.put (by decide)) ⟨by subst e4; subst e3; rw [jP_s, jP_s]; rfl, by subst e4; rw [jP_s]; rfl, by subst e4; rw [jP_s]; exact z4, fun q => absurd (show (0 : Nat) = 1 from q) (by decide), fun q => absurd (show (0 : Nat) = 2 from q) (by decide)⟩
    · intro q hq ih M2 f2 g4 eq
      have hBq := hB q hq
      refine v_X6_next_0 _ _ ?_
      rw [(ht.tf f2).1, g4, nI_cl (by omega), (ht.tf f2).2 q hq]
      refine ⟨fun g => absurd g (sp_nle hq (by omega)), fun _ => ⟨vp_in_nI (by omega) (by decide), fun g => ?_, fun g M3 e3 => ?_⟩⟩
      · have hc : tss T q = false := decide_eq_false (fun r => g (by rw [r]; rfl))
        rw [tend_n hc] at eq
        subst eq
        intro M3 e3
        have f3 : jTf M M3 := by subst e3; exact f2.put (by decide)
        have z4 : M3 1 4 = nI p := by subst e3; rw [jP_s]; exact g4
        have z2 : M3 1 2 = nI p := by subst e3; rw [jP_s]; rfl
        have t3 := ht.tf f3
        rw [z4, t3.1, nI_cl (by omega), t3.2 p hq]
        refine ⟨fun _ => ⟨vp_in_nI (by omega) (by decide), sp_isLetter hI hBq ⟨_, rfl, fun g1 => ?_, fun g1 => ?_⟩⟩, fun g => absurd (nI_lt hq (by omega)) g⟩
        · have hl : tls T p = false := jBI_0.mp g1
          rw [z4, nI_cl (by omega), t3.2 p hq]
          refine ⟨vp_in_nI (by omega) (by decide), sp_isDigit hI hBq ⟨_, rfl, fun g2 => ?_, fun g2 => ?_⟩⟩
          · have hd : tds T p = false := jBI_0.mp g2
            rw [tok1, if_pos hq, if_neg (by rw [hl]; decide), if_neg (by rw [hd]; decide)] at h
            rw [z4, nI_cl (by omega), t3.2 p hq]
            refine ⟨vp_in_nI (by omega) (by decide), fun g5 M4 e4 M5 e5 => ?_, fun g5 M4 e4 M5 e5 => ?_⟩
            · rw [if_neg (fun r => g5 (by rw [r]; rfl))] at h
              exact h M5 (by subst e5; subst e4; exact (f3.put (by decide)).put (by decide)) ⟨by subst e5; subst e4; rw [jP_s, jP_s]; exact z2, by subst e5; subst e4; rw [jP_s, jP_s]; rfl, by subst e5; subst e4; rw [jP_s, jP_s]; show M3 1 4 + 1 = _; rw [z4, nI_1], fun q => absurd (show (4 : Nat) = 1 from q) (by decide), fun q => absurd (show (4 : Nat) = 2 from q) (by decide)⟩
            · rw [if_pos (nI_inj (by omega) (by decide) g5)] at h
              exact h M5 (by subst e5; subst e4; exact (f3.put (by decide)).put (by decide)) ⟨by subst e5; subst e4; rw [jP_s, jP_s]; exact z2, by subst e5; subst e4; rw [jP_s, jP_s]; rfl, by subst e5; subst e4; rw [jP_s, jP_s]; show M3 1 4 + 1 = _; rw [z4, nI_1], fun q => absurd (show (3 : Nat) = 1 from q) (by decide), fun q => absurd (show (3 : Nat) = 2 from q) (by decide)⟩
          · have hd : tds T p = true := jnb g2
            rw [tok1, if_pos hq, if_neg (by rw [hl]; decide), if_pos hd] at h
            exact sp_readNumber hI hT hB hq hd t3 z2 z4 (fun M4 f4 k4 => ⟨rfl, h M4 (f3.tr f4) k4⟩)
        · have hl : tls T p = true := jnb g1
          rw [tok1, if_pos hq, if_pos hl] at h
          exact sp_readWord hI hT hB hq hl t3 z2 z4 (fun M4 f4 k4 => ⟨rfl, h M4 (f3.tr f4) k4⟩)
      · have hc : tss T q = true := decide_eq_true (nI_inj (by omega) (by decide) g)
        rw [tend_y hq hc] at eq
        exact ih M3 (by subst e3; exact f2.put (by decide)) (by subst e3; rw [jP_s]; show nI q + 1 = _; rw [nI_1]) eq
  exact key p0 hp0 M jTf.rf h4 hpe
end JTL
