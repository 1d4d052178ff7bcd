section JPA
variable {X : jX} {d : Nat} {M M' : jMem} {Q : Option Value → jMem → Prop} {so P V V' : Nat → Nat} {n rc B : Nat} {fw : Int32} {s : jSt} {T : Nat × (Nat → Nat)} {H : jHi} {K : Nat → Option jHi} {o : Option jHi}
/-- one act more; the eleventh loses the first -/
def jPsh (H : jHi) (V' : Nat → Nat) : jHi := if H.2 = 10 then (fun a => if a < 10 then H.1 (a + 1) else V', 10) else (fun a => if a ≤ H.2 then H.1 a else V', H.2 + 1)
theorem jPsh_now (H : jHi) (V' : Nat → Nat) : (jPsh H V').1 (jPsh H V').2 = V' := by
  unfold jPsh
  by_cases e : H.2 = 10
  · rw [if_pos e]; rfl
  · rw [if_neg e]; exact if_neg (by omega)
theorem jPsh_10 (e : H.2 = 10) : jPsh H V' = (fun a => if a < 10 then H.1 (a + 1) else V', 10) := if_pos e
theorem jPsh_n (e : H.2 ≠ 10) : jPsh H V' = (fun a => if a ≤ H.2 then H.1 a else V', H.2 + 1) := if_neg e
theorem jPsh_le (h : H.2 ≤ 10) : (jPsh H V').2 ≤ 10 := by
  by_cases e : H.2 = 10
  · rw [jPsh_10 e]; exact Nat.le_refl _
  · rw [jPsh_n e]; show H.2 + 1 ≤ 10; omega
theorem jPsh_ok (h : jWok so P n rc H) (hv : jVok so P n rc V') : jWok so P n rc (jPsh H V') := by
  refine ⟨jPsh_le h.1, ?_⟩
  by_cases e : H.2 = 10
  · rw [jPsh_10 e]
    intro a ha
    show jVok so P n rc (if a < 10 then H.1 (a + 1) else V')
    by_cases g : a < 10
    · rw [if_pos g]; exact h.2 _ (by omega)
    · rw [if_neg g]; exact hv
  · rw [jPsh_n e]
    intro a ha
    show jVok so P n rc (if a ≤ H.2 then H.1 a else V')
    by_cases g : a ≤ H.2
    · rw [if_pos g]; exact h.2 _ g
    · rw [if_neg g]; exact hv
theorem sp_remember (hI : jInj X T0) {e w b : Int32} (hp : jPst (M 24) (M 25) (M 26) (M 27) so n H) (h10 : H.2 ≤ 10) (hd : jDeed so n e w b (H.1 H.2) V')
    (h : ∀ M', (∀ c, c < 24 ∨ 27 < c → M' c = M c) → jPst (M' 24) (M' 25) (M' 26) (M' 27) so n (jPsh H V') → Q none M') : jOk X T0 (d + 1) q_X2_remember [.ref 24, .int e, .int w, .int b] M Q := by
  refine v_X2_remember hI _ _ _ _ _ ⟨fun g => ?_, fun g => ?_⟩
  · rw [hp.1] at g ⊢
    have hlt : H.2 < 10 := (nI_ltI (b := 10) (by omega) (by decide)).mp g
    rw [nI_cl (by omega)]
    refine ⟨vp_in_nI hlt (by decide), fun M1 e1 => ?_⟩
    have z1 : M1 24 3 = nI H.2 := by subst e1; rw [jP_n (by decide)]; exact hp.1
    rw [z1, nI_cl (by omega)]
    refine ⟨vp_in_nI hlt (by decide), fun M2 e2 => ?_⟩
    have z2 : M2 24 3 = nI H.2 := by subst e2; rw [jP_n (by decide)]; exact z1
    rw [z2, nI_cl (by omega)]
    refine ⟨vp_in_nI hlt (by decide), fun M3 e3 M4 e4 => ?_⟩
    have z3 : M3 24 3 = nI H.2 := by subst e3; rw [jP_n (by decide)]; exact z2
    have z4 : M4 24 3 = nI (H.2 + 1) := by subst e4; rw [jP_s, z3, nI_1]; simp [upd]
    have a5 : M4 25 = upd (M 25) H.2 e := by subst e4; subst e3; subst e2; subst e1; rw [jP_n (by decide), jP_n (by decide), jP_n (by decide), jP_s]
    have a6 : M4 26 = upd (M 26) H.2 w := by subst e4; subst e3; subst e2; subst e1; rw [jP_n (by decide), jP_n (by decide), jP_s, jP_n (by decide)]
    have a7 : M4 27 = upd (M 27) H.2 b := by subst e4; subst e3; subst e2; subst e1; rw [jP_n (by decide), jP_s, jP_n (by decide), jP_n (by decide)]
    refine h M4 (fun c hc => by subst e4; subst e3; subst e2; subst e1; rw [jP_n (by omega), jP_n (by omega), jP_n (by omega), jP_n (by omega)]) ?_
    rw [jPsh_n (by omega)]
    refine ⟨z4, fun a ha => ?_⟩
    have ha : a < H.2 + 1 := ha
    rw [a5, a6, a7]
    by_cases q : a = H.2
    · subst q
      simp only [upd, if_true, Nat.le_refl, show ¬ H.2 + 1 ≤ H.2 by omega, if_false]
      exact hd
    · simp only [upd, if_neg q, if_pos (show a ≤ H.2 by omega), if_pos (show a + 1 ≤ H.2 by omega)]
      exact hp.2 a (by omega)
  · rw [hp.1] at g
    have h10 : H.2 = 10 := by
      have : ¬ H.2 < 10 := fun q => g ((nI_ltI (b := 10) (by omega) (by decide)).mpr q)
      omega
    refine v_X2_loseOldest hI _ _ (fun N1 f1 N2 f2 N3 f3 N4 f4 => ⟨rfl, ?_⟩)
    have y : N4 24 3 = nI 9 := by subst f4; rw [jP_s]; rfl
    have b5 : N4 25 = va_cpy (M 25) (M 25) 1 0 9 := by subst f4; subst f3; subst f2; subst f1; rw [jP_n (by decide), jSC_n (by decide), jSC_n (by decide), jSC_s]
    have b6 : N4 26 = va_cpy (M 26) (M 26) 1 0 9 := by subst f4; subst f3; subst f2; subst f1; rw [jP_n (by decide), jSC_n (by decide), jSC_s, jSC_n (by decide)]
    have b7 : N4 27 = va_cpy (M 27) (M 27) 1 0 9 := by subst f4; subst f3; subst f2; subst f1; rw [jP_n (by decide), jSC_s, jSC_n (by decide), jSC_n (by decide)]
    have bo : ∀ c, c < 24 ∨ 27 < c → N4 c = M c := fun c hc => by subst f4; subst f3; subst f2; subst f1; rw [jP_n (by omega), jSC_n (by omega), jSC_n (by omega), jSC_n (by omega)]
    clear f1 f2 f3 f4
    rw [y, nI_cl (by decide)]
    refine ⟨vp_in_nI (by decide) (by decide), fun M1 e1 => ?_⟩
    have z1 : M1 24 3 = nI 9 := by subst e1; rw [jP_n (by decide)]; exact y
    rw [z1, nI_cl (by omega)]
    refine ⟨vp_in_nI (by decide) (by decide), fun M2 e2 => ?_⟩
    have z2 : M2 24 3 = nI 9 := by subst e2; rw [jP_n (by decide)]; exact z1
    rw [z2, nI_cl (by omega)]
    refine ⟨vp_in_nI (by decide) (by decide), fun M3 e3 M4 e4 => ?_⟩
    have z3 : M3 24 3 = nI 9 := by subst e3; rw [jP_n (by decide)]; exact z2
    have z4 : M4 24 3 = nI 10 := by subst e4; rw [jP_s, z3]; rfl
    have a5 : M4 25 = upd (N4 25) 9 e := by subst e4; subst e3; subst e2; subst e1; rw [jP_n (by decide), jP_n (by decide), jP_n (by decide), jP_s]
    have a6 : M4 26 = upd (N4 26) 9 w := by subst e4; subst e3; subst e2; subst e1; rw [jP_n (by decide), jP_n (by decide), jP_s, jP_n (by decide)]
    have a7 : M4 27 = upd (N4 27) 9 b := by subst e4; subst e3; subst e2; subst e1; rw [jP_n (by decide), jP_s, jP_n (by decide), jP_n (by decide)]
    refine h M4 (fun c hc => by rw [← bo c hc]; subst e4; subst e3; subst e2; subst e1; rw [jP_n (by omega), jP_n (by omega), jP_n (by omega), jP_n (by omega)]) ?_
    rw [jPsh_10 h10]
    refine ⟨z4, fun a ha => ?_⟩
    have ha : a < 10 := ha
    rw [a5, a6, a7, b5, b6, b7]
    by_cases q : a = 9
    · subst q
      simp only [upd, if_true, show (9 : Nat) < 10 by decide, show ¬ 9 + 1 < 10 by decide, if_false]
      rw [show 9 + 1 = H.2 by omega]
      exact hd
    · simp only [upd, if_neg q, if_pos ha, if_pos (show a + 1 < 10 by omega), va_cpy, if_pos (show 0 ≤ a ∧ a < 0 + 9 by omega)]
      rw [show 1 + (a - 0) = a + 1 by omega]
      exact hp.2 (a + 1) (by omega)
theorem sp_keepAct (hI : jInj X T0) (hp : mSnp (M 57) (M 62) (M 54 20) H) (h10 : H.2 ≤ 10)
    (h : ∀ M', (∀ c, c ≠ 54 → c ≠ 62 → M' c = M c) → (∀ k, k ≠ 20 → M' 54 k = M 54 k) → M' 54 20 = nI (jPsh H V').2 → (∀ a, a < (jPsh H V').2 → ∀ k, k < 36 → M' 62 (36 * a + k) = nI ((jPsh H V').1 a k)) → Q none M') : jOk X T0 d q_X8_keepAct [.ref 54] M Q := by
  -- what is now is written behind the others
  have wr : ∀ na, na < 10 → ∀ i, i ≤ 36 → ∀ M2 : jMem, (∀ c, c ≠ 54 → c ≠ 62 → M2 c = M c) → (∀ k, k ≠ 20 → M2 54 k = M 54 k) → M2 54 20 = nI na → na + 1 = (jPsh H V').2 → (∀ a, a < na → ∀ k, k < 36 → M2 62 (36 * a + k) = nI ((jPsh H V').1 a k)) → (∀ k, k < 36 → M 57 k = nI ((jPsh H V').1 na k)) → (∀ k, k < i → M2 62 (36 * na + k) = nI ((jPsh H V').1 na k)) → jRun X T0 d q_X8_keepAct (51, [.ref 54, .int (nI i)], [], M2) Q := by
    intro na hna
    refine jUp ?_ ?_
    · intro M2 m1 m2 m3 m4 m5 m6 m7
      refine v_X8_keepAct_51 _ _ _ ⟨fun _ M3 e3 => ?_, fun g => absurd (by decide) g⟩
      refine h M3 (fun c a b => by subst e3; rw [jP_n a]; exact m1 c a b) (fun k a => by subst e3; rw [jP_s]; simp [upd, a]; exact m2 k a) (by subst e3; rw [jP_s, m3, nI_1, m4]; simp [upd]) (fun a ha k hk => ?_)
      have : M3 62 = M2 62 := by subst e3; rw [jP_n (by decide)]
      rw [this]
      by_cases q : a = na
      · subst q; exact m7 k hk
      · exact m5 a (by omega) k hk
    · intro i hi ih M2 m1 m2 m3 m4 m5 m6 m7
      refine v_X8_keepAct_51 _ _ _ ⟨fun g => absurd g (nI_ge (b := 36) hi (by decide)), fun _ => ?_⟩
      rw [m3, show (36 : Int32) = nI 36 from rfl, pk_mul, nI_add, nI_cl (by omega), nI_cl (by omega)]
      refine ⟨vp_in_nI hi (by decide), vp_in_nI (by omega) (by decide), fun M3 e3 => ?_⟩
      rw [nI_1]
      have e62 : ∀ j, M3 62 j = if j = 36 * na + i then M2 57 i else M2 62 j := fun j => by subst e3; rw [jP_s]; simp only [upd]
      have eo : ∀ c, c ≠ 62 → M3 c = M2 c := fun c hc => by subst e3; rw [jP_n hc]
      refine ih M3 (fun c a b => by rw [eo c b]; exact m1 c a b) (fun k a => by rw [eo 54 (by decide)]; exact m2 k a) (by rw [eo 54 (by decide)]; exact m3) m4 (fun a ha k hk => by rw [e62, if_neg (by omega)]; exact m5 a ha k hk) m6 (fun k hk => ?_)
      rw [e62]
      by_cases q : k = i
      · subst q
        rw [if_pos rfl, m1 57 (by decide) (by decide)]
        exact m6 k hi
      · rw [if_neg (by omega)]
        exact m7 k (by omega)
  refine v_X8_keepAct hI _ _ ⟨fun g => ?_, fun g => ?_⟩
  · rw [hp.2.1] at g
    have hne : H.2 ≠ 10 := fun q => g (by rw [q]; rfl)
    rw [jPsh_n hne] at wr
    refine wr H.2 (by omega) 0 (Nat.zero_le _) M (fun _ _ _ => rfl) (fun _ _ => rfl) hp.2.1 rfl (fun a ha k hk => ?_) (fun k hk => ?_) (fun k hk => absurd hk (Nat.not_lt_zero k))
    · dsimp only; rw [if_pos (by omega)]; exact hp.2.2 a ha k hk
    · dsimp only; rw [if_pos (Nat.le_refl _)]; exact hp.1 k hk
  · rw [hp.2.1] at g
    have h10 : H.2 = 10 := nI_inj (by omega) (by decide) g
    rw [jPsh_10 h10] at wr
    have sh : ∀ i, i ≤ 324 → ∀ M2 : jMem, (∀ c, c ≠ 62 → M2 c = M c) → (∀ j, j < i → M2 62 j = M 62 (j + 36)) → (∀ j, i ≤ j → M2 62 j = M 62 j) → jRun X T0 d q_X8_keepAct (11, [.ref 54, .int (nI i)], [], M2) Q := by
      refine jUp ?_ ?_
      · intro M2 m1 m2 m3
        refine v_X8_keepAct_11 _ _ _ ⟨fun _ M3 e3 => ?_, fun g => absurd (by decide) g⟩
        have e62 : M3 62 = M2 62 := by subst e3; rw [jP_n (by decide)]
        refine wr 9 (by decide) 0 (Nat.zero_le _) M3 (fun c a b => by subst e3; rw [jP_n a]; exact m1 c b) (fun k a => by subst e3; rw [jP_s]; simp [upd, a]; rw [m1 54 (by decide)]) (by subst e3; rw [jP_s, m1 54 (by decide), hp.2.1, h10]; rfl) rfl (fun a ha k hk => ?_) (fun k hk => ?_) (fun k hk => absurd hk (Nat.not_lt_zero k))
        · dsimp only
          rw [if_pos (by omega), e62, m2 _ (by omega), show 36 * a + k + 36 = 36 * (a + 1) + k by omega]
          exact hp.2.2 (a + 1) (by omega) k hk
        · dsimp only
          rw [if_pos (by decide)]
          have := hp.1 k hk
          rw [h10] at this
          exact this
      · intro i hi ih M2 m1 m2 m3
        refine v_X8_keepAct_11 _ _ _ ⟨fun g => absurd g (nI_ge (b := 324) hi (by decide)), fun _ => ?_⟩
        rw [show (36 : Int32) = nI 36 from rfl, nI_add, nI_cl (by omega), nI_cl (by omega)]
        refine ⟨vp_in_nI (by omega) (by decide), vp_in_nI (by omega) (by decide), fun M3 e3 => ?_⟩
        rw [nI_1]
        have e62 : ∀ j, M3 62 j = if j = i then M2 62 (i + 36) else M2 62 j := fun j => by subst e3; rw [jP_s]; simp only [upd]
        refine ih M3 (fun c a => by subst e3; rw [jP_n a]; exact m1 c a) (fun j hj => ?_) (fun j hj => by rw [e62, if_neg (by omega)]; exact m3 j (by omega))
        rw [e62]
        by_cases q : j = i
        · subst q; rw [if_pos rfl, m3 _ (by omega)]
        · rw [if_neg q]; exact m2 j (by omega)
    exact sh 0 (Nat.zero_le _) M (fun _ _ => rfl) (fun j hj => absurd hj (Nat.not_lt_zero j)) (fun _ _ => rfl)
end JPA
