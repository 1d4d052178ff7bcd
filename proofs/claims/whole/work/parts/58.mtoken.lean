section JTM
variable {X : jX} {d : Nat} {M M' : jMem} {Q : Option Value → jMem → Prop} {T : Nat × (Nat → Nat)}
def mTf (M M' : jMem) : Prop := (∀ c, c ≠ 54 → M' c = M c) ∧ ∀ k, k < 3 ∨ 6 < k → M' 54 k = M 54 k
theorem mTf.rf : mTf M M := ⟨fun _ _ => rfl, fun _ _ => rfl⟩
theorem mTf.tr {M1 M2 : jMem} (h : mTf M M1) (h2 : mTf M1 M2) : mTf M M2 := ⟨fun c a => (h2.1 c a).trans (h.1 c a), fun k a => (h2.2 k a).trans (h.2 k a)⟩
theorem mTf.put {M1 : jMem} (h : mTf M M1) {k : Nat} {v : Int32} (hk : 3 ≤ k ∧ k ≤ 6) : mTf M (jP M1 54 k v) := ⟨fun c a => by rw [jP_n a]; exact h.1 c a, fun j a => by rw [jP_s]; simp [upd, show j ≠ k by omega]; exact h.2 j a⟩
theorem jTxt.mtf (h : jTxt (M 54 2) (M 55) T) (hf : mTf M M') : jTxt (M' 54 2) (M' 55) T := by rw [hf.1 55 (by decide), hf.2 2 (by decide)]; exact h
theorem sp_byteAt (hI : jInj X T0) (hT : T.1 ≤ 150) {q : Nat} (hq : q ≤ T.1) (ht : jTxt (M 54 2) (M 55) T) (h : Q (some (.int (if q < T.1 then nI (T.2 q) else -1))) M) : jOk X T0 d q_X8_byteAt [.ref 54, .int (nI q)] M Q := by
  refine v_X8_byteAt hI _ _ _ ?_
  rw [ht.1]
  refine ⟨fun g => ?_, fun g => ?_⟩
  · rw [if_neg (fun r => sp_nle r (by omega) g)] at h; exact h
  · have hlt : q < T.1 := Nat.lt_of_not_le (fun r => g (sp_le r (by omega)))
    rw [if_pos hlt] at h
    rw [nI_cl (by omega), ht.2 q hlt]
    exact ⟨vp_in_nI (by omega) (by decide), h⟩
theorem jin_nI {b lo hi : Nat} (hb : b < 2 ^ 31) (hl : lo < 2 ^ 31) (hh : hi < 2 ^ 31) : decide ((nI lo) ≤ (nI b) ∧ (nI b) ≤ (nI hi)) = decide (lo ≤ b ∧ b ≤ hi) := by
  apply decide_eq_decide.mpr
  constructor
  · intro h
    exact ⟨Nat.le_of_not_lt (fun r => sp_nle r hl h.1), Nat.le_of_not_lt (fun r => sp_nle r hb h.2)⟩
  · intro h
    exact ⟨sp_le h.1 hb, sp_le h.2 hh⟩
/-- the test for letters, for digits, of what byteAt gives -/
theorem tin_l {q : Nat} (hB : ∀ k, k < T.1 → T.2 k < 256) : decide ((97 : Int32) ≤ (if q < T.1 then nI (T.2 q) else -1) ∧ (if q < T.1 then nI (T.2 q) else -1) ≤ (122 : Int32)) = (decide (q < T.1) && tls T q) := by
  by_cases h : q < T.1
  · rw [if_pos h, decide_eq_true h, Bool.true_and]
    have := hB q h
    exact jin_nI (lo := 97) (hi := 122) (by omega) (by decide) (by decide)
  · rw [if_neg h, decide_eq_false h, Bool.false_and]
    decide
theorem tin_d {q : Nat} (hB : ∀ k, k < T.1 → T.2 k < 256) : decide ((48 : Int32) ≤ (if q < T.1 then nI (T.2 q) else -1) ∧ (if q < T.1 then nI (T.2 q) else -1) ≤ (57 : Int32)) = (decide (q < T.1) && tds T q) := by
  by_cases h : q < T.1
  · rw [if_pos h, decide_eq_true h, Bool.true_and]
    have := hB q h
    exact jin_nI (lo := 48) (hi := 57) (by omega) (by decide) (by decide)
  · rw [if_neg h, decide_eq_false h, Bool.false_and]
    decide
theorem sp_mword (hI : jInj X T0) (hT : T.1 ≤ 150) (hB : ∀ k, k < T.1 → T.2 k < 256) {p : Nat} {a1 : Int32} (hp : p < T.1) (hl : tls T p = true) (ht : jTxt (M 54 2) (M 55) T) (h4 : M 54 4 = nI p) (h5 : M 54 5 = nI 1) (h6 : M 54 6 = nI (T.2 p)) (h3 : M 54 3 = nI (p + 1))
    (h : ∀ M', mTf M M' → mTk M' (p, 1, (if tend (tls T) T.1 p = p + 1 then T.2 p else 0), tend (tls T) T.1 p) → Q none M') : jRun X T0 (d + 1) q_X8_next (89, [.ref 54, .int a1], [], M) Q := by
  have he := tend_y hp hl
  have hb := tend_b (c := tls T) (t := T.1) (p + 1) hp
  obtain ⟨e, hee⟩ : ∃ e, e = tend (tls T) T.1 p := ⟨_, rfl⟩
  rw [← hee] at h
  rw [← hee] at he
  rw [← he] at hb
  have key : ∀ q, q ≤ T.1 → p + 1 ≤ q → ∀ M2 : jMem, mTf M M2 → M2 54 4 = nI p → M2 54 5 = nI 1 → M2 54 6 = nI (if q = p + 1 then T.2 p else 0) → M2 54 3 = nI q → e = tend (tls T) T.1 q → jRun X T0 (d + 1) q_X8_next (89, [.ref 54, .int a1], [], M2) Q := by
    refine jUp ?_ ?_
    · intro _ M2 f2 g4 g5 g6 g3 eq
      rw [tend_t (Nat.le_refl _)] at eq
      refine v_X8_next_89 _ _ _ ?_
      rw [g3]
      refine sp_byteAt hI hT (Nat.le_refl _) (ht.mtf f2) ⟨_, rfl, sp_in hI ⟨_, rfl, ?_⟩⟩
      rw [jin_i (l := 97) (u := 122) (lo := 97) (hi := 122) rfl rfl, tin_l hB, decide_eq_false (Nat.lt_irrefl _)]
      refine ⟨fun _ => h M2 f2 ⟨g4, g5, by rw [g3, eq], fun _ => ?_⟩, fun g => absurd rfl g⟩
      rw [g6, ← eq]
    · intro q hq ih hpq M2 f2 g4 g5 g6 g3 eq
      refine v_X8_next_89 _ _ _ ?_
      rw [g3]
      refine sp_byteAt hI hT (Nat.le_of_lt hq) (ht.mtf f2) ⟨_, rfl, sp_in hI ⟨_, rfl, ?_⟩⟩
      rw [jin_i (l := 97) (u := 122) (lo := 97) (hi := 122) rfl rfl, tin_l hB, decide_eq_true hq, Bool.true_and]
      refine ⟨fun g => ?_, fun g M3 e3 M4 e4 => ?_⟩
      · rw [tend_n (jBI_0.mp g)] at eq
        exact h M2 f2 ⟨g4, g5, by rw [g3, eq], fun _ => by rw [g6, ← eq]⟩
      · rw [tend_y hq (jnb g)] at eq
        refine ih (by omega) M4 (by subst e4; subst e3; exact (f2.put (by decide)).put (by decide)) (by subst e4; subst e3; rw [jP_s, jP_s]; exact g4) (by subst e4; subst e3; rw [jP_s, jP_s]; exact g5) ?_ (by subst e4; subst e3; rw [jP_s, jP_s]; show M2 54 3 + 1 = _; rw [g3, nI_1]) eq
        rw [if_neg (by omega)]
        subst e4; subst e3
        rw [jP_s, jP_s]
        rfl
  exact key (p + 1) hp (Nat.le_refl _) M mTf.rf h4 h5 (by rw [if_pos rfl]; exact h6) h3 he
theorem sp_mnumber (hI : jInj X T0) (hT : T.1 ≤ 150) (hB : ∀ k, k < T.1 → T.2 k < 256) {p : Nat} (hp : p < T.1) (hl : tds T p = true) (ht : jTxt (M 54 2) (M 55) T) (h4 : M 54 4 = nI p) (h5 : M 54 5 = nI 2) (h6 : M 54 6 = nI 0) (h3 : M 54 3 = nI p)
    (h : ∀ M', mTf M M' → mTk M' (p, (if 999 < tval T p 0 ∨ (T.2 p = 48 ∧ p + 1 < tend (tds T) T.1 p) then 4 else 2), tval T p 0, tend (tds T) T.1 p) → Q none M') : jRun X T0 (d + 1) q_X8_next (152, [.ref 54, .int (nI (T.2 p))], [], M) Q := by
  have hb := tend_b (c := tds T) (t := T.1) p (Nat.le_of_lt hp)
  have hv := tval_b (T := T) p (Nat.le_of_lt hp) 0 (by decide)
  obtain ⟨e, he⟩ : ∃ e, e = tend (tds T) T.1 p := ⟨_, rfl⟩
  obtain ⟨v, hve⟩ : ∃ v, v = tval T p 0 := ⟨_, rfl⟩
  rw [← he, ← hve] at h
  rw [← he] at hb
  rw [← hve] at hv
  have hBp := hB p hp
  have ex : ∀ M2 : jMem, mTf M M2 → M2 54 4 = nI p → M2 54 5 = nI 2 → M2 54 6 = nI v → M2 54 3 = nI e → ((999 < (M2 54 6) → jRun X T0 (d + 1) q_X8_next (255, [.ref 54, .int (nI (T.2 p))], [], M2) Q) ∧ (¬ 999 < (M2 54 6) → ((¬ nI (T.2 p) = 48 → Q none M2) ∧ (nI (T.2 p) = 48 → (((M2 54 3) ≤ ((M2 54 4) + 1) → Q none M2) ∧ (¬ (M2 54 3) ≤ ((M2 54 4) + 1) → jRun X T0 (d + 1) q_X8_next (255, [.ref 54, .int (nI (T.2 p))], [], M2) Q)))))) := by
    intro M2 f2 g4 g5 g6 g3
    have bad : (999 < v ∨ (T.2 p = 48 ∧ p + 1 < e)) → jRun X T0 (d + 1) q_X8_next (255, [.ref 54, .int (nI (T.2 p))], [], M2) Q := by
      intro hbad
      refine v_X8_next_255 _ _ _ (fun M3 e3 => ?_)
      rw [if_pos hbad] at h
      exact h M3 (by subst e3; exact f2.put (by decide)) ⟨by subst e3; rw [jP_s]; exact g4, by subst e3; rw [jP_s]; rfl, by subst e3; rw [jP_s]; exact g3, fun q => absurd (show (4 : Nat) = 1 ∨ (4 : Nat) = 2 from q) (by decide)⟩
    have good : ¬ (999 < v ∨ (T.2 p = 48 ∧ p + 1 < e)) → Q none M2 := by
      intro hgood
      rw [if_neg hgood] at h
      exact h M2 f2 ⟨g4, g5, g3, fun _ => g6⟩
    rw [g6, g3, g4, nI_1, show (999 : Int32) = nI 999 from rfl, nI_ltI (by decide) (by omega)]
    refine ⟨fun g => bad (Or.inl g), fun g => ⟨fun g2 => good (fun r => r.elim g (fun r => g2 (by rw [r.1]; rfl))), fun g2 => ⟨fun g3 => good (fun r => r.elim g (fun r => sp_nle r.2 (by omega) g3)), fun g3 => bad (Or.inr ⟨nI_inj (by omega) (by decide) g2, Nat.lt_of_not_le (fun r => g3 (sp_le r (by omega)))⟩)⟩⟩⟩
  have key : ∀ q, q ≤ T.1 → ∀ (M2 : jMem) (a : Nat), a ≤ 9999 → mTf M M2 → M2 54 4 = nI p → M2 54 5 = nI 2 → M2 54 6 = nI a → M2 54 3 = nI q → e = tend (tds T) T.1 q → v = tval T q a → jRun X T0 (d + 1) q_X8_next (152, [.ref 54, .int (nI (T.2 p))], [], M2) Q := by
    refine jUp ?_ ?_
    · intro M2 a ha f2 g4 g5 g6 g3 eq ev
      rw [tend_t (Nat.le_refl _)] at eq
      rw [tval_t (Nat.le_refl _)] at ev
      refine v_X8_next_152 _ _ _ ?_
      rw [g3]
      refine sp_byteAt hI hT (Nat.le_refl _) (ht.mtf f2) ⟨_, rfl, sp_in hI ⟨_, rfl, ?_⟩⟩
      rw [jin_i (l := 48) (u := 57) (lo := 48) (hi := 57) rfl rfl, tin_d hB, decide_eq_false (Nat.lt_irrefl _)]
      refine ⟨fun _ => ?_, fun g => absurd rfl g⟩
      have := ex M2 f2 g4 g5 (by rw [ev]; exact g6) (by rw [eq]; exact g3)
      exact this
    · intro q hq ih M2 a ha f2 g4 g5 g6 g3 eq ev
      have hBq := hB q hq
      refine v_X8_next_152 _ _ _ ?_
      rw [g3]
      refine sp_byteAt hI hT (Nat.le_of_lt hq) (ht.mtf f2) ⟨_, rfl, sp_in hI ⟨_, rfl, ?_⟩⟩
      rw [jin_i (l := 48) (u := 57) (lo := 48) (hi := 57) rfl rfl, tin_d hB, decide_eq_true hq, Bool.true_and]
      refine ⟨fun g => ?_, fun g => ?_⟩
      · rw [tend_n (jBI_0.mp g)] at eq
        rw [tval_n (of_decide_eq_false (jBI_0.mp g))] at ev
        have := ex M2 f2 g4 g5 (by rw [ev]; exact g6) (by rw [eq]; exact g3)
        exact this
      · have hc := of_decide_eq_true (jnb g)
        rw [tend_y hq (jnb g)] at eq
        rw [tval_y hq hc] at ev
        have go : ∀ a', a' = (if 999 < a then a else 10 * a + T.2 q - 48) → jRun X T0 (d + 1) q_X8_next (210, [.ref 54, .int (nI (T.2 p))], [.int (nI a'), .ref 54], M2) Q := by
          intro a' ea
          refine v_X8_next_210 _ _ _ _ _ ⟨rfl, fun M3 e3 M4 e4 => ?_⟩
          refine ih M4 a' (by rw [ea]; split <;> omega) (by subst e4; subst e3; exact (f2.put (by decide)).put (by decide)) (by subst e4; subst e3; rw [jP_s, jP_s]; exact g4) (by subst e4; subst e3; rw [jP_s, jP_s]; exact g5) (by subst e4; subst e3; rw [jP_s, jP_s]; rfl) (by subst e4; subst e3; rw [jP_s, jP_s]; show M2 54 3 + 1 = _; rw [g3, nI_1]) eq (by rw [ea]; exact ev)
        rw [g6, g3]
        refine ⟨fun g9 => ?_, fun g9 => go a (by rw [if_pos (Nat.lt_of_not_le (fun r => g9 (sp_le (b := 999) r (by decide))))])⟩
        have h9 : ¬ 999 < a := fun r => sp_nle (a := 999) r (by omega) g9
        refine sp_byteAt hI hT (Nat.le_of_lt hq) (ht.mtf f2) ⟨_, rfl, ?_⟩
        rw [if_pos hq, show (10 : Int32) = nI 10 from rfl, pk_mul, nI_add, show (48 : Int32) = nI 48 from rfl, pk_sub (by omega)]
        exact go _ (by rw [if_neg h9])
  exact key p (Nat.le_of_lt hp) M 0 (by decide) mTf.rf h4 h5 h6 h3 he hve
theorem sp_mnext (hI : jInj X T0) (hT : T.1 ≤ 150) (hB : ∀ k, k < T.1 → T.2 k < 256) {p0 : Nat} (hp0 : p0 ≤ T.1) (ht : jTxt (M 54 2) (M 55) T) (h3 : M 54 3 = nI p0)
    (h : ∀ M', mTf M M' → mTk M' (tok T p0) → Q none M') : jOk X T0 (d + 1) q_X8_next [.ref 54] M Q := by
  obtain ⟨p, hpe⟩ : ∃ p, p = tend (tss T) T.1 p0 := ⟨_, rfl⟩
  rw [show tok T p0 = tok1 T p by rw [hpe]; rfl] at h
  refine v_X8_next hI _ _ ?_
  have key : ∀ q, q ≤ T.1 → ∀ M2 : jMem, mTf M M2 → M2 54 3 = nI q → p = tend (tss T) T.1 q → jRun X T0 (d + 1) q_X8_next (0, [.ref 54, .null], [], M2) Q := by
    refine jUp ?_ ?_
    · intro M2 f2 g3 eq
      rw [tend_t (Nat.le_refl _)] at eq
      refine v_X8_next_0 _ _ ?_
      rw [g3]
      refine sp_byteAt hI hT (Nat.le_refl _) (ht.mtf f2) ⟨_, rfl, ?_⟩
      rw [if_neg (Nat.lt_irrefl _)]
      refine ⟨fun _ M3 e3 => ?_, fun g => absurd g (by decide)⟩
      have f3 : mTf M M3 := by subst e3; exact f2.put (by decide)
      have z3 : M3 54 3 = nI T.1 := by subst e3; rw [jP_s]; exact g3
      rw [z3]
      refine sp_byteAt hI hT (Nat.le_refl _) (ht.mtf f3) ⟨_, rfl, ?_⟩
      rw [if_neg (Nat.lt_irrefl _)]
      refine ⟨fun g => absurd g (by decide), fun _ M4 e4 => ?_⟩
      rw [tok1, if_neg (by omega), eq] at h
      exact h M4 (by subst e4; exact f3.put (by decide)) ⟨by subst e4; subst e3; rw [jP_s, jP_s]; exact g3, by subst e4; rw [jP_s]; rfl, by subst e4; rw [jP_s]; exact z3, fun q => absurd (show (0 : Nat) = 1 ∨ (0 : Nat) = 2 from q) (by decide)⟩
    · intro q hq ih M2 f2 g3 eq
      have hBq := hB q hq
      refine v_X8_next_0 _ _ ?_
      rw [g3]
      refine sp_byteAt hI hT (Nat.le_of_lt hq) (ht.mtf f2) ⟨_, rfl, ?_⟩
      rw [if_pos hq]
      refine ⟨fun g M3 e3 => ?_, fun g M3 e3 => ?_⟩
      · have hc : tss T q = false := decide_eq_false (fun r => g (by rw [r]; rfl))
        rw [tend_n hc] at eq
        subst eq
        have f3 : mTf M M3 := by subst e3; exact f2.put (by decide)
        have z3 : M3 54 3 = nI p := by subst e3; rw [jP_s]; exact g3
        have z4 : M3 54 4 = nI p := by subst e3; rw [jP_s]; exact g3
        have t3 := ht.mtf f3
        rw [z3]
        refine sp_byteAt hI hT (Nat.le_of_lt hq) t3 ⟨_, rfl, ?_⟩
        refine ⟨fun _ => sp_in hI ⟨_, rfl, ?_⟩, fun g => absurd (by rw [if_pos hq]; exact nI_pos' (by omega)) g⟩
        rw [jin_i (l := 97) (u := 122) (lo := 97) (hi := 122) rfl rfl, tin_l hB, decide_eq_true hq, Bool.true_and]
        refine ⟨fun g1 => sp_in hI ⟨_, rfl, ?_⟩, fun g1 M4 e4 M5 e5 M6 e6 => ?_⟩
        · have hl : tls T p = false := jBI_0.mp g1
          rw [jin_i (l := 48) (u := 57) (lo := 48) (hi := 57) rfl rfl, tin_d hB, decide_eq_true hq, Bool.true_and, if_pos hq]
          refine ⟨fun g2 => ?_, fun g2 M4 e4 M5 e5 => ?_⟩
          · have hd : tds T p = false := jBI_0.mp g2
            rw [tok1, if_pos hq, if_neg (by rw [hl]; decide), if_neg (by rw [hd]; decide)] at h
            refine ⟨fun g5 M4 e4 M5 e5 => ?_, fun g5 M4 e4 M5 e5 => ?_⟩
            · rw [if_neg (fun r => g5 (by rw [r]; rfl))] at h
              exact h M5 (by subst e5; subst e4; exact (f3.put (by decide)).put (by decide)) ⟨by subst e5; subst e4; rw [jP_s, jP_s]; exact z4, by subst e5; subst e4; rw [jP_s, jP_s]; rfl, by subst e5; subst e4; rw [jP_s, jP_s]; show M3 54 3 + 1 = _; rw [z3, nI_1], fun q => absurd (show (4 : Nat) = 1 ∨ (4 : Nat) = 2 from q) (by decide)⟩
            · rw [if_pos (nI_inj (by omega) (by decide) g5)] at h
              exact h M5 (by subst e5; subst e4; exact (f3.put (by decide)).put (by decide)) ⟨by subst e5; subst e4; rw [jP_s, jP_s]; exact z4, by subst e5; subst e4; rw [jP_s, jP_s]; rfl, by subst e5; subst e4; rw [jP_s, jP_s]; show M3 54 3 + 1 = _; rw [z3, nI_1], fun q => absurd (show (3 : Nat) = 1 ∨ (3 : Nat) = 2 from q) (by decide)⟩
          · have hd : tds T p = true := jnb g2
            rw [tok1, if_pos hq, if_neg (by rw [hl]; decide), if_pos hd] at h
            have f5 : mTf M M5 := by subst e5; subst e4; exact (f3.put (by decide)).put (by decide)
            exact sp_mnumber hI hT hB hq hd (ht.mtf f5) (by subst e5; subst e4; rw [jP_s, jP_s]; exact z4) (by subst e5; subst e4; rw [jP_s, jP_s]; rfl) (by subst e5; subst e4; rw [jP_s, jP_s]; rfl) (by subst e5; subst e4; rw [jP_s, jP_s]; exact z3) (fun M6 f6 k6 => h M6 (f5.tr f6) k6)
        · have hl : tls T p = true := jnb g1
          rw [tok1, if_pos hq, if_pos hl] at h
          rw [if_pos hq] at e5
          have f6 : mTf M M6 := by subst e6; subst e5; subst e4; exact ((f3.put (by decide)).put (by decide)).put (by decide)
          exact sp_mword hI hT hB hq hl (ht.mtf f6) (by subst e6; subst e5; subst e4; rw [jP_s, jP_s, jP_s]; exact z4) (by subst e6; subst e5; subst e4; rw [jP_s, jP_s, jP_s]; rfl) (by subst e6; subst e5; subst e4; rw [jP_s, jP_s, jP_s]; rfl) (by subst e6; subst e5; subst e4; rw [jP_s, jP_s, jP_s]; show M3 54 3 + 1 = _; rw [z3, nI_1]) (fun M7 f7 k7 => h M7 (f6.tr f7) k7)
      · have hc : tss T q = true := decide_eq_true (nI_inj (by omega) (by decide) g)
        rw [tend_y hq hc] at eq
        exact ih M3 (by subst e3; exact f2.put (by decide)) (by subst e3; rw [jP_s]; show M2 54 3 + 1 = _; rw [g3, nI_1]) eq
  exact key p0 hp0 M mTf.rf h3 hpe
end JTM
