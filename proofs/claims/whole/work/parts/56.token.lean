section JTK
variable {X : jX} {d : Nat} {M M' : jMem} {Q : Option Value → jMem → Prop} {T : Nat × (Nat → Nat)}
/-- on while a test holds -/
def trun (c : Nat → Bool) : Nat → Nat → Nat
  | 0, p => p
  | f + 1, p => if c p then trun c f (p + 1) else p
def tend (c : Nat → Bool) (t p : Nat) : Nat := trun c (t - p) p
theorem tend_t {c : Nat → Bool} {t p : Nat} (h : t ≤ p) : tend c t p = p := by
  unfold tend
  rw [Nat.sub_eq_zero_of_le h]
  rfl
theorem tend_y {c : Nat → Bool} {t p : Nat} (h : p < t) (hc : c p = true) : tend c t p = tend c t (p + 1) := by
  unfold tend
  rw [show t - p = (t - (p + 1)) + 1 by omega, trun, if_pos hc]
theorem tend_n {c : Nat → Bool} {t p : Nat} (hc : c p = false) : tend c t p = p := by
  unfold tend
  cases t - p with
  | zero => rfl
  | succ f => rw [trun, if_neg (by rw [hc]; decide)]
theorem tend_b {c : Nat → Bool} {t : Nat} : ∀ p, p ≤ t → p ≤ tend c t p ∧ tend c t p ≤ t := by
  refine jUp ?_ ?_
  · rw [tend_t (Nat.le_refl _)]; exact ⟨Nat.le_refl _, Nat.le_refl _⟩
  · intro p hp ih
    cases hc : c p with
    | true => rw [tend_y hp hc]; omega
    | false => rw [tend_n hc]; omega
def tvr (T : Nat × (Nat → Nat)) : Nat → Nat → Nat → Nat
  | 0, _, a => a
  | f + 1, p, a => if decide (48 ≤ T.2 p ∧ T.2 p ≤ 57) then tvr T f (p + 1) (if 999 < a then a else 10 * a + T.2 p - 48) else a
def tval (T : Nat × (Nat → Nat)) (p a : Nat) : Nat := tvr T (T.1 - p) p a
theorem tval_t {p a : Nat} (h : T.1 ≤ p) : tval T p a = a := by
  unfold tval
  rw [Nat.sub_eq_zero_of_le h]
  rfl
theorem tval_y {p a : Nat} (h : p < T.1) (hc : 48 ≤ T.2 p ∧ T.2 p ≤ 57) : tval T p a = tval T (p + 1) (if 999 < a then a else 10 * a + T.2 p - 48) := by
  unfold tval
  rw [show T.1 - p = (T.1 - (p + 1)) + 1 by omega, tvr, if_pos (decide_eq_true hc)]
theorem tval_n {p a : Nat} (hc : ¬ (48 ≤ T.2 p ∧ T.2 p ≤ 57)) : tval T p a = a := by
  unfold tval
  cases T.1 - p with
  | zero => rfl
  | succ f => rw [tvr, if_neg (by rw [decide_eq_false hc]; decide)]
theorem tval_b : ∀ p, p ≤ T.1 → ∀ a, a ≤ 9999 → tval T p a ≤ 9999 := by
  refine jUp ?_ ?_
  · intro a ha; rw [tval_t (Nat.le_refl _)]; exact ha
  · intro p hp ih a ha
    by_cases hc : 48 ≤ T.2 p ∧ T.2 p ≤ 57
    · rw [tval_y hp hc]
      refine ih _ ?_
      split <;> omega
    · rw [tval_n hc]; exact ha
def tls (T : Nat × (Nat → Nat)) (k : Nat) : Bool := decide (97 ≤ T.2 k ∧ T.2 k ≤ 122)
def tds (T : Nat × (Nat → Nat)) (k : Nat) : Bool := decide (48 ≤ T.2 k ∧ T.2 k ≤ 57)
def tss (T : Nat × (Nat → Nat)) (k : Nat) : Bool := decide (T.2 k = 32)
/-- the token that begins at a place: its start, its kind, its value, the place behind it -/
def tok1 (T : Nat × (Nat → Nat)) (p : Nat) : Nat × Nat × Nat × Nat :=
  if p < T.1 then
    (if tls T p = true then (p, 1, (if tend (tls T) T.1 p = p + 1 then T.2 p else 0), tend (tls T) T.1 p)
     else if tds T p = true then (p, (if 999 < tval T p 0 ∨ (T.2 p = 48 ∧ p + 1 < tend (tds T) T.1 p) then 4 else 2), tval T p 0, tend (tds T) T.1 p)
     else (p, (if T.2 p = 59 then 3 else 4), 0, p + 1))
  else (p, 0, 0, p)
def tok (T : Nat × (Nat → Nat)) (p : Nat) : Nat × Nat × Nat × Nat := tok1 T (tend (tss T) T.1 p)
theorem tok1_b {p : Nat} (hp : p ≤ T.1) : (tok1 T p).1 = p ∧ (tok1 T p).2.1 ≤ 4 ∧ (tok1 T p).2.2.2 ≤ T.1 ∧ ((tok1 T p).2.1 ≠ 0 → p < T.1 ∧ p < (tok1 T p).2.2.2) ∧ ((tok1 T p).2.1 = 0 → (tok1 T p).2.2.2 = p) ∧ ((tok1 T p).2.1 = 1 → (tok1 T p).2.2.1 = 0 ∨ (97 ≤ (tok1 T p).2.2.1 ∧ (tok1 T p).2.2.1 ≤ 122)) ∧ ((tok1 T p).2.1 = 2 → (tok1 T p).2.2.1 ≤ 999) := by
  unfold tok1
  by_cases h : p < T.1
  · rw [if_pos h]
    by_cases hl : tls T p = true
    · rw [if_pos hl]
      have e := tend_y h hl
      have b := tend_b (c := tls T) (t := T.1) (p + 1) h
      rw [e]
      have hl2 := of_decide_eq_true hl
      refine ⟨rfl, by show (1 : Nat) ≤ 4; decide, b.2, fun _ => ⟨h, by dsimp only; omega⟩, fun q => absurd (show (1 : Nat) = 0 from q) (by decide), fun _ => ?_, fun q => absurd (show (1 : Nat) = 2 from q) (by decide)⟩
      dsimp only
      split
      · exact Or.inr hl2
      · exact Or.inl rfl
    · rw [if_neg hl]
      by_cases hd : tds T p = true
      · rw [if_pos hd]
        have e := tend_y h hd
        have b := tend_b (c := tds T) (t := T.1) (p + 1) h
        rw [e]
        refine ⟨rfl, by dsimp only; split <;> decide, b.2, fun _ => ⟨h, by dsimp only; omega⟩, fun q => ?_, fun q => ?_, fun q => ?_⟩
        · dsimp only at q
          split at q <;> exact absurd q (by decide)
        · dsimp only at q
          split at q <;> exact absurd q (by decide)
        · dsimp only at q ⊢
          split at q
          · exact absurd q (by decide)
          · rename_i g
            have := fun r => g (Or.inl r)
            omega
      · rw [if_neg hd]
        refine ⟨rfl, by dsimp only; split <;> decide, h, fun _ => ⟨h, by dsimp only; omega⟩, fun q => ?_, fun q => ?_, fun q => ?_⟩ <;> (dsimp only at q; split at q <;> exact absurd q (by decide))
  · rw [if_neg h]
    exact ⟨rfl, by show (0 : Nat) ≤ 4; decide, hp, fun q => absurd rfl q, fun _ => rfl, fun q => absurd (show (0 : Nat) = 1 from q) (by decide), fun q => absurd (show (0 : Nat) = 2 from q) (by decide)⟩
theorem tok_b {p : Nat} (hp : p ≤ T.1) : p ≤ (tok T p).1 ∧ (tok T p).1 ≤ T.1 ∧ (tok T p).2.1 ≤ 4 ∧ (tok T p).2.2.2 ≤ T.1 ∧ ((tok T p).2.1 ≠ 0 → (tok T p).1 < T.1 ∧ (tok T p).1 < (tok T p).2.2.2) ∧ ((tok T p).2.1 = 1 → (tok T p).2.2.1 = 0 ∨ (97 ≤ (tok T p).2.2.1 ∧ (tok T p).2.2.1 ≤ 122)) ∧ ((tok T p).2.1 = 2 → (tok T p).2.2.1 ≤ 999) := by
  have b := tend_b (c := tss T) (t := T.1) p hp
  have h := tok1_b (T := T) b.2
  unfold tok
  refine ⟨by rw [h.1]; exact b.1, by rw [h.1]; exact b.2, h.2.1, h.2.2.1, fun q => by rw [h.1]; exact h.2.2.2.1 q, h.2.2.2.2.2.1, h.2.2.2.2.2.2⟩
/-- the class's, the reference's memory at a token -/
def jTk (M : jMem) (c : Nat × Nat × Nat × Nat) : Prop := M 1 2 = nI c.1 ∧ M 1 3 = nI c.2.1 ∧ M 1 4 = nI c.2.2.2 ∧ (c.2.1 = 1 → M 1 5 = nI (if c.2.2.1 = 0 then 96 else c.2.2.1) - 97) ∧ (c.2.1 = 2 → M 1 5 = nI c.2.2.1)
def mTk (M : jMem) (c : Nat × Nat × Nat × Nat) : Prop := M 54 4 = nI c.1 ∧ M 54 5 = nI c.2.1 ∧ M 54 3 = nI c.2.2.2 ∧ (c.2.1 = 1 ∨ c.2.1 = 2 → M 54 6 = nI c.2.2.1)
theorem sp_isLetter (hI : jInj X T0) {b : Nat} (hb : b < 256) (h : Q (some (.int (jBI (decide (97 ≤ b ∧ b ≤ 122))))) M) : jOk X T0 d q_X6_isLetter [.int (nI b)] M Q := by
  refine v_X6_isLetter hI _ _ _ ?_
  rw [show (97 : Int32) = nI 97 from rfl, show (122 : Int32) = nI 122 from rfl, nI_ltI (by omega) (by decide), nI_ltI (by decide) (by omega)]
  refine ⟨fun g => ?_, fun g => ⟨fun g2 => ?_, fun g2 => ?_⟩⟩
  · rw [decide_eq_false (by omega)] at h; exact h
  · rw [decide_eq_false (by omega)] at h; exact h
  · rw [decide_eq_true (by omega)] at h; exact h
theorem sp_isDigit (hI : jInj X T0) {b : Nat} (hb : b < 256) (h : Q (some (.int (jBI (decide (48 ≤ b ∧ b ≤ 57))))) M) : jOk X T0 d q_X6_isDigit [.int (nI b)] M Q := by
  refine v_X6_isDigit hI _ _ _ ?_
  rw [show (48 : Int32) = nI 48 from rfl, show (57 : Int32) = nI 57 from rfl, nI_ltI (by omega) (by decide), nI_ltI (by decide) (by omega)]
  refine ⟨fun g => ?_, fun g => ⟨fun g2 => ?_, fun g2 => ?_⟩⟩
  · rw [decide_eq_false (by omega)] at h; exact h
  · rw [decide_eq_false (by omega)] at h; exact h
  · rw [decide_eq_true (by omega)] at h; exact h
/-- the text's own memory stays; only the reader's moves -/
def jTf (M M' : jMem) : Prop := (∀ c, c ≠ 1 → M' c = M c) ∧ M' 1 1 = M 1 1
theorem jTf.rf : jTf M M := ⟨fun _ _ => rfl, rfl⟩
theorem jTf.tr {M1 M2 : jMem} (h : jTf M M1) (h2 : jTf M1 M2) : jTf M M2 := ⟨fun c a => (h2.1 c a).trans (h.1 c a), h2.2.trans h.2⟩
theorem jTf.put {M1 : jMem} (h : jTf M M1) {k : Nat} {v : Int32} (hk : k ≠ 1) : jTf M (jP M1 1 k v) := ⟨fun c a => by rw [jP_n a]; exact h.1 c a, by rw [jP_s]; simp [upd, Ne.symm hk]; exact h.2⟩
theorem jTxt.tf (h : jTxt (M 1 1) (M 2) T) (hf : jTf M M') : jTxt (M' 1 1) (M' 2) T := by rw [hf.1 2 (by decide), hf.2]; exact h
theorem sp_readWord (hI : jInj X T0) (hT : T.1 ≤ 150) (hB : ∀ k, k < T.1 → T.2 k < 256) {p : Nat} (hp : p < T.1) (hl : tls T p = true) (ht : jTxt (M 1 1) (M 2) T) (h2 : M 1 2 = nI p) (h4 : M 1 4 = nI p)
    (h : ∀ M', jTf M M' → jTk M' (p, 1, (if tend (tls T) T.1 p = p + 1 then T.2 p else 0), tend (tls T) T.1 p) → Q none M') : jOk X T0 (d + 1) q_X6_readWord [.ref 1] M Q := by
  have hb := tend_b (c := tls T) (t := T.1) p (Nat.le_of_lt hp)
  have hb1 : p + 1 ≤ tend (tls T) T.1 p := by rw [tend_y hp hl]; exact (tend_b (c := tls T) (t := T.1) (p + 1) hp).1
  obtain ⟨e, he⟩ : ∃ e, e = tend (tls T) T.1 p := ⟨_, rfl⟩
  rw [← he] at h hb hb1
  have hlp := of_decide_eq_true hl
  have ex : ∀ M2 : jMem, jTf M M2 → M2 1 2 = nI p → M2 1 4 = nI e → ∀ M1, M1 = jP M2 1 3 1 → ((¬ ((M1 1 4) - (M1 1 2)) = 1 → (∀ M2, M2 = jP M1 1 5 (-1) → Q none M2)) ∧ (((M1 1 4) - (M1 1 2)) = 1 → vp_in (M1 1 2) 150 ∧ (∀ M3, M3 = jP M1 1 5 ((M1 2 (M1 1 2).toNatClampNeg) - 97) → Q none M3))) := by
    intro M2 f2 g2 g4 M1 e1
    have f1 : jTf M M1 := by subst e1; exact f2.put (by decide)
    have z2 : M1 1 2 = nI p := by subst e1; rw [jP_s]; exact g2
    have z4 : M1 1 4 = nI e := by subst e1; rw [jP_s]; exact g4
    have z3 : M1 1 3 = nI 1 := by subst e1; rw [jP_s]; rfl
    rw [z4, z2, pk_sub (by omega), show (1 : Int32) = nI 1 from rfl, nI_cl (by omega)]
    refine ⟨fun g M3 e3 => ?_, fun g => ⟨vp_in_nI (by omega) (by decide), fun M3 e3 => ?_⟩⟩
    · have hne : ¬ e = p + 1 := fun q => g (by rw [q]; exact congrArg nI (by omega))
      refine h M3 (by subst e3; exact f1.put (by decide)) ⟨by subst e3; rw [jP_s]; exact z2, by subst e3; rw [jP_s]; exact z3, by subst e3; rw [jP_s]; exact z4, fun _ => ?_, fun q => absurd (show (1 : Nat) = 2 from q) (by decide)⟩
      rw [if_neg hne]
      subst e3
      rw [jP_s]
      rfl
    · have hne : e = p + 1 := by have := nI_inj (by omega) (by decide) g; omega
      refine h M3 (by subst e3; exact f1.put (by decide)) ⟨by subst e3; rw [jP_s]; exact z2, by subst e3; rw [jP_s]; exact z3, by subst e3; rw [jP_s]; exact z4, fun _ => ?_, fun q => absurd (show (1 : Nat) = 2 from q) (by decide)⟩
      rw [if_pos hne]
      dsimp only
      rw [if_neg (show ¬ T.2 p = 0 by omega)]
      subst e3
      rw [jP_s, (ht.tf f1).2 p hp]
      rfl
  refine v_X6_readWord hI _ _ ?_
  have key : ∀ q, q ≤ T.1 → ∀ M2 : jMem, jTf M M2 → M2 1 2 = nI p → M2 1 4 = nI q → e = tend (tls T) T.1 q → jRun X T0 (d + 1) q_X6_readWord (0, [.ref 1], [], M2) Q := by
    refine jUp ?_ ?_
    · intro M2 f2 g2 g4 eq
      rw [tend_t (Nat.le_refl _)] at eq
      refine v_X6_readWord_0 _ _ ?_
      rw [(ht.tf f2).1, g4]
      exact ⟨fun _ => ex M2 f2 g2 (by rw [eq]; exact g4), fun g => absurd (sp_le (Nat.le_refl _) (by omega)) g⟩
    · intro q hq ih M2 f2 g2 g4 eq
      have hBq := hB q hq
      refine v_X6_readWord_0 _ _ ?_
      rw [(ht.tf f2).1, g4, nI_cl (by omega), (ht.tf f2).2 q hq]
      refine ⟨fun g => absurd g (sp_nle hq (by omega)), fun _ => ⟨vp_in_nI (by omega) (by decide), sp_isLetter hI hBq ⟨_, rfl, fun g => ?_, fun g M3 e3 => ?_⟩⟩⟩
      · have hc : tls T q = false := jBI_0.mp g
        rw [tend_n hc] at eq
        exact ex M2 f2 g2 (by rw [eq]; exact g4)
      · have hc : tls T q = true := jnb g
        rw [tend_y hq hc] at eq
        exact ih M3 (by subst e3; exact f2.put (by decide)) (by subst e3; rw [jP_s]; exact g2) (by subst e3; rw [jP_s, g4, nI_1]; rfl) eq
  exact key p (Nat.le_of_lt hp) M jTf.rf h2 h4 he
end JTK
