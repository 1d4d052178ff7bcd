section JRD
variable {X : jX} {d : Nat} {M M' : jMem} {Q : Option Value → jMem → Prop} {T : Nat × (Nat → Nat)} {so P : Nat → Nat} {n rc k v : Nat}
/-- sorts, numbers, how many, the reach: as read so far -/
abbrev jPg : Type := (Nat → Nat) × (Nat → Nat) × Nat × Nat
def jDr (M : jMem) (D : jPg) : Prop :=
  (M 3 8 = nI D.2.2.1 ∧ M 3 9 = nI (pct D.1 0 D.2.2.1) ∧ M 3 10 = nI (pct D.1 2 D.2.2.1) ∧ M 3 11 = nI (pct D.1 4 D.2.2.1) ∧ M 3 12 = nI (pct D.1 5 D.2.2.1) ∧ M 3 13 = nI D.2.2.2) ∧
  ((∀ k, k < D.2.2.1 → M 4 k = nI (D.1 k)) ∧ (∀ k, k < D.2.2.1 → M 5 k = nI (D.2.1 k)) ∧ (∀ k, k < D.2.2.1 → M 6 k = nI (pnum D.1 k))) ∧
  ((∀ x, x < 8 → M 8 x = nI (pli D.1 D.2.1 x D.2.2.1) - 1) ∧ (∀ k, k < D.2.2.1 → D.1 k = 2 → M 9 (pct D.1 2 k) = nI k) ∧ (∀ k, k < D.2.2.1 → D.1 k = 4 → M 10 (pct D.1 4 k) = nI k) ∧ (∀ k, k < D.2.2.1 → D.1 k = 5 → M 11 (pct D.1 5 k) = nI k))
def mDr (M : jMem) (D : jPg) : Prop := M 54 27 = nI D.2.2.1 ∧ M 54 28 = nI D.2.2.2 ∧ (∀ k, k < D.2.2.1 → M 67 k = nI (D.1 k)) ∧ (∀ k, k < D.2.2.1 → M 68 k = nI (D.2.1 k))
def rDw (D : jPg) : Prop := (D.2.2.1 ≤ 32 ∧ D.2.2.2 ≤ 127 ∧ pct D.1 2 D.2.2.1 ≤ 10 ∧ pct D.1 4 D.2.2.1 ≤ 6 ∧ pct D.1 5 D.2.2.1 ≤ 3) ∧
  (∀ k, k < D.2.2.1 → D.1 k ≤ 5) ∧ (∀ k, k < D.2.2.1 → D.1 k = 0 → 1 ≤ D.2.1 k ∧ D.2.1 k ≤ 60) ∧ (∀ k, k < D.2.2.1 → D.1 k = 3 → D.2.1 k = 2 ∨ D.2.1 k = 4 ∨ D.2.1 k = 8 ∨ D.2.1 k = 16) ∧ (∀ k, k < D.2.2.1 → (D.1 k = 1 ∨ D.1 k = 2 ∨ D.1 k = 4) → D.2.1 k < 8)
theorem pct_pup {s i : Nat} (h : i ≤ n) : pct (pup so n k) s i = pct so s i := fb_ct_cong (fun j hj => by rw [pup_n (by omega)])
theorem pct_pup1 {s : Nat} : pct (pup so n k) s (n + 1) = pct so s n + (if k = s then 1 else 0) := by
  unfold pct
  rw [fb_ct_succ, pup_s]
  have := pct_pup (so := so) (n := n) (k := k) (s := s) (Nat.le_refl n)
  unfold pct at this
  rw [this]
  by_cases e : k = s
  · rw [if_pos e, if_pos (by rw [e]; exact beq_self_eq_true s)]
  · rw [if_neg e, if_neg (fun q => e (beq_iff_eq.mp q))]
theorem pli_pup {x : Nat} : ∀ i, i ≤ n → pli (pup so n k) (pup P n v) x i = pli so P x i
  | 0, _ => rfl
  | i + 1, h => by simp only [pli]; rw [pup_n (by omega), pup_n (by omega), pli_pup i (by omega)]
theorem pli_pup1 {x : Nat} : pli (pup so n k) (pup P n v) x (n + 1) = if k = 1 ∧ v = x then n + 1 else pli so P x n := by
  simp only [pli]
  rw [pup_s, pup_s, pli_pup n (Nat.le_refl _)]
theorem pnum_pup {i : Nat} (h : i < n) : pnum (pup so n k) i = pnum so i := by
  unfold pnum
  rw [pup_n (by omega), pct_pup (by omega)]
theorem pnum_pup1 : pnum (pup so n k) n = if k = 1 ∨ k = 3 then 0 else pct so k n := by
  unfold pnum
  rw [pup_s, pct_pup (Nat.le_refl _)]
theorem jDr_add (hn : n < 32) (h : jDr M (so, P, n, rc)) (m8 : M' 3 8 = nI (n + 1)) (m9 : M' 3 9 = nI (pct so 0 n + if k = 0 then 1 else 0)) (m10 : M' 3 10 = nI (pct so 2 n + if k = 2 then 1 else 0)) (m11 : M' 3 11 = nI (pct so 4 n + if k = 4 then 1 else 0)) (m12 : M' 3 12 = nI (pct so 5 n + if k = 5 then 1 else 0)) (m13 : M' 3 13 = M 3 13)
    (a4 : M' 4 = upd (M 4) n (nI k)) (a5 : M' 5 = upd (M 5) n (nI v)) (a6 : M' 6 = upd (M 6) n (nI (if k = 1 ∨ k = 3 then 0 else pct so k n)))
    (a8 : M' 8 = if k = 1 then upd (M 8) v (nI n) else M 8) (a9 : M' 9 = if k = 2 then upd (M 9) (pct so 2 n) (nI n) else M 9) (a10 : M' 10 = if k = 4 then upd (M 10) (pct so 4 n) (nI n) else M 10) (a11 : M' 11 = if k = 5 then upd (M 11) (pct so 5 n) (nI n) else M 11) : jDr M' (pup so n k, pup P n v, n + 1, rc) := by
  obtain ⟨h1, ⟨h4, h5, h6⟩, h8, h9, h10, h11⟩ := h
  have lists : ∀ (s : Nat) (f g : Nat → Int32), (∀ j, j < n → so j = s → f (pct so s j) = nI j) → g = (if k = s then upd f (pct so s n) (nI n) else f) → ∀ j, j < n + 1 → pup so n k j = s → g (pct (pup so n k) s j) = nI j := by
    intro s f g hf hg j hj hs
    rw [hg, pct_pup (by omega)]
    by_cases q : j = n
    · subst q
      rw [pup_s] at hs
      rw [if_pos hs]
      simp [upd]
    · rw [pup_n q] at hs
      have hlt := pct_lt (n := n) (show j < n by omega) hs
      by_cases e : k = s
      · rw [if_pos e]
        simp only [upd]
        rw [if_neg (by omega)]
        exact hf j (by omega) hs
      · rw [if_neg e]
        exact hf j (by omega) hs
  refine ⟨⟨m8, by rw [m9]; dsimp only; rw [pct_pup1], by rw [m10]; dsimp only; rw [pct_pup1], by rw [m11]; dsimp only; rw [pct_pup1], by rw [m12]; dsimp only; rw [pct_pup1], by rw [m13]; exact h1.2.2.2.2.2⟩, ⟨fun j hj => ?_, fun j hj => ?_, fun j hj => ?_⟩, ⟨fun x hx => ?_, lists 2 _ _ h9 a9, lists 4 _ _ h10 a10, lists 5 _ _ h11 a11⟩⟩
  · have hj : j < n + 1 := hj
    rw [a4]
    simp only [upd]
    by_cases q : j = n
    · subst q; rw [if_pos rfl, pup_s]
    · rw [if_neg q, pup_n q]; exact h4 j (by show j < n; omega)
  · have hj : j < n + 1 := hj
    rw [a5]
    simp only [upd]
    by_cases q : j = n
    · subst q; rw [if_pos rfl, pup_s]
    · rw [if_neg q, pup_n q]; exact h5 j (by show j < n; omega)
  · have hj : j < n + 1 := hj
    rw [a6]
    simp only [upd]
    by_cases q : j = n
    · subst q; rw [if_pos rfl, pnum_pup1]
    · rw [if_neg q, pnum_pup (by omega)]; exact h6 j (by show j < n; omega)
  · rw [a8]
    dsimp only
    rw [pli_pup1]
    by_cases e : k = 1
    · rw [if_pos e]
      simp only [upd]
      by_cases q : x = v
      · rw [if_pos q, if_pos ⟨e, q.symm⟩, show (1 : Int32) = nI 1 from rfl, pk_sub (by omega)]; rfl
      · rw [if_neg q, if_neg (fun r => q r.2.symm)]; exact h8 x hx
    · rw [if_neg e, if_neg (fun r => e r.1)]; exact h8 x hx
theorem sp_cnum (hI : jInj X T0) (hk : k ≤ 5) (hv : k = 1 → v < 8) (hn : n < 32) (h2 : pct so 2 n ≤ 10) (h4 : pct so 4 n ≤ 6) (h5 : pct so 5 n ≤ 3) (r2 : k = 2 → pct so 2 n < 10) (r4 : k = 4 → pct so 4 n < 6) (r5 : k = 5 → pct so 5 n < 3) (hD : M 3 8 = nI n ∧ M 3 9 = nI (pct so 0 n) ∧ M 3 10 = nI (pct so 2 n) ∧ M 3 11 = nI (pct so 4 n) ∧ M 3 12 = nI (pct so 5 n))
    (h : ∀ M', (∀ c, c ≠ 3 → c ≠ 8 → c ≠ 9 → c ≠ 10 → c ≠ 11 → M' c = M c) → (∀ j, j < 9 ∨ 12 < j → M' 3 j = M 3 j) → M' 3 9 = nI (pct so 0 n + if k = 0 then 1 else 0) → M' 3 10 = nI (pct so 2 n + if k = 2 then 1 else 0) → M' 3 11 = nI (pct so 4 n + if k = 4 then 1 else 0) → M' 3 12 = nI (pct so 5 n + if k = 5 then 1 else 0) →
      (M' 8 = if k = 1 then upd (M 8) v (nI n) else M 8) → (M' 9 = if k = 2 then upd (M 9) (pct so 2 n) (nI n) else M 9) → (M' 10 = if k = 4 then upd (M 10) (pct so 4 n) (nI n) else M 10) → (M' 11 = if k = 5 then upd (M 11) (pct so 5 n) (nI n) else M 11) → Q (some (.int (nI (if k = 1 ∨ k = 3 then 0 else pct so k n)))) M') : jOk X T0 d q_X3_numberOf [.ref 3, .int (nI k), .int (nI v)] M Q := by
  obtain ⟨e8, e9, e10, e11, e12⟩ := hD
  refine v_X3_numberOf hI _ _ _ _ ?_
  have hne : ∀ j, j ≤ 5 → (nI k = nI j ↔ k = j) := fun j hj => ⟨fun q => nI_inj (by omega) (by omega) q, fun q => by rw [q]⟩
  rw [show (0 : Int32) = nI 0 from rfl]
  rcases (show k = 0 ∨ k = 1 ∨ k = 2 ∨ k = 3 ∨ k = 4 ∨ k = 5 by omega) with rfl | rfl | rfl | rfl | rfl | rfl
  · refine ⟨fun _ M1 e1 => ?_, fun g => absurd rfl g⟩
    rw [e9]
    exact h M1 (fun c a _ _ _ _ => by subst e1; rw [jP_n a]) (fun j hj => by subst e1; rw [jP_s]; simp [upd, show j ≠ 9 by omega]) (by subst e1; rw [jP_s, e9, nI_1]; rfl) (by subst e1; rw [jP_s]; exact e10) (by subst e1; rw [jP_s]; exact e11) (by subst e1; rw [jP_s]; exact e12) (by subst e1; rw [jP_n (by decide)]; rfl) (by subst e1; rw [jP_n (by decide)]; rfl) (by subst e1; rw [jP_n (by decide)]; rfl) (by subst e1; rw [jP_n (by decide)]; rfl)
  · refine ⟨fun g => absurd g (by decide), fun _ => ⟨fun _ => ⟨fun g => absurd g (nI_pos (by have := hv rfl; omega)), fun _ => ⟨fun g => absurd g (sp_nle (b := 8) (hv rfl) (by decide)), fun _ => ⟨vp_in_nI (hv rfl) (by decide), fun M1 e1 => ?_⟩⟩⟩, fun g => absurd rfl g⟩⟩
    rw [nI_cl (by have := hv rfl; omega), e8] at e1
    exact h M1 (fun c a b _ _ _ => by subst e1; rw [jP_n b]) (fun j hj => by subst e1; rw [jP_n (by decide)]) (by subst e1; rw [jP_n (by decide)]; exact e9) (by subst e1; rw [jP_n (by decide)]; exact e10) (by subst e1; rw [jP_n (by decide)]; exact e11) (by subst e1; rw [jP_n (by decide)]; exact e12) (by subst e1; rw [jP_s]; rfl) (by subst e1; rw [jP_n (by decide)]; rfl) (by subst e1; rw [jP_n (by decide)]; rfl) (by subst e1; rw [jP_n (by decide)]; rfl)
  · refine ⟨fun g => absurd g (by decide), fun _ => ⟨fun g => absurd g (by decide), fun _ => ⟨fun _ => ⟨by rw [e10]; exact vp_in_nI (r2 rfl) (by decide), fun M1 e1 M2 e2 => ?_⟩, fun g => absurd rfl g⟩⟩⟩
    rw [e10, nI_cl (by have := r2 rfl; omega), e8] at e1
    have z : M1 3 10 = nI (pct so 2 n) := by subst e1; rw [jP_n (by decide)]; exact e10
    rw [z]
    rw [z] at e2
    exact h M2 (fun c a _ b _ _ => by subst e2; subst e1; rw [jP_n a, jP_n b]) (fun j hj => by subst e2; subst e1; rw [jP_s]; simp [upd, show j ≠ 10 by omega]; rw [jP_n (by decide)]) (by subst e2; subst e1; rw [jP_s, jP_n (by decide)]; exact e9) (by subst e2; rw [jP_s, nI_1]; rfl) (by subst e2; subst e1; rw [jP_s, jP_n (by decide)]; exact e11) (by subst e2; subst e1; rw [jP_s, jP_n (by decide)]; exact e12) (by subst e2; subst e1; rw [jP_n (by decide), jP_n (by decide)]; rfl) (by subst e2; subst e1; rw [jP_n (by decide), jP_s]; rfl) (by subst e2; subst e1; rw [jP_n (by decide), jP_n (by decide)]; rfl) (by subst e2; subst e1; rw [jP_n (by decide), jP_n (by decide)]; rfl)
  · refine ⟨fun g => absurd g (by decide), fun _ => ⟨fun g => absurd g (by decide), fun _ => ⟨fun g => absurd g (by decide), fun _ => ⟨fun _ => ?_, fun g => absurd rfl g⟩⟩⟩⟩
    exact h M (fun _ _ _ _ _ _ => rfl) (fun _ _ => rfl) e9 e10 e11 e12 rfl rfl rfl rfl
  · refine ⟨fun g => absurd g (by decide), fun _ => ⟨fun g => absurd g (by decide), fun _ => ⟨fun g => absurd g (by decide), fun _ => ⟨fun g => absurd g (by decide), fun _ => ⟨fun _ => ⟨by rw [e11]; exact vp_in_nI (r4 rfl) (by decide), fun M1 e1 M2 e2 => ?_⟩, fun g => absurd rfl g⟩⟩⟩⟩⟩
    rw [e11, nI_cl (by have := r4 rfl; omega), e8] at e1
    have z : M1 3 11 = nI (pct so 4 n) := by subst e1; rw [jP_n (by decide)]; exact e11
    rw [z]
    rw [z] at e2
    exact h M2 (fun c a _ _ b _ => by subst e2; subst e1; rw [jP_n a, jP_n b]) (fun j hj => by subst e2; subst e1; rw [jP_s]; simp [upd, show j ≠ 11 by omega]; rw [jP_n (by decide)]) (by subst e2; subst e1; rw [jP_s, jP_n (by decide)]; exact e9) (by subst e2; subst e1; rw [jP_s, jP_n (by decide)]; exact e10) (by subst e2; rw [jP_s, nI_1]; rfl) (by subst e2; subst e1; rw [jP_s, jP_n (by decide)]; exact e12) (by subst e2; subst e1; rw [jP_n (by decide), jP_n (by decide)]; rfl) (by subst e2; subst e1; rw [jP_n (by decide), jP_n (by decide)]; rfl) (by subst e2; subst e1; rw [jP_n (by decide), jP_s]; rfl) (by subst e2; subst e1; rw [jP_n (by decide), jP_n (by decide)]; rfl)
  · refine ⟨fun g => absurd g (by decide), fun _ => ⟨fun g => absurd g (by decide), fun _ => ⟨fun g => absurd g (by decide), fun _ => ⟨fun g => absurd g (by decide), fun _ => ⟨fun g => absurd g (by decide), fun _ => ⟨fun _ => ⟨by rw [e12]; exact vp_in_nI (r5 rfl) (by decide), fun M1 e1 M2 e2 => ?_⟩, fun g => absurd rfl g⟩⟩⟩⟩⟩⟩
    rw [e12, nI_cl (by have := r5 rfl; omega), e8] at e1
    have z : M1 3 12 = nI (pct so 5 n) := by subst e1; rw [jP_n (by decide)]; exact e12
    rw [z]
    rw [z] at e2
    exact h M2 (fun c a _ _ _ b => by subst e2; subst e1; rw [jP_n a, jP_n b]) (fun j hj => by subst e2; subst e1; rw [jP_s]; simp [upd, show j ≠ 12 by omega]; rw [jP_n (by decide)]) (by subst e2; subst e1; rw [jP_s, jP_n (by decide)]; exact e9) (by subst e2; subst e1; rw [jP_s, jP_n (by decide)]; exact e10) (by subst e2; subst e1; rw [jP_s, jP_n (by decide)]; exact e11) (by subst e2; rw [jP_s, nI_1]; rfl) (by subst e2; subst e1; rw [jP_n (by decide), jP_n (by decide)]; rfl) (by subst e2; subst e1; rw [jP_n (by decide), jP_n (by decide)]; rfl) (by subst e2; subst e1; rw [jP_n (by decide), jP_n (by decide)]; rfl) (by subst e2; subst e1; rw [jP_n (by decide), jP_s]; rfl)
end JRD
