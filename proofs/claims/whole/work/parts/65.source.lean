section JSO
variable {X : jX} {d : Nat} {M M' : jMem} {Q : Option Value → jMem → Prop} {so P : Nat → Nat} {n rc k v i : Nat} {D : jPg}
/-- what is now behind a source: the numbers as told, nothing pinned, no island -/
def rV0 (P : Nat → Nat) (n : Nat) : Nat → Nat := fun k => if k < n then P k else 0
def mLi (M : jMem) (so P : Nat → Nat) (i : Nat) : Prop :=
  (M 54 12 = nI (pct so 2 i) ∧ M 54 14 = nI (pct so 4 i) ∧ M 54 16 = nI (pct so 5 i) ∧ M 54 18 = nI (pct so 0 i)) ∧
  ((∀ k, k < i → M 56 k = nI (so k)) ∧ (∀ k, k < 36 → M 57 k = nI (rV0 P i k))) ∧
  ((∀ x, x < 8 → M 61 x = nI (pli so P x i) - 1) ∧ (∀ k, k < i → so k = 2 → M 58 (pct so 2 k) = nI k) ∧ (∀ k, k < i → so k = 4 → M 59 (pct so 4 k) = nI k) ∧ (∀ k, k < i → so k = 5 → M 60 (pct so 5 k) = nI k))
theorem mLi_step (hi : i < 32) (h : mLi M so P i) (a12 : M' 54 12 = nI (pct so 2 i + if so i = 2 then 1 else 0)) (a14 : M' 54 14 = nI (pct so 4 i + if so i = 4 then 1 else 0)) (a16 : M' 54 16 = nI (pct so 5 i + if so i = 5 then 1 else 0)) (a18 : M' 54 18 = nI (pct so 0 i + if so i = 0 then 1 else 0))
    (e56 : M' 56 = upd (M 56) i (nI (so i))) (e57 : M' 57 = upd (M 57) i (nI (P i))) (e61 : M' 61 = if so i = 1 then upd (M 61) (P i) (nI i) else M 61) (e58 : M' 58 = if so i = 2 then upd (M 58) (pct so 2 i) (nI i) else M 58) (e59 : M' 59 = if so i = 4 then upd (M 59) (pct so 4 i) (nI i) else M 59) (e60 : M' 60 = if so i = 5 then upd (M 60) (pct so 5 i) (nI i) else M 60) : mLi M' so P (i + 1) := by
  obtain ⟨-, ⟨h56, h57⟩, h61, h58, h59, h60⟩ := h
  have lists : ∀ (s : Nat) (f g : Nat → Int32), (∀ j, j < i → so j = s → f (pct so s j) = nI j) → g = (if so i = s then upd f (pct so s i) (nI i) else f) → ∀ j, j < i + 1 → so j = s → g (pct so s j) = nI j := by
    intro s f g hf hg j hj hs
    rw [hg]
    by_cases q : j = i
    · subst q
      rw [if_pos hs]
      simp [upd]
    · have hlt := pct_lt (n := i) (show j < i by omega) hs
      by_cases e : so i = s
      · rw [if_pos e]
        simp only [upd]
        rw [if_neg (by omega)]
        exact hf j (by omega) hs
      · rw [if_neg e]
        exact hf j (by omega) hs
  refine ⟨⟨by rw [a12, pct_1], by rw [a14, pct_1], by rw [a16, pct_1], by rw [a18, pct_1]⟩, ⟨fun k hk => ?_, fun k hk => ?_⟩, fun x hx => ?_, lists 2 _ _ h58 e58, lists 4 _ _ h59 e59, lists 5 _ _ h60 e60⟩
  · rw [e56]
    simp only [upd]
    by_cases q : k = i
    · rw [if_pos q, q]
    · rw [if_neg q]; exact h56 k (by omega)
  · rw [e57]
    simp only [upd]
    by_cases q : k = i
    · rw [if_pos q, q]
      unfold rV0
      rw [if_pos (by omega)]
    · rw [if_neg q, h57 k hk]
      unfold rV0
      by_cases r : k < i
      · rw [if_pos r, if_pos (by omega)]
      · rw [if_neg r, if_neg (by omega)]
  · rw [e61]
    simp only [pli]
    by_cases e : so i = 1
    · rw [if_pos e]
      simp only [upd]
      by_cases q : x = P i
      · rw [if_pos q, if_pos ⟨e, q.symm⟩, show (1 : Int32) = nI 1 from rfl, pk_sub (by omega)]; rfl
      · rw [if_neg q, if_neg (fun r => q r.2.symm)]; exact h61 x hx
    · rw [if_neg e, if_neg (fun r => e r.1)]; exact h61 x hx
theorem sp_mlay (hI : jInj X T0) (hD : mDr M D) (hw : rDw D)
    (h : ∀ M', (∀ c, c ≠ 54 → (c < 56 ∨ 61 < c) → c ≠ 63 → M' c = M c) → (∀ k, k ≠ 7 → k ≠ 8 → k ≠ 12 → k ≠ 14 → k ≠ 16 → k ≠ 18 → k ≠ 20 → M' 54 k = M 54 k) → mPr M' D.1 D.2.1 D.2.2.1 D.2.2.2 → (∀ k, k < 36 → M' 57 k = nI (rV0 D.2.1 D.2.2.1 k)) → M' 54 20 = 0 → M' 63 0 = 0 → M' 63 1 = 0 → Q none M') : jOk X T0 d q_X8_lay [.ref 54] M Q := by
  obtain ⟨so, P, n, rc⟩ := D
  have hn : n ≤ 32 := hw.1.1
  obtain ⟨d27, d28, d67, d68⟩ := hD
  dsimp only at d27 d28 d67 d68 h
  refine v_X8_lay hI _ _ (fun M1 e1 M2 e2 M3 e3 M4 e4 M5 e5 M6 e6 M7 e7 M8 e8 M9 e9 => ?_)
  have o7 : ∀ c, c ≠ 54 → M7 c = M c := fun c a => by subst e7; subst e6; subst e5; subst e4; subst e3; subst e2; subst e1; rw [jP_n a, jP_n a, jP_n a, jP_n a, jP_n a, jP_n a, jP_n a]
  have o9 : ∀ c, c ≠ 63 → M9 c = M7 c := fun c a => by subst e9; subst e8; rw [jP_n a, jP_n a]
  have z1 : M1 54 = upd (M 54) 7 (M 54 27) := by rw [e1, jP_s]
  have z2 : M2 54 = upd (M1 54) 8 (M 54 28) := by rw [e2, jP_s, z1]; rfl
  have z7 : M7 54 = upd (upd (upd (upd (upd (M2 54) 12 0) 14 0) 16 0) 18 0) 20 0 := by rw [e7, jP_s, e6, jP_s, e5, jP_s, e4, jP_s, e3, jP_s]
  have f : ∀ k, k ≠ 7 → k ≠ 8 → k ≠ 12 → k ≠ 14 → k ≠ 16 → k ≠ 18 → k ≠ 20 → M9 54 k = M 54 k := fun k a b c1 c2 c3 c4 c5 => by
    rw [o9 54 (by decide), z7, z2, z1]
    simp [upd, a, b, c1, c2, c3, c4, c5]
  have g7 : M9 54 7 = nI n := by rw [o9 54 (by decide), z7, z2, z1]; exact d27
  have g8 : M9 54 8 = nI rc := by rw [o9 54 (by decide), z7, z2, z1]; exact d28
  have g12 : M9 54 12 = 0 := by rw [o9 54 (by decide), z7]; rfl
  have g14 : M9 54 14 = 0 := by rw [o9 54 (by decide), z7]; rfl
  have g16 : M9 54 16 = 0 := by rw [o9 54 (by decide), z7]; rfl
  have g18 : M9 54 18 = 0 := by rw [o9 54 (by decide), z7]; rfl
  have g20 : M9 54 20 = 0 := by rw [o9 54 (by decide), z7]; rfl
  have k0 : M9 63 0 = 0 := by rw [e9, jP_s, e8, jP_s]; rfl
  have k1 : M9 63 1 = 0 := by rw [e9, jP_s]; rfl
  have at99 : ∀ i, i ≤ n → ∀ N : jMem, (∀ c, c ≠ 54 → (c < 56 ∨ 61 < c) → N c = M9 c) → (∀ k, k ≠ 12 → k ≠ 14 → k ≠ 16 → k ≠ 18 → N 54 k = M9 54 k) → mLi N so P i → jRun X T0 d q_X8_lay (99, [.ref 54, .int (nI i)], [], N) Q := by
    refine jUp ?_ ?_
    · intro N n1 n2 hL
      refine v_X8_lay_99 _ _ _ ?_
      rw [n2 7 (by decide) (by decide) (by decide) (by decide), g7]
      refine ⟨fun _ => ?_, fun g => absurd (sp_le (Nat.le_refl _) (by omega)) g⟩
      refine h N (fun c a b e => by rw [n1 c a b, o9 c e, o7 c a]) (fun k a b c1 c2 c3 c4 c5 => by rw [n2 k c1 c2 c3 c4]; exact f k a b c1 c2 c3 c4 c5) ⟨⟨?_, ?_, hL.1⟩, hL.2.1.1, fun x hx _ => hL.2.2.1 x hx, hL.2.2.2⟩ hL.2.1.2 ?_ ?_ ?_
      · rw [n2 7 (by decide) (by decide) (by decide) (by decide)]; exact g7
      · rw [n2 8 (by decide) (by decide) (by decide) (by decide)]; exact g8
      · rw [n2 20 (by decide) (by decide) (by decide) (by decide)]; exact g20
      · rw [n1 63 (by decide) (by decide)]; exact k0
      · rw [n1 63 (by decide) (by decide)]; exact k1
    · intro i hi ih N n1 n2 hL
      have hi32 : i < 32 := by omega
      have s5 := hw.2.1 i hi
      have c67 : N 67 i = nI (so i) := by rw [n1 67 (by decide) (by decide), o9 67 (by decide), o7 67 (by decide)]; exact d67 i hi
      have c68 : N 68 i = nI (P i) := by rw [n1 68 (by decide) (by decide), o9 68 (by decide), o7 68 (by decide)]; exact d68 i hi
      refine v_X8_lay_99 _ _ _ ?_
      rw [n2 7 (by decide) (by decide) (by decide) (by decide), g7, nI_cl (by omega)]
      refine ⟨fun g => absurd g (sp_nle hi (by omega)), fun _ => ⟨vp_in_nI hi32 (by decide), fun N1 t1 => ⟨vp_in_nI (by omega) (by decide), fun N2 t2 => ?_⟩⟩⟩
      rw [c67] at t1
      have c68' : N1 68 i = nI (P i) := by subst t1; rw [jP_n (by decide)]; exact c68
      rw [c68'] at t2
      have p : ∀ c, c ≠ 56 → c ≠ 57 → N2 c = N c := fun c a b => by subst t2; subst t1; rw [jP_n b, jP_n a]
      have p56 : N2 56 = upd (N 56) i (nI (so i)) := by subst t2; subst t1; rw [jP_n (by decide), jP_s]
      have p57 : N2 57 = upd (N 57) i (nI (P i)) := by subst t2; subst t1; rw [jP_s, jP_n (by decide)]
      have p54 := p 54 (by decide) (by decide)
      have v56 : N2 56 i = nI (so i) := by rw [p56]; simp [upd]
      have v57 : N2 57 i = nI (P i) := by rw [p57]; simp [upd]
      obtain ⟨⟨L12, L14, L16, L18⟩, -⟩ := id hL
      have w12 : N2 54 12 = nI (pct so 2 i) := by rw [p54]; exact L12
      have w14 : N2 54 14 = nI (pct so 4 i) := by rw [p54]; exact L14
      have w16 : N2 54 16 = nI (pct so 5 i) := by rw [p54]; exact L16
      have w18 : N2 54 18 = nI (pct so 0 i) := by rw [p54]; exact L18
      have b2 : pct so 2 n ≤ 10 := hw.1.2.2.1
      have b4 : pct so 4 n ≤ 6 := hw.1.2.2.2.1
      have b5 : pct so 5 n ≤ 3 := hw.1.2.2.2.2
      have fin : ∀ N3 : jMem, (∀ c, c ≠ 54 → (c < 58 ∨ 61 < c) → N3 c = N2 c) → (∀ k, k ≠ 12 → k ≠ 14 → k ≠ 16 → k ≠ 18 → N3 54 k = N2 54 k) → N3 54 12 = nI (pct so 2 i + if so i = 2 then 1 else 0) → N3 54 14 = nI (pct so 4 i + if so i = 4 then 1 else 0) → N3 54 16 = nI (pct so 5 i + if so i = 5 then 1 else 0) → N3 54 18 = nI (pct so 0 i + if so i = 0 then 1 else 0) →
          (N3 61 = if so i = 1 then upd (N2 61) (P i) (nI i) else N2 61) → (N3 58 = if so i = 2 then upd (N2 58) (pct so 2 i) (nI i) else N2 58) → (N3 59 = if so i = 4 then upd (N2 59) (pct so 4 i) (nI i) else N2 59) → (N3 60 = if so i = 5 then upd (N2 60) (pct so 5 i) (nI i) else N2 60) → jRun X T0 d q_X8_lay (273, [.ref 54, .int (nI i)], [], N3) Q := by
        intro N3 m1 m2 a12 a14 a16 a18 e61 e58 e59 e60
        refine v_X8_lay_273 _ _ _ ?_
        rw [nI_1]
        rw [p 61 (by decide) (by decide)] at e61
        rw [p 58 (by decide) (by decide)] at e58
        rw [p 59 (by decide) (by decide)] at e59
        rw [p 60 (by decide) (by decide)] at e60
        exact ih N3 (fun c a b => by rw [m1 c a (by omega), p c (by omega) (by omega)]; exact n1 c a b) (fun k a b c1 c2 => by rw [m2 k a b c1 c2, p54]; exact n2 k a b c1 c2) (mLi_step hi32 hL a12 a14 a16 a18 (by rw [m1 56 (by decide) (by decide)]; exact p56) (by rw [m1 57 (by decide) (by decide)]; exact p57) e61 e58 e59 e60)
      rw [v56]
      rcases (show so i = 0 ∨ so i = 1 ∨ so i = 2 ∨ so i = 3 ∨ so i = 4 ∨ so i = 5 from by have : so i ≤ 5 := s5; omega) with q | q | q | q | q | q
      all_goals rw [q] at fin ⊢
      · refine ⟨fun _ N3 e3 => ?_, fun g => absurd rfl g⟩
        exact fin N3 (fun c a _ => by subst e3; rw [jP_n a]) (fun k _ _ _ a => by subst e3; rw [jP_s]; simp [upd, a]) (by subst e3; rw [jP_s]; exact w12) (by subst e3; rw [jP_s]; exact w14) (by subst e3; rw [jP_s]; exact w16) (by subst e3; rw [jP_s, w18, nI_1]; rfl) (by subst e3; rw [jP_n (by decide)]; rfl) (by subst e3; rw [jP_n (by decide)]; rfl) (by subst e3; rw [jP_n (by decide)]; rfl) (by subst e3; rw [jP_n (by decide)]; rfl)
      · have h8 := hw.2.2.2.2 i hi (Or.inl q)
        have h8 : P i < 8 := h8
        rw [v57]
        refine ⟨fun g => absurd g (by decide), fun _ => ⟨fun _ => ⟨vp_in_nI h8 (by decide), fun N3 e3 => ?_⟩, fun g => absurd rfl g⟩⟩
        rw [nI_cl (by omega)] at e3
        exact fin N3 (fun c a b => by subst e3; rw [jP_n (by omega)]) (fun k _ _ _ a => by subst e3; rw [jP_n (by decide)]) (by subst e3; rw [jP_n (by decide)]; exact w12) (by subst e3; rw [jP_n (by decide)]; exact w14) (by subst e3; rw [jP_n (by decide)]; exact w16) (by subst e3; rw [jP_n (by decide)]; exact w18) (by subst e3; rw [jP_s]; rfl) (by subst e3; rw [jP_n (by decide)]; rfl) (by subst e3; rw [jP_n (by decide)]; rfl) (by subst e3; rw [jP_n (by decide)]; rfl)
      · have hlt := pct_lt (n := n) hi q
        refine ⟨fun g => absurd g (by decide), fun _ => ⟨fun g => absurd g (by decide), fun _ => ⟨fun _ => ?_, fun g => absurd rfl g⟩⟩⟩
        rw [w12, nI_cl (by omega)]
        refine ⟨vp_in_nI (by omega) (by decide), fun N3 e3 N4 e4 => ?_⟩
        have y : N3 54 = N2 54 := by subst e3; rw [jP_n (by decide)]
        exact fin N4 (fun c a b => by subst e4; subst e3; rw [jP_n a, jP_n (by omega)]) (fun k a _ _ _ => by subst e4; rw [jP_s, y]; simp [upd, a]) (by subst e4; rw [jP_s, y, w12, nI_1]; rfl) (by subst e4; rw [jP_s, y]; exact w14) (by subst e4; rw [jP_s, y]; exact w16) (by subst e4; rw [jP_s, y]; exact w18) (by subst e4; subst e3; rw [jP_n (by decide), jP_n (by decide)]; rfl) (by subst e4; subst e3; rw [jP_n (by decide), jP_s]; rfl) (by subst e4; subst e3; rw [jP_n (by decide), jP_n (by decide)]; rfl) (by subst e4; subst e3; rw [jP_n (by decide), jP_n (by decide)]; rfl)
      · exact ⟨fun g => absurd g (by decide), fun _ => ⟨fun g => absurd g (by decide), fun _ => ⟨fun g => absurd g (by decide), fun _ => ⟨fun _ => fin N2 (fun _ _ _ => rfl) (fun _ _ _ _ _ => rfl) w12 w14 w16 w18 rfl rfl rfl rfl, fun g => absurd rfl g⟩⟩⟩⟩
      · have hlt := pct_lt (n := n) hi q
        refine ⟨fun g => absurd g (by decide), fun _ => ⟨fun g => absurd g (by decide), fun _ => ⟨fun g => absurd g (by decide), fun _ => ⟨fun g => absurd g (by decide), fun _ => ⟨fun _ => ?_, fun g => absurd rfl g⟩⟩⟩⟩⟩
        rw [w14, nI_cl (by omega)]
        refine ⟨vp_in_nI (by omega) (by decide), fun N3 e3 N4 e4 => ?_⟩
        have y : N3 54 = N2 54 := by subst e3; rw [jP_n (by decide)]
        exact fin N4 (fun c a b => by subst e4; subst e3; rw [jP_n a, jP_n (by omega)]) (fun k _ a _ _ => by subst e4; rw [jP_s, y]; simp [upd, a]) (by subst e4; rw [jP_s, y]; exact w12) (by subst e4; rw [jP_s, y, w14, nI_1]; rfl) (by subst e4; rw [jP_s, y]; exact w16) (by subst e4; rw [jP_s, y]; exact w18) (by subst e4; subst e3; rw [jP_n (by decide), jP_n (by decide)]; rfl) (by subst e4; subst e3; rw [jP_n (by decide), jP_n (by decide)]; rfl) (by subst e4; subst e3; rw [jP_n (by decide), jP_s]; rfl) (by subst e4; subst e3; rw [jP_n (by decide), jP_n (by decide)]; rfl)
      · have hlt := pct_lt (n := n) hi q
        refine ⟨fun g => absurd g (by decide), fun _ => ⟨fun g => absurd g (by decide), fun _ => ⟨fun g => absurd g (by decide), fun _ => ⟨fun g => absurd g (by decide), fun _ => ⟨fun g => absurd g (by decide), fun _ => ⟨fun _ => ?_, fun g => absurd rfl g⟩⟩⟩⟩⟩⟩
        rw [w16, nI_cl (by omega)]
        refine ⟨vp_in_nI (by omega) (by decide), fun N3 e3 N4 e4 => ?_⟩
        have y : N3 54 = N2 54 := by subst e3; rw [jP_n (by decide)]
        exact fin N4 (fun c a b => by subst e4; subst e3; rw [jP_n a, jP_n (by omega)]) (fun k _ _ a _ => by subst e4; rw [jP_s, y]; simp [upd, a]) (by subst e4; rw [jP_s, y]; exact w12) (by subst e4; rw [jP_s, y]; exact w14) (by subst e4; rw [jP_s, y, w16, nI_1]; rfl) (by subst e4; rw [jP_s, y]; exact w18) (by subst e4; subst e3; rw [jP_n (by decide), jP_n (by decide)]; rfl) (by subst e4; subst e3; rw [jP_n (by decide), jP_n (by decide)]; rfl) (by subst e4; subst e3; rw [jP_n (by decide), jP_n (by decide)]; rfl) (by subst e4; subst e3; rw [jP_n (by decide), jP_s]; rfl)
  have at78 : ∀ i, i ≤ 36 → ∀ N : jMem, (∀ c, c ≠ 57 → c ≠ 61 → N c = M9 c) → (∀ x, x < 8 → N 61 x = -1) → (∀ k, k < i → N 57 k = 0) → jRun X T0 d q_X8_lay (78, [.ref 54, .int (nI i)], [], N) Q := by
    refine jUp ?_ ?_
    · intro N n1 n2 n3
      refine v_X8_lay_78 _ _ _ ⟨fun _ => ?_, fun g => absurd (by decide) g⟩
      have n54 := n1 54 (by decide) (by decide)
      refine at99 0 (Nat.zero_le _) N (fun c a b => n1 c (by omega) (by omega)) (fun k _ _ _ _ => by rw [n54]) ⟨⟨by rw [n54, g12]; rfl, by rw [n54, g14]; rfl, by rw [n54, g16]; rfl, by rw [n54, g18]; rfl⟩, ⟨fun k hk => absurd hk (Nat.not_lt_zero k), fun k hk => ?_⟩, fun x hx => by rw [n2 x hx]; rfl, fun k hk => absurd hk (Nat.not_lt_zero k), fun k hk => absurd hk (Nat.not_lt_zero k), fun k hk => absurd hk (Nat.not_lt_zero k)⟩
      rw [n3 k hk]
      unfold rV0
      rw [if_neg (Nat.not_lt_zero k)]
      rfl
    · intro i hi ih N n1 n2 n3
      refine v_X8_lay_78 _ _ _ ⟨fun g => absurd g (nI_ge (b := 36) hi (by decide)), fun _ => ⟨vp_in_nI hi (by decide), fun N1 t1 => ?_⟩⟩
      rw [nI_cl (by omega)] at t1
      rw [nI_1]
      refine ih N1 (fun c a b => by subst t1; rw [jP_n a]; exact n1 c a b) (fun x hx => by subst t1; rw [jP_n (by decide)]; exact n2 x hx) (fun k hk => ?_)
      subst t1
      rw [jP_s]
      simp only [upd]
      by_cases q : k = i
      · rw [if_pos q]
      · rw [if_neg q]; exact n3 k (by omega)
  have at57 : ∀ i, i ≤ 8 → ∀ N : jMem, (∀ c, c ≠ 61 → N c = M9 c) → (∀ k, k < i → N 61 k = -1) → jRun X T0 d q_X8_lay (57, [.ref 54, .int (nI i)], [], N) Q := by
    refine jUp ?_ ?_
    · intro N n1 n2
      refine v_X8_lay_57 _ _ _ ⟨fun _ => ?_, fun g => absurd (by decide) g⟩
      exact at78 0 (by decide) N (fun c _ b => n1 c b) n2 (fun k hk => absurd hk (Nat.not_lt_zero k))
    · intro i hi ih N n1 n2
      refine v_X8_lay_57 _ _ _ ⟨fun g => absurd g (nI_ge (b := 8) hi (by decide)), fun _ => ⟨vp_in_nI hi (by decide), fun N1 t1 => ?_⟩⟩
      rw [nI_cl (by omega)] at t1
      rw [nI_1]
      refine ih N1 (fun c a => by subst t1; rw [jP_n a]; exact n1 c a) (fun k hk => ?_)
      subst t1
      rw [jP_s]
      simp only [upd]
      by_cases q : k = i
      · rw [if_pos q]
      · rw [if_neg q]; exact n2 k (by omega)
  exact at57 0 (by decide) M9 (fun _ _ => rfl) (fun k hk => absurd hk (Nat.not_lt_zero k))
end JSO
