section JSP
variable {X : jX} {d : Nat} {M M' : jMem} {Q : Option Value → jMem → Prop} {so P : Nat → Nat} {n rc k v i : Nat} {D : jPg} {s : jSt} {T : Nat × (Nat → Nat)} {H : jHi} {K : Nat → Option jHi}
theorem sp_become12 (hI : jInj X T0) (h : ∀ M', (∀ c, c < 12 ∨ 20 < c → M' c = M c) → (∀ k, k < 32 → M' 13 k = M 4 k ∧ M' 14 k = M 5 k ∧ M' 15 k = M 6 k ∧ M' 16 k = M 7 k) → (∀ k, k < 8 → M' 17 k = M 8 k) → (∀ k, k < 10 → M' 18 k = M 9 k) → (∀ k, k < 6 → M' 19 k = M 10 k) → (∀ k, k < 3 → M' 20 k = M 11 k) → (∀ k, 8 ≤ k → k ≤ 13 → M' 12 k = M 3 k) → Q none M') : jOk X T0 d q_X3_becomeAs [.ref 12, .ref 3] M Q := by
  refine v_X3_becomeAs hI _ _ (fun M1 e1 M2 e2 M3 e3 M4 e4 M5 e5 M6 e6 M7 e7 M8 e8 M9 e9 M10 e10 M11 e11 M12 e12 M13 e13 M14 e14 => ?_)
  have w1 : ∀ c, c ≠ 13 → M1 c = M c := fun c hc => by subst e1; rw [jSC_n hc]
  have w2 : ∀ c, c ≠ 14 → M2 c = M1 c := fun c hc => by subst e2; rw [jSC_n hc]
  have w3 : ∀ c, c ≠ 15 → M3 c = M2 c := fun c hc => by subst e3; rw [jSC_n hc]
  have w4 : ∀ c, c ≠ 16 → M4 c = M3 c := fun c hc => by subst e4; rw [jSC_n hc]
  have w5 : ∀ c, c ≠ 17 → M5 c = M4 c := fun c hc => by subst e5; rw [jSC_n hc]
  have w6 : ∀ c, c ≠ 18 → M6 c = M5 c := fun c hc => by subst e6; rw [jSC_n hc]
  have w7 : ∀ c, c ≠ 19 → M7 c = M6 c := fun c hc => by subst e7; rw [jSC_n hc]
  have w8 : ∀ c, c ≠ 20 → M8 c = M7 c := fun c hc => by subst e8; rw [jSC_n hc]
  have w9 : ∀ c, c ≠ 12 → M9 c = M8 c := fun c hc => by subst e9; rw [jP_n hc]
  have w10 : ∀ c, c ≠ 12 → M10 c = M9 c := fun c hc => by subst e10; rw [jP_n hc]
  have w11 : ∀ c, c ≠ 12 → M11 c = M10 c := fun c hc => by subst e11; rw [jP_n hc]
  have w12 : ∀ c, c ≠ 12 → M12 c = M11 c := fun c hc => by subst e12; rw [jP_n hc]
  have w13 : ∀ c, c ≠ 12 → M13 c = M12 c := fun c hc => by subst e13; rw [jP_n hc]
  have w14 : ∀ c, c ≠ 12 → M14 c = M13 c := fun c hc => by subst e14; rw [jP_n hc]
  have u : ∀ c, c ≠ 12 → M14 c = M8 c := fun c hc => by rw [w14 c hc, w13 c hc, w12 c hc, w11 c hc, w10 c hc, w9 c hc]
  have lo : ∀ c, c < 12 ∨ 20 < c → M8 c = M c := fun c hc => by rw [w8 c (by omega), w7 c (by omega), w6 c (by omega), w5 c (by omega), w4 c (by omega), w3 c (by omega), w2 c (by omega), w1 c (by omega)]
  have l1 : ∀ c, c < 12 → M1 c = M c := fun c hc => w1 c (by omega)
  have l2 : ∀ c, c < 12 → M2 c = M c := fun c hc => by rw [w2 c (by omega)]; exact l1 c hc
  have l3 : ∀ c, c < 12 → M3 c = M c := fun c hc => by rw [w3 c (by omega)]; exact l2 c hc
  have l4 : ∀ c, c < 12 → M4 c = M c := fun c hc => by rw [w4 c (by omega)]; exact l3 c hc
  have l5 : ∀ c, c < 12 → M5 c = M c := fun c hc => by rw [w5 c (by omega)]; exact l4 c hc
  have l6 : ∀ c, c < 12 → M6 c = M c := fun c hc => by rw [w6 c (by omega)]; exact l5 c hc
  have l7 : ∀ c, c < 12 → M7 c = M c := fun c hc => by rw [w7 c (by omega)]; exact l6 c hc
  have x13 : ∀ k, k < 32 → M14 13 k = M 4 k := fun k hk => by
    rw [u 13 (by decide), w8 13 (by decide), w7 13 (by decide), w6 13 (by decide), w5 13 (by decide), w4 13 (by decide), w3 13 (by decide), w2 13 (by decide), e1, jSC_s]
    exact va_cpy_0 hk
  have x14 : ∀ k, k < 32 → M14 14 k = M 5 k := fun k hk => by
    rw [u 14 (by decide), w8 14 (by decide), w7 14 (by decide), w6 14 (by decide), w5 14 (by decide), w4 14 (by decide), w3 14 (by decide), e2, jSC_s, va_cpy_0 hk, l1 5 (by decide)]
  have x15 : ∀ k, k < 32 → M14 15 k = M 6 k := fun k hk => by
    rw [u 15 (by decide), w8 15 (by decide), w7 15 (by decide), w6 15 (by decide), w5 15 (by decide), w4 15 (by decide), e3, jSC_s, va_cpy_0 hk, l2 6 (by decide)]
  have x16 : ∀ k, k < 32 → M14 16 k = M 7 k := fun k hk => by
    rw [u 16 (by decide), w8 16 (by decide), w7 16 (by decide), w6 16 (by decide), w5 16 (by decide), e4, jSC_s, va_cpy_0 hk, l3 7 (by decide)]
  have x17 : ∀ k, k < 8 → M14 17 k = M 8 k := fun k hk => by
    rw [u 17 (by decide), w8 17 (by decide), w7 17 (by decide), w6 17 (by decide), e5, jSC_s, va_cpy_0 hk, l4 8 (by decide)]
  have x18 : ∀ k, k < 10 → M14 18 k = M 9 k := fun k hk => by
    rw [u 18 (by decide), w8 18 (by decide), w7 18 (by decide), e6, jSC_s, va_cpy_0 hk, l5 9 (by decide)]
  have x19 : ∀ k, k < 6 → M14 19 k = M 10 k := fun k hk => by
    rw [u 19 (by decide), w8 19 (by decide), e7, jSC_s, va_cpy_0 hk, l6 10 (by decide)]
  have x20 : ∀ k, k < 3 → M14 20 k = M 11 k := fun k hk => by
    rw [u 20 (by decide), e8, jSC_s, va_cpy_0 hk, l7 11 (by decide)]
  have m3 : M8 3 = M 3 := lo 3 (by decide)
  have m9 : M9 3 = M 3 := by rw [w9 3 (by decide)]; exact m3
  have m10 : M10 3 = M 3 := by rw [w10 3 (by decide)]; exact m9
  have m11 : M11 3 = M 3 := by rw [w11 3 (by decide)]; exact m10
  have m12 : M12 3 = M 3 := by rw [w12 3 (by decide)]; exact m11
  have m13 : M13 3 = M 3 := by rw [w13 3 (by decide)]; exact m12
  have y : M14 12 = upd (upd (upd (upd (upd (upd (M8 12) 8 (M 3 8)) 9 (M 3 9)) 10 (M 3 10)) 11 (M 3 11)) 12 (M 3 12)) 13 (M 3 13) := by
    rw [e14, jP_s, e13, jP_s, e12, jP_s, e11, jP_s, e10, jP_s, e9, jP_s, ← e9, ← e10, ← e11, ← e12, ← e13, m3, m9, m10, m11, m12, m13]
  refine h M14 (fun c hc => by rw [u c (by omega)]; exact lo c hc) (fun k hk => ⟨x13 k hk, x14 k hk, x15 k hk, x16 k hk⟩) x17 x18 x19 x20 (fun k h8 h13 => ?_)
  rw [y]
  rcases (show k = 8 ∨ k = 9 ∨ k = 10 ∨ k = 11 ∨ k = 12 ∨ k = 13 by omega) with rfl | rfl | rfl | rfl | rfl | rfl <;> rfl
theorem jInC.rd (h : jInC M (T, (so, P, n, rc), H, K)) (hf : jRd M M') : jInC M' (T, (so, P, n, rc), H, K) :=
  ⟨h.1.rf hf, h.2.1.fr (fun c a _ => hf.1 c (by omega)), h.2.2.1.fr (fun c a _ => hf.1 c (by omega)), fun i hi => (h.2.2.2.1 i hi).fr (fun c a _ => hf.1 c (by omega)), h.2.2.2.2.fr (hf.1 0 (by decide)) (fun c a _ => hf.1 c (by omega))⟩
theorem jInM.rd (h : jInM M (T, (so, P, n, rc), H, K)) (hf : mRd M M') : jInM M' (T, (so, P, n, rc), H, K) :=
  ⟨h.1.mrd hf, h.2.1.fr (fun c a b _ => hf.1 c (by omega) (by omega) (by omega)) (fun k hk => hf.2 k (by omega)), by rw [hf.1 57 (by decide) (by decide) (by decide), hf.1 62 (by decide) (by decide) (by decide), hf.2 20 (by decide)]; exact h.2.2.1, fun i hi => (h.2.2.2 i hi).fr (fun c a b => hf.1 c (by omega) (by omega) (by omega))⟩
theorem rV0_ok (hD : rDw (so, P, n, rc)) (hl : rlab (so, P, n, rc)) : jVok so P n rc (rV0 P n) := by
  obtain ⟨⟨a1, a2, a3, a4, a5⟩, b1, b2, b3, b4⟩ := hD
  dsimp only at a1 a2 a3 a4 a5 b1 b2 b3 b4
  have e : ∀ k, k < n → rV0 P n k = P k := fun k hk => if_pos hk
  have z : ∀ k, 32 ≤ k → rV0 P n k = 0 := fun k hk => if_neg (by omega)
  have pl : ∀ x, pli so (rV0 P n) x n = pli so P x n := fun x => pli_cong (fun k hk _ => e k hk) x n (Nat.le_refl _)
  refine ⟨⟨⟨a1, a2, a3, a4, a5⟩, ⟨b1, fun k hk h0 => ?_, fun k hk h0 => ?_, fun k hk h0 => ?_, fun k hk h0 => ?_⟩, ⟨?_, ?_, ?_, ?_⟩, fun s x hs hx hb => ?_⟩, fun k hk h0 => ?_, ?_, fun k hk _ => e k hk⟩
  · rw [e k hk]; have := b2 k hk h0; omega
  · rw [e k hk]; exact b3 k hk h0
  · rw [e k hk]; exact b4 k hk h0
  · rw [pl, e k hk]; exact hl k hk h0
  · rw [z 32 (by decide)]; exact Nat.two_pow_pos _
  · rw [z 33 (by decide)]; decide
  · rw [z 34 (by decide)]; decide
  · rw [z 35 (by decide)]; decide
  · rw [z (33 + s) (by omega)] at hb
    simp at hb
  · rw [e k hk]; exact (b2 k hk h0).2
  · rw [z 33 (by decide), z 34 (by decide), z 35 (by decide)]; decide
theorem rV0_pis (hn : n ≤ 32) : pis (rV0 P n) = 0 := by
  have z : ∀ k, 32 ≤ k → rV0 P n k = 0 := fun k hk => if_neg (by omega)
  unfold pis
  rw [z 33 (by decide), z 34 (by decide), z 35 (by decide)]
theorem jDr.pr (hD : jDr M (so, P, n, rc)) (hw : rDw (so, P, n, rc)) (h7 : ∀ k, k < n → (so k = 2 ∨ so k = 4) → M 7 k = nI (ptg so P n k))
    (c1 : ∀ k, k < 32 → M' 13 k = M 4 k ∧ M' 14 k = M 5 k ∧ M' 15 k = M 6 k ∧ M' 16 k = M 7 k) (c2 : ∀ k, k < 8 → M' 17 k = M 8 k) (c3 : ∀ k, k < 10 → M' 18 k = M 9 k) (c4 : ∀ k, k < 6 → M' 19 k = M 10 k) (c5 : ∀ k, k < 3 → M' 20 k = M 11 k) (c6 : ∀ k, 8 ≤ k → k ≤ 13 → M' 12 k = M 3 k) : jPr M' 12 so P n rc := by
  obtain ⟨⟨d8, d9, d10, d11, d12, d13⟩, ⟨d4, d5, d6⟩, d17, d18, d19, d20⟩ := hD
  obtain ⟨⟨a1, a2, a3, a4, a5⟩, -⟩ := hw
  dsimp only at *
  refine ⟨⟨?_, ?_, ?_, ?_, ?_, ?_⟩, ⟨fun k hk => ?_, fun k hk => ?_, fun k hk => ?_, fun k hk q => ?_⟩, fun x hx => ?_, fun k hk q => ?_, fun k hk q => ?_, fun k hk q => ?_⟩
  · rw [c6 8 (by decide) (by decide)]; exact d8
  · rw [c6 9 (by decide) (by decide)]; exact d9
  · rw [c6 10 (by decide) (by decide)]; exact d10
  · rw [c6 11 (by decide) (by decide)]; exact d11
  · rw [c6 12 (by decide) (by decide)]; exact d12
  · rw [c6 13 (by decide) (by decide)]; exact d13
  · show M' 13 k = _
    rw [(c1 k (by omega)).1]; exact d4 k hk
  · show M' 14 k = _
    rw [(c1 k (by omega)).2.1]; exact d5 k hk
  · show M' 15 k = _
    rw [(c1 k (by omega)).2.2.1]; exact d6 k hk
  · show M' 16 k = _
    rw [(c1 k (by omega)).2.2.2]; exact h7 k hk q
  · show M' 17 x = _
    rw [c2 x hx]; exact d17 x hx
  · have := pct_lt (n := n) hk q
    show M' 18 _ = _
    rw [c3 _ (by omega)]; exact d18 k hk q
  · have := pct_lt (n := n) hk q
    show M' 19 _ = _
    rw [c4 _ (by omega)]; exact d19 k hk q
  · have := pct_lt (n := n) hk q
    show M' 20 _ = _
    rw [c5 _ (by omega)]; exact d20 k hk q
theorem sp_msource (hI : jInj X T0) (hT : T.1 ≤ 150) (hB : ∀ k, k < T.1 → T.2 k < 256) (ht : jTxt (M 54 2) (M 55) T)
    (hf : ∀ e M', rall T = .inl e → mRd (jP M 54 0 0) M' → Q (some (.int ((-10) - nI e))) M') (hl : ∀ D M', rall T = .inr D → ¬ rlab D → mRd (jP M 54 0 0) M' → Q (some (.int ((-10) - nI T.1))) M')
    (hs : ∀ D M', rall T = .inr D → rlab D → mRd (jP M 54 0 0) M' → mDr M' D → rDw D → (∀ M2, M2 = jP M' 54 2 0 → jOk X T0 (d + 3) q_X8_lay [.ref 54] M2 (fun v M3 => v = none ∧ Q (some (.int (M3 54 7))) M3))) : jOk X T0 (d + 4) q_X8_source [.ref 54] M Q := by
  refine v_X8_source hI _ _ (fun M1 e1 M2 e2 M3 e3 M4 e4 => ?_)
  rw [← e1] at hf hl hs
  have f4 : mRd M1 M4 := by
    refine ⟨fun c a _ _ => by subst e4; subst e3; subst e2; rw [jP_n a, jP_n a, jP_n a], fun k hk => ?_⟩
    subst e4; subst e3; subst e2
    rw [jP_s, jP_s, jP_s]
    simp [upd, show k ≠ 28 by omega, show k ≠ 27 by omega, show k ≠ 3 by omega]
  have t1 : jTxt (M1 54 2) (M1 55) T := by subst e1; rw [jP_s, jP_n (by decide)]; exact ht
  have z3 : M4 54 3 = nI 0 := by subst e4; subst e3; subst e2; rw [jP_s, jP_s, jP_s]; rfl
  have D4 : mDr M4 rD0 := ⟨by subst e4; subst e3; rw [jP_s, jP_s]; rfl, by subst e4; rw [jP_s]; rfl, fun k hk => absurd hk (Nat.not_lt_zero k), fun k hk => absurd hk (Nat.not_lt_zero k)⟩
  refine sp_mnext (p0 := 0) hI hT hB (Nat.zero_le _) (t1.mrd f4) z3 (fun M5 f5 k5 => ⟨rfl, ?_⟩)
  have fin : ∀ (N : jMem) (D : jPg), rall T = .inr D → mRd M1 N → mDr N D → rDw D → jOk X T0 (d + 3) q_X8_areLabelsThere [.ref 54] N (fun v M1 => ∃ r1, v = some (.int r1) ∧ ((¬ r1 = 0 → (∀ M2, M2 = jP M1 54 2 0 → jOk X T0 (d + 3) q_X8_lay [.ref 54] M2 (fun v M3 => v = none ∧ Q (some (.int (M3 54 7))) M3))) ∧ (r1 = 0 → Q (some (.int ((-10) - (M1 54 2)))) M1))) := by
    intro N D er fN DN wN
    refine sp_areL hI DN wN (fun hn => ⟨_, rfl, fun g => absurd rfl g, fun _ => ?_⟩) (fun hy => ⟨_, rfl, fun _ => hs D N er hy fN DN wN, fun g => absurd g (by decide)⟩)
    rw [(t1.mrd fN).1]
    exact hl D N er hn fN
  have key : ∀ (f : Nat) (first : Bool) (c : Nat × Nat × Nat × Nat) (D : jPg) (N : jMem), tTok T c → (c.2.1 ≠ 0 → 150 ≤ f + c.1) → rDw D → rdl T f first c D = rall T → mRd M1 N → mTk N c → mDr N D → jRun X T0 (d + 4) q_X8_source (27, [.ref 54, .int (jBI first)], [], N) Q := by
    intro f
    induction f with
    | zero =>
      intro first c D N hc hle hw er fN kN DN
      have hb := hc.b
      have e0 : c.2.1 = 0 := by
        by_cases q : c.2.1 = 0
        · exact q
        · have := hle q
          have := (hb.2.2.2.1 q).1
          omega
      refine v_X8_source_27 _ _ _ ?_
      rw [kN.2.1, e0]
      exact ⟨fun _ => fin N D er.symm fN DN hw, fun g => absurd rfl g⟩
    | succ f ih =>
      intro first c D N hc hle hw er fN kN DN
      have hb := hc.b
      refine v_X8_source_27 _ _ _ ?_
      rw [kN.2.1]
      simp only [rdl] at er
      refine ⟨fun g => ?_, fun g => ?_⟩
      · have e0 : c.2.1 = 0 := nI_inj (by omega) (by decide) g
        rw [if_pos e0] at er
        exact fin N D er.symm fN DN hw
      · have e0 : c.2.1 ≠ 0 := fun q => g (by rw [q]; rfl)
        rw [if_neg e0] at er
        have lt := hle e0
        refine sp_readOne hI hT hB hc (t1.mrd fN) kN DN hw (fun e M5 h5 f5 z5 => ⟨_, rfl, fun g => absurd rfl g, fun _ => ?_⟩) (fun c' D' M5 h5 f5 k5 D5 => ⟨_, rfl, fun _ => ?_, fun g => absurd g (by decide)⟩)
        · rw [h5] at er
          rw [z5]
          exact hf e M5 er.symm (fN.tr f5)
        · rw [h5] at er
          have ok := rd1_ok hc hw h5
          exact ih false c' D' M5 ok.1 (fun _ => by omega) ok.2.1 er (fN.tr f5) k5 D5
  exact key 150 true (tok T 0) rD0 M5 tTok0 (fun _ => by omega) rDw0 rfl (f4.tr f5.rfr) k5 (D4.tf f5)
theorem mRd.lo (h : mRd (jP M 54 0 0) M') : ∀ c, c < 54 → M' c = M c := fun c hc => by rw [h.1 c (by omega) (by omega) (by omega), jP_n (by omega)]
theorem p_source (hI : jInj X T0) (hW : jInW s) : jPair X q_X7_source q_X8_source [] s := by
  obtain ⟨T, ⟨so, P, n, rc⟩, H, K⟩ := s
  have hT : T.1 ≤ 150 := hW.1.1
  have hB : ∀ k, k < T.1 → T.2 k < 256 := hW.1.2
  cases hr : rall T with
  | inl e =>
    have he : e ≤ T.1 := rdl_le 150 true (tok T 0) rD0 e tTok0 rDw0 hr
    refine ⟨(-10) - nI e, _, hW, fun M Q hC kk => ?_, fun M Q hM kk => ?_⟩
    · refine v_X7_source (d := 11) hI _ _ (sp_readFrom (d := 7) hI hT hB hC.1 (fun e' M1 er f1 => ⟨_, rfl, fun g => ?_, fun _ => ?_⟩) (fun D M1 er _ _ => ?_) (fun D M1 er _ _ _ _ => ?_))
      · rw [hr] at er; cases er
        exact absurd g (nI_pos (by omega))
      · rw [hr] at er; cases er
        exact kk M1 (hC.rd f1) (fun c hc => f1.1 c (by omega))
      · rw [hr] at er; cases er
      · rw [hr] at er; cases er
    · have hM0 := hM.fz mFz.t0
      refine sp_msource (d := 8) hI hT hB hM.1 (fun e' M1 er f1 => ?_) (fun D M1 er _ _ => ?_) (fun D M1 er _ _ _ _ => ?_)
      · rw [hr] at er; cases er
        exact kk M1 (hM0.rd f1) f1.lo
      · rw [hr] at er; cases er
      · rw [hr] at er; cases er
  | inr D =>
    have hw : rDw D := rdl_ok hT 150 true (tok T 0) rD0 D tTok0 rDw0 hr
    by_cases hl : rlab D
    · obtain ⟨so', P', n', rc'⟩ := D
      have hn : n' ≤ 32 := hw.1.1
      have hv := rV0_ok hw hl
      have zV : ∀ k, 32 ≤ k → rV0 P' n' k = 0 := fun k hk => if_neg (by omega)
      have hW2 : jInW ((0, T.2), (so', P', n', rc'), (fun _ => rV0 P' n', 0), fun _ => none) := ⟨⟨Nat.zero_le _, fun i hi => absurd hi (Nat.not_lt_zero i)⟩, ⟨Nat.zero_le _, fun a _ => hv⟩, fun i G _ q => by cases q⟩
      refine ⟨nI n', _, hW2, fun M Q hC kk => ?_, fun M Q hM kk => ?_⟩
      · refine v_X7_source (d := 11) hI _ _ (sp_readFrom (d := 7) hI hT hB hC.1 (fun e' M1 er f1 => ?_) (fun D M1 er hl2 _ => ?_) (fun D M1 er hl2 f1 D1 h7 => ?_))
        · rw [hr] at er; cases er
        · rw [hr] at er; cases er; exact absurd hl hl2
        · rw [hr] at er; cases er
          refine ⟨_, rfl, fun _ => sp_become12 hI (fun M2 o2 c1 c2 c3 c4 c5 c6 => ⟨rfl, v_X5_startAs hI _ _ (fun M3 e3 M4 e4 M5 e5 M6 e6 => ⟨rfl, fun M7 e7 M8 e8 M9 e9 M10 e10 M11 e11 => ?_⟩)⟩), fun g => absurd (by decide) g⟩
          have hP : jPr M2 12 so' P' n' rc' := D1.pr hw h7 c1 c2 c3 c4 c5 c6
          have o6 : ∀ c, c ≠ 22 → c ≠ 23 → M6 c = M2 c := fun c a b => by subst e6; subst e5; subst e4; subst e3; rw [jP_n a, jP_n a, jP_n a, jSC_n b]
          have o11 : ∀ c, c ≠ 0 → c ≠ 1 → c ≠ 24 → c ≠ 28 → c ≠ 35 → M11 c = M6 c := fun c a b e f g => by subst e11; subst e10; subst e9; subst e8; subst e7; rw [jP_n a, jP_n b, jP_n g, jP_n f, jP_n e]
          have z23 : ∀ k, k < 32 → M6 23 k = M2 14 k := fun k hk => by
            subst e6; subst e5; subst e4; subst e3
            rw [jP_n (by decide), jP_n (by decide), jP_n (by decide), jSC_s]
            exact va_cpy_0 hk
          have z1 : M6 22 1 = 0 := by rw [e6, jP_s, e5, jP_s, e4, jP_s]; rfl
          have z2 : M6 22 2 = 0 := by rw [e6, jP_s, e5, jP_s]; rfl
          have y5 : M5 12 = M2 12 := by subst e5; subst e4; subst e3; rw [jP_n (by decide), jP_n (by decide), jSC_n (by decide)]
          have z3 : M6 22 3 = M2 12 13 := by rw [e6, jP_s, y5]; rfl
          have hP11 : jPr M11 12 so' P' n' rc' := hP.fr (fun c a b => by rw [o11 c (by omega) (by omega) (by omega) (by omega) (by omega), o6 c (by omega) (by omega)])
          rw [hP11.1.1]
          refine kk M11 ⟨⟨?_, fun k hk => absurd hk (Nat.not_lt_zero k)⟩, hP11, ⟨⟨fun k hk h0 => ?_, ?_, ?_, ?_⟩, ?_, fun a ha => absurd ha (Nat.not_lt_zero a)⟩, fun i hi => ?_, jCa.zero ?_⟩ (fun c hc => ?_)
          · show M11 1 1 = nI 0
            rw [e11, jP_n (by decide), e10, jP_s]; rfl
          · show M11 23 k = nI (rV0 P' n' k)
            have hk : k < n' := hk
            rw [o11 23 (by decide) (by decide) (by decide) (by decide) (by decide), z23 k (by omega), show rV0 P' n' k = P' k from if_pos hk]
            exact hP.2.1.2.1 k hk
          · show M11 22 1 = nI (rV0 P' n' 32)
            rw [o11 22 (by decide) (by decide) (by decide) (by decide) (by decide), z1, zV 32 (by decide)]; rfl
          · show M11 22 2 = nI (pis (rV0 P' n'))
            rw [o11 22 (by decide) (by decide) (by decide) (by decide) (by decide), z2, rV0_pis hn]; rfl
          · show M11 22 3 = nI rc'
            rw [o11 22 (by decide) (by decide) (by decide) (by decide) (by decide), z3]; exact hP.1.2.2.2.2.2
          · show M11 24 3 = nI 0
            rw [e11, jP_n (by decide), e10, jP_n (by decide), e9, jP_n (by decide), e8, jP_n (by decide), e7, jP_s]; rfl
          · show M11 (28 + 7 * i) 2 = 0
            rcases (show i = 0 ∨ i = 1 by omega) with rfl | rfl
            · show M11 28 2 = 0
              rw [e11, jP_n (by decide), e10, jP_n (by decide), e9, jP_n (by decide), e8, jP_s]; rfl
            · show M11 35 2 = 0
              rw [e11, jP_n (by decide), e10, jP_n (by decide), e9, jP_s]; rfl
          · rw [e11, jP_s]; rfl
          · rw [o11 c (by omega) (by omega) (by omega) (by omega) (by omega), o6 c (by omega) (by omega), o2 c (by omega), f1.1 c (by omega)]
      · have hM0 := hM.fz mFz.t0
        refine sp_msource (d := 8) hI hT hB hM.1 (fun e' M1 er f1 => ?_) (fun D M1 er hl2 _ => ?_) (fun D M1 er hl2 f1 D1 w1 M2 e2 => ?_)
        · rw [hr] at er; cases er
        · rw [hr] at er; cases er; exact absurd hl hl2
        · rw [hr] at er; cases er
          have D2 : mDr M2 (so', P', n', rc') := by
            subst e2
            exact ⟨by rw [jP_s]; exact D1.1, by rw [jP_s]; exact D1.2.1, by rw [jP_n (by decide)]; exact D1.2.2.1, by rw [jP_n (by decide)]; exact D1.2.2.2⟩
          refine sp_mlay hI D2 w1 (fun M3 o3 f3 hP3 h57 h20 k0 k1 => ⟨rfl, ?_⟩)
          rw [hP3.1.1]
          refine kk M3 ⟨⟨?_, fun k hk => absurd hk (Nat.not_lt_zero k)⟩, hP3, ⟨h57, by rw [h20]; rfl, fun a ha => absurd ha (Nat.not_lt_zero a)⟩, fun i hi => ?_⟩ (fun c hc => ?_)
          · rw [f3 2 (by decide) (by decide) (by decide) (by decide) (by decide) (by decide) (by decide), e2, jP_s]; rfl
          · rcases (show i = 0 ∨ i = 1 by omega) with rfl | rfl
            · exact k0
            · exact k1
          · rw [o3 c (by omega) (by omega) (by omega), e2, jP_n (by omega)]
            exact f1.lo c hc
    · refine ⟨(-10) - nI T.1, _, hW, fun M Q hC kk => ?_, fun M Q hM kk => ?_⟩
      · refine v_X7_source (d := 11) hI _ _ (sp_readFrom (d := 7) hI hT hB hC.1 (fun e' M1 er f1 => ?_) (fun D M1 er _ f1 => ⟨_, rfl, fun g => absurd g (nI_pos (by omega)), fun _ => kk M1 (hC.rd f1) (fun c hc => f1.1 c (by omega))⟩) (fun D M1 er hl2 _ _ _ => ?_))
        · rw [hr] at er; cases er
        · rw [hr] at er; cases er; exact absurd hl2 hl
      · have hM0 := hM.fz mFz.t0
        refine sp_msource (d := 8) hI hT hB hM.1 (fun e' M1 er f1 => ?_) (fun D M1 er _ f1 => kk M1 (hM0.rd f1) f1.lo) (fun D M1 er hl2 _ _ _ => ?_)
        · rw [hr] at er; cases er
        · rw [hr] at er; cases er; exact absurd hl2 hl
end JSP
