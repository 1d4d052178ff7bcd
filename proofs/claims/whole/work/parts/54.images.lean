section JIM
variable {X : jX} {d : Nat} {M M' : jMem} {Q : Option Value → jMem → Prop} {so P V V' : Nat → Nat} {n rc B : Nat} {fw : Int32} {s : jSt} {T : Nat × (Nat → Nat)} {H G : jHi} {K : Nat → Option jHi} {o : Option jHi}
theorem jSetC (hC : jInC M (T, (so, P, n, rc), H, K)) (e : ∀ c, c ≠ 0 → (c < 21 ∨ 27 < c) → M' c = M c) (h1 : jShp (M' 22) (M' 23) so n rc (G.1 G.2)) (h2 : jPst (M' 24) (M' 25) (M' 26) (M' 27) so n G) (h3 : M' 0 11 = 0) : jInC M' (T, (so, P, n, rc), G, K) :=
  ⟨by rw [e 1 (by decide) (by decide), e 2 (by decide) (by decide)]; exact hC.1, hC.2.1.fr (fun c _ _ => e c (by omega) (by omega)), ⟨h1, h2⟩, fun i hi => (hC.2.2.2.1 i hi).fr (fun c _ _ => e c (by omega) (by omega)), jCa.zero h3⟩
theorem jSetM (hM : jInM M (T, (so, P, n, rc), H, K)) (e : ∀ c, c ≠ 54 → c ≠ 57 → c ≠ 62 → M' c = M c) (f : ∀ k, k ≠ 0 → k ≠ 20 → M' 54 k = M 54 k) (h1 : mSnp (M' 57) (M' 62) (M' 54 20) G) : jInM M' (T, (so, P, n, rc), G, K) :=
  ⟨by rw [e 55 (by decide) (by decide) (by decide), f 2 (by decide) (by decide)]; exact hM.1, hM.2.1.fr (fun c _ _ _ => e c (by omega) (by omega) (by omega)) (fun k hk => f k (by omega) (by omega)), h1, fun i hi => (hM.2.2.2 i hi).fr (fun c _ _ => e c (by omega) (by omega) (by omega))⟩
theorem p_undo (hI : jInj X T0) (hW : jInW s) : jPair X q_X7_undo q_X8_undo [] s := by
  obtain ⟨T, ⟨so, P, n, rc⟩, H, K⟩ := s
  have h10 : H.2 ≤ 10 := hW.2.1.1
  have hn : n ≤ 32 := (hW.2.1.2 _ (Nat.le_refl _)).1.1.1
  by_cases e0 : H.2 = 0
  · refine jAsk hW (r := -2) (fun M Q hc hC ca kk => ?_) (fun M Q hc hM kk => ?_)
    · refine v_X7_undo (d := 11) hI _ _ ⟨fun g => ?_, fun _ => kk M jFz.rf ca⟩
      rw [show M 24 3 = nI H.2 from hC.2.2.1.2.1, e0] at g
      exact absurd g (by decide)
    · refine v_X8_undo (d := 12) hI _ _ (fun M1 e1 => ?_)
      have hz1 : mFz M M1 := by subst e1; exact mFz.t0
      have hM1 := hM.fz hz1
      refine ⟨fun g => absurd ?_ g, fun _ => kk M1 hz1⟩
      rw [show M1 54 20 = nI H.2 from hM1.2.2.1.2.1, e0]; rfl
  · obtain ⟨na, hna⟩ : ∃ na, H.2 = na + 1 := ⟨H.2 - 1, by omega⟩
    have hW2 : jInW (T, (so, P, n, rc), (H.1, na), K) := ⟨hW.1, ⟨by show na ≤ 10; omega, fun a ha => hW.2.1.2 a (by have : a ≤ na := ha; show a ≤ H.2; omega)⟩, hW.2.2⟩
    refine ⟨nI na, _, hW2, fun M Q hC kk => ?_, fun M Q hM kk => ?_⟩
    · have hps : jPst (M 24) (M 25) (M 26) (M 27) so n H := hC.2.2.1.2
      have sh : jShp (M 22) (M 23) so n rc (H.1 H.2) := hC.2.2.1.1
      rw [hna] at sh
      have z : M 24 3 = nI (na + 1) := by rw [← hna]; exact hps.1
      have hd := hps.2 na (by omega)
      have pos : 0 < nI (na + 1) := nI_lt (a := 0) (by omega) (by omega)
      refine v_X7_undo (d := 11) hI _ _ ⟨fun _ => ?_, fun g => ?_⟩
      · refine v_X2_takeBack hI _ _ ⟨fun _ M1 e1 => ?_, fun g => ?_⟩
        · have y : M1 24 3 = nI na := by subst e1; rw [jP_s, z]; show nI (na + 1) - 1 = nI na; rw [show (1 : Int32) = nI 1 from rfl, pk_sub (by omega)]; rfl
          have yo : ∀ c, c ≠ 24 → M1 c = M c := fun c hc => by subst e1; rw [jP_n hc]
          have ps : ∀ M2 : jMem, (∀ c, 23 < c → c < 28 → M2 c = M1 c) → jPst (M2 24) (M2 25) (M2 26) (M2 27) so n (H.1, na) := fun M2 h2 => by
            rw [h2 24 (by decide) (by decide), h2 25 (by decide) (by decide), h2 26 (by decide) (by decide), h2 27 (by decide) (by decide), yo 25 (by decide), yo 26 (by decide), yo 27 (by decide)]
            exact ⟨y, fun a ha => hps.2 a (by have : a < na := ha; omega)⟩
          have fin : ∀ M2 : jMem, (∀ c, (c < 22 ∨ 23 < c) → M2 c = M1 c) → jShp (M2 22) (M2 23) so n rc (H.1 na) → ∀ M3, M3 = jP M2 0 11 0 → Q (some (.int (M3 24 3))) M3 := by
            intro M2 h2 s2 M3 e3
            have eo : ∀ c, c ≠ 0 → M3 c = M2 c := fun c hc => by subst e3; rw [jP_n hc]
            rw [eo 24 (by decide), h2 24 (by decide), y]
            refine kk M3 (jSetC (G := (H.1, na)) hC (fun c a b => by rw [eo c a, h2 c (by omega), yo c (by omega)]) (by rw [eo 22 (by decide), eo 23 (by decide)]; exact s2) (by rw [eo 24 (by decide), eo 25 (by decide), eo 26 (by decide), eo 27 (by decide)]; exact ps M2 (fun c a b => h2 c (by omega))) (by subst e3; rw [jP_s]; rfl)) (fun c hc => by rw [eo c (by omega), h2 c (by omega), yo c (by omega)])
          rw [y, nI_cl (by omega), yo 25 (by decide), yo 26 (by decide), yo 27 (by decide)]
          refine ⟨vp_in_nI (by omega) (by decide), fun g => ⟨fun g2 M2 e2 => ?_, fun g2 M2 e2 => ?_⟩, fun g => ?_⟩
          · rcases hd with ⟨q, -⟩ | ⟨q, -⟩ | ⟨q, h2, h3⟩
            · exact absurd q g
            · exact absurd q g2
            · refine ⟨rfl, fin M2 (fun c hc => by subst e2; rw [jP_n (by omega)]) ?_⟩
              subst e2
              rw [jP_s, jP_n (by decide), yo 22 (by decide), yo 23 (by decide), h2]
              exact ⟨fun k hk h0 => by rw [h3 k (by omega)]; exact sh.1 k hk h0, by rw [h3 32 (by decide)]; exact sh.2.1, rfl, sh.2.2.2⟩
          · rcases hd with ⟨q, -⟩ | ⟨q, h2, h3⟩ | ⟨q, -⟩
            · exact absurd q g
            · refine ⟨rfl, fin M2 (fun c hc => by subst e2; rw [jP_n (by omega)]) ?_⟩
              subst e2
              rw [jP_s, jP_n (by decide), yo 22 (by decide), yo 23 (by decide), h2]
              refine ⟨fun k hk h0 => by rw [h3 k (by omega) (by omega)]; exact sh.1 k hk h0, rfl, ?_, sh.2.2.2⟩
              unfold pis
              rw [h3 33 (by decide) (by decide), h3 34 (by decide) (by decide), h3 35 (by decide) (by decide)]
              exact sh.2.2.1
            · rw [q] at g2; exact absurd g2 (by decide)
          · rcases hd with ⟨q, k, hk, hk0, hw, h2, h3⟩ | ⟨q, -⟩ | ⟨q, -⟩
            · rw [hw, nI_cl (by omega), h2]
              refine ⟨vp_in_nI (by omega) (by decide), fun M2 e2 => ⟨rfl, fin M2 (fun c hc => by subst e2; rw [jP_n (by omega)]) ?_⟩⟩
              subst e2
              rw [jP_s, jP_n (by decide), yo 22 (by decide), yo 23 (by decide)]
              refine ⟨fun j hj h0 => ?_, by rw [h3 32 (by decide) (by omega)]; exact sh.2.1, ?_, sh.2.2.2⟩
              · simp only [upd]
                by_cases q : j = k
                · subst q; rw [if_pos rfl]
                · rw [if_neg q, h3 j (by omega) q]; exact sh.1 j hj h0
              · unfold pis
                rw [h3 33 (by decide) (by omega), h3 34 (by decide) (by omega), h3 35 (by decide) (by omega)]
                exact sh.2.2.1
            · rw [q] at g; exact absurd g (by decide)
            · rw [q] at g; exact absurd g (by decide)
        · rw [z] at g; exact absurd pos g
      · rw [z] at g; exact absurd pos g
    · refine v_X8_undo (d := 12) hI _ _ (fun M1 e1 => ?_)
      have hz1 : mFz M M1 := by subst e1; exact mFz.t0
      have hM1 := hM.fz hz1
      have sn : mSnp (M1 57) (M1 62) (M1 54 20) H := hM1.2.2.1
      have z : M1 54 20 = nI (na + 1) := by rw [← hna]; exact sn.2.1
      rw [z]
      refine ⟨fun _ M2 e2 => ?_, fun g => absurd g (nI_ne (b := 0) (by omega) (by decide) (by omega))⟩
      have y : M2 54 20 = nI na := by subst e2; rw [jP_s]; show nI (na + 1) - 1 = nI na; rw [show (1 : Int32) = nI 1 from rfl, pk_sub (by omega)]; rfl
      have yo : ∀ c, c ≠ 54 → M2 c = M1 c := fun c hc => by subst e2; rw [jP_n hc]
      have yf : ∀ k, k ≠ 20 → M2 54 k = M1 54 k := fun k hk => by subst e2; rw [jP_s]; simp [upd, hk]
      have key : ∀ i, i ≤ 36 → ∀ M3 : jMem, (∀ c, c ≠ 57 → M3 c = M2 c) → (∀ k, k < i → M3 57 k = nI (H.1 na k)) → jRun X T0 12 q_X8_undo (27, [.ref 54, .int (nI i)], [], M3) Q := by
        refine jUp ?_ ?_
        · intro M3 m1 m2
          refine v_X8_undo_27 _ _ _ ⟨fun _ => ?_, fun g => absurd (by decide) g⟩
          rw [m1 54 (by decide), y]
          refine kk M3 (jSetM (G := (H.1, na)) hM1 (fun c a b _ => by rw [m1 c b]; exact yo c a) (fun k _ b => by rw [m1 54 (by decide)]; exact yf k b) ⟨m2, by rw [m1 54 (by decide)]; exact y, fun a ha k hk => ?_⟩) (fun c hc => by rw [m1 c (by omega), yo c (by omega)]; exact hz1.lo c hc)
          have ha : a < na := ha
          rw [m1 62 (by decide), yo 62 (by decide)]
          exact sn.2.2 a (by omega) k hk
        · intro i hi ih M3 m1 m2
          refine v_X8_undo_27 _ _ _ ⟨fun g => absurd g (nI_ge (b := 36) hi (by decide)), fun _ => ?_⟩
          rw [m1 54 (by decide), y, show (36 : Int32) = nI 36 from rfl, pk_mul, nI_add, nI_cl (by omega), nI_cl (by omega)]
          refine ⟨vp_in_nI (by omega) (by decide), vp_in_nI hi (by decide), fun M4 e4 => ?_⟩
          rw [nI_1]
          refine ih M4 (fun c hc => by subst e4; rw [jP_n hc]; exact m1 c hc) (fun k hk => ?_)
          subst e4
          rw [jP_s]
          simp only [upd]
          by_cases q : k = i
          · subst q
            rw [if_pos rfl, m1 62 (by decide), yo 62 (by decide)]
            exact sn.2.2 na (by omega) k hi
          · rw [if_neg q]; exact m2 k (by omega)
      exact key 0 (Nat.zero_le _) M2 (fun _ _ => rfl) (fun k hk => absurd hk (Nat.not_lt_zero k))
/-- an image becomes as another -/
def jImc (M M' : jMem) (B A : Nat) : Prop := (∀ c, c < B ∨ B + 6 < c → M' c = M c) ∧ M' B 2 = 1 ∧ (∀ k, k < 32 → M' (B + 2) k = M (A + 2) k) ∧ (∀ k, 1 ≤ k → k ≤ 3 → M' (B + 1) k = M (A + 1) k) ∧ M' (B + 3) 3 = M (A + 3) 3 ∧ ∀ a, a < 10 → M' (B + 4) a = M (A + 4) a ∧ M' (B + 5) a = M (A + 5) a ∧ M' (B + 6) a = M (A + 6) a
theorem jImc.snp {A : Nat} (h : jImc M M' B A) (hs : jSnp M A so n rc H) (hn : n ≤ 32) (h10 : H.2 ≤ 10) : jSnp M' B so n rc H := by
  obtain ⟨-, -, c3, c4, c5, c6⟩ := h
  obtain ⟨⟨s1, s2, s3, s4⟩, p1, p2⟩ := hs
  refine ⟨⟨fun k hk h0 => by rw [c3 k (by omega)]; exact s1 k hk h0, by rw [c4 1 (by decide) (by decide)]; exact s2, by rw [c4 2 (by decide) (by decide)]; exact s3, by rw [c4 3 (by decide) (by decide)]; exact s4⟩, by rw [c5]; exact p1, fun a ha => ?_⟩
  obtain ⟨x1, x2, x3⟩ := c6 a (by omega)
  rw [x1, x2, x3]
  exact p2 a ha
theorem va_cpy_0 {f g : Nat → Int32} {m k : Nat} (h : k < m) : va_cpy f g 0 0 m k = f k := by
  simp only [va_cpy]
  rw [if_pos ⟨Nat.zero_le _, by omega⟩, Nat.zero_add, Nat.sub_zero]
theorem sp_cpy28_21 (hI : jInj X T0) (h : ∀ M', jImc M M' 28 21 → Q none M') : jOk X T0 (d + 1) q_X0_becomeAs [.ref 28, .ref 21] M Q := by
  refine v28_21_X0_becomeAs hI _ _ (v29_22_X5_becomeAs hI _ _ (fun M1 e1 M2 e2 M3 e3 M4 e4 => ⟨rfl, v31_24_X2_becomeAs hI _ _ (fun M5 e5 M6 e6 M7 e7 M8 e8 => ⟨rfl, fun M9 e9 => h M9 ?_⟩)⟩))
  have o4 : ∀ c, c ≠ 29 → c ≠ 30 → M4 c = M c := fun c a b => by subst e4; subst e3; subst e2; subst e1; rw [jP_n a, jP_n a, jP_n a, jSC_n b]
  have o9 : ∀ c, c ≠ 28 → c ≠ 31 → c ≠ 32 → c ≠ 33 → c ≠ 34 → M9 c = M4 c := fun c a0 a3 a4 a5 a6 => by subst e9; subst e8; subst e7; subst e6; subst e5; rw [jP_n a0, jP_n a3, jSC_n a6, jSC_n a5, jSC_n a4]
  have x2 : M4 30 = va_cpy (M 23) (M 30) 0 0 32 := by subst e4; subst e3; subst e2; subst e1; rw [jP_n (by decide), jP_n (by decide), jP_n (by decide), jSC_s]
  have y1 : ∀ c, c ≠ 30 → M1 c = M c := fun c hc => by subst e1; rw [jSC_n hc]
  have y2 : ∀ c, c ≠ 29 → M2 c = M1 c := fun c hc => by subst e2; rw [jP_n hc]
  have y3 : ∀ c, c ≠ 29 → M3 c = M2 c := fun c hc => by subst e3; rw [jP_n hc]
  have z1 : M4 29 1 = M 22 1 := by rw [e4, jP_s, e3, jP_s, e2, jP_s, y1 22 (by decide)]; rfl
  have z2 : M4 29 2 = M 22 2 := by rw [e4, jP_s, e3, jP_s, y2 22 (by decide), y1 22 (by decide)]; rfl
  have z3 : M4 29 3 = M 22 3 := by rw [e4, jP_s, y3 22 (by decide), y2 22 (by decide), y1 22 (by decide)]; rfl
  have w5 : ∀ c, c ≠ 32 → M5 c = M4 c := fun c hc => by subst e5; rw [jSC_n hc]
  have w6 : ∀ c, c ≠ 33 → M6 c = M5 c := fun c hc => by subst e6; rw [jSC_n hc]
  have w7 : ∀ c, c ≠ 34 → M7 c = M6 c := fun c hc => by subst e7; rw [jSC_n hc]
  have w8 : ∀ c, c ≠ 31 → M8 c = M7 c := fun c hc => by subst e8; rw [jP_n hc]
  have w9 : ∀ c, c ≠ 28 → M9 c = M8 c := fun c hc => by subst e9; rw [jP_n hc]
  have v4 : M9 32 = va_cpy (M 25) (M 32) 0 0 10 := by rw [w9 32 (by decide), w8 32 (by decide), w7 32 (by decide), w6 32 (by decide), e5, jSC_s, o4 25 (by decide) (by decide), o4 32 (by decide) (by decide)]
  have v5 : M9 33 = va_cpy (M 26) (M 33) 0 0 10 := by rw [w9 33 (by decide), w8 33 (by decide), w7 33 (by decide), e6, jSC_s, w5 26 (by decide), w5 33 (by decide), o4 26 (by decide) (by decide), o4 33 (by decide) (by decide)]
  have v6 : M9 34 = va_cpy (M 27) (M 34) 0 0 10 := by rw [w9 34 (by decide), w8 34 (by decide), e7, jSC_s, w6 27 (by decide), w6 34 (by decide), w5 27 (by decide), w5 34 (by decide), o4 27 (by decide) (by decide), o4 34 (by decide) (by decide)]
  have v3 : M9 31 3 = M 24 3 := by rw [w9 31 (by decide), e8, jP_s, w7 24 (by decide), w6 24 (by decide), w5 24 (by decide), o4 24 (by decide) (by decide)]; rfl
  refine ⟨fun c hc => by rw [o9 c (by omega) (by omega) (by omega) (by omega) (by omega)]; exact o4 c (by omega) (by omega), by rw [e9, jP_s]; rfl, fun k hk => ?_, fun k h1 h3 => ?_, v3, fun a ha => ⟨?_, ?_, ?_⟩⟩
  · show M9 30 k = M 23 k
    rw [o9 30 (by decide) (by decide) (by decide) (by decide) (by decide), x2]
    exact va_cpy_0 hk
  · show M9 29 k = M 22 k
    rw [o9 29 (by decide) (by decide) (by decide) (by decide) (by decide)]
    rcases (show k = 1 ∨ k = 2 ∨ k = 3 by omega) with rfl | rfl | rfl
    · exact z1
    · exact z2
    · exact z3
  · show M9 32 a = M 25 a
    rw [v4]; exact va_cpy_0 ha
  · show M9 33 a = M 26 a
    rw [v5]; exact va_cpy_0 ha
  · show M9 34 a = M 27 a
    rw [v6]; exact va_cpy_0 ha
theorem sp_cpy35_21 (hI : jInj X T0) (h : ∀ M', jImc M M' 35 21 → Q none M') : jOk X T0 (d + 1) q_X0_becomeAs [.ref 35, .ref 21] M Q := by
  refine v35_21_X0_becomeAs hI _ _ (v36_22_X5_becomeAs hI _ _ (fun M1 e1 M2 e2 M3 e3 M4 e4 => ⟨rfl, v38_24_X2_becomeAs hI _ _ (fun M5 e5 M6 e6 M7 e7 M8 e8 => ⟨rfl, fun M9 e9 => h M9 ?_⟩)⟩))
  have o4 : ∀ c, c ≠ 36 → c ≠ 37 → M4 c = M c := fun c a b => by subst e4; subst e3; subst e2; subst e1; rw [jP_n a, jP_n a, jP_n a, jSC_n b]
  have o9 : ∀ c, c ≠ 35 → c ≠ 38 → c ≠ 39 → c ≠ 40 → c ≠ 41 → M9 c = M4 c := fun c a0 a3 a4 a5 a6 => by subst e9; subst e8; subst e7; subst e6; subst e5; rw [jP_n a0, jP_n a3, jSC_n a6, jSC_n a5, jSC_n a4]
  have x2 : M4 37 = va_cpy (M 23) (M 37) 0 0 32 := by subst e4; subst e3; subst e2; subst e1; rw [jP_n (by decide), jP_n (by decide), jP_n (by decide), jSC_s]
  have y1 : ∀ c, c ≠ 37 → M1 c = M c := fun c hc => by subst e1; rw [jSC_n hc]
  have y2 : ∀ c, c ≠ 36 → M2 c = M1 c := fun c hc => by subst e2; rw [jP_n hc]
  have y3 : ∀ c, c ≠ 36 → M3 c = M2 c := fun c hc => by subst e3; rw [jP_n hc]
  have z1 : M4 36 1 = M 22 1 := by rw [e4, jP_s, e3, jP_s, e2, jP_s, y1 22 (by decide)]; rfl
  have z2 : M4 36 2 = M 22 2 := by rw [e4, jP_s, e3, jP_s, y2 22 (by decide), y1 22 (by decide)]; rfl
  have z3 : M4 36 3 = M 22 3 := by rw [e4, jP_s, y3 22 (by decide), y2 22 (by decide), y1 22 (by decide)]; rfl
  have w5 : ∀ c, c ≠ 39 → M5 c = M4 c := fun c hc => by subst e5; rw [jSC_n hc]
  have w6 : ∀ c, c ≠ 40 → M6 c = M5 c := fun c hc => by subst e6; rw [jSC_n hc]
  have w7 : ∀ c, c ≠ 41 → M7 c = M6 c := fun c hc => by subst e7; rw [jSC_n hc]
  have w8 : ∀ c, c ≠ 38 → M8 c = M7 c := fun c hc => by subst e8; rw [jP_n hc]
  have w9 : ∀ c, c ≠ 35 → M9 c = M8 c := fun c hc => by subst e9; rw [jP_n hc]
  have v4 : M9 39 = va_cpy (M 25) (M 39) 0 0 10 := by rw [w9 39 (by decide), w8 39 (by decide), w7 39 (by decide), w6 39 (by decide), e5, jSC_s, o4 25 (by decide) (by decide), o4 39 (by decide) (by decide)]
  have v5 : M9 40 = va_cpy (M 26) (M 40) 0 0 10 := by rw [w9 40 (by decide), w8 40 (by decide), w7 40 (by decide), e6, jSC_s, w5 26 (by decide), w5 40 (by decide), o4 26 (by decide) (by decide), o4 40 (by decide) (by decide)]
  have v6 : M9 41 = va_cpy (M 27) (M 41) 0 0 10 := by rw [w9 41 (by decide), w8 41 (by decide), e7, jSC_s, w6 27 (by decide), w6 41 (by decide), w5 27 (by decide), w5 41 (by decide), o4 27 (by decide) (by decide), o4 41 (by decide) (by decide)]
  have v3 : M9 38 3 = M 24 3 := by rw [w9 38 (by decide), e8, jP_s, w7 24 (by decide), w6 24 (by decide), w5 24 (by decide), o4 24 (by decide) (by decide)]; rfl
  refine ⟨fun c hc => by rw [o9 c (by omega) (by omega) (by omega) (by omega) (by omega)]; exact o4 c (by omega) (by omega), by rw [e9, jP_s]; rfl, fun k hk => ?_, fun k h1 h3 => ?_, v3, fun a ha => ⟨?_, ?_, ?_⟩⟩
  · show M9 37 k = M 23 k
    rw [o9 37 (by decide) (by decide) (by decide) (by decide) (by decide), x2]
    exact va_cpy_0 hk
  · show M9 36 k = M 22 k
    rw [o9 36 (by decide) (by decide) (by decide) (by decide) (by decide)]
    rcases (show k = 1 ∨ k = 2 ∨ k = 3 by omega) with rfl | rfl | rfl
    · exact z1
    · exact z2
    · exact z3
  · show M9 39 a = M 25 a
    rw [v4]; exact va_cpy_0 ha
  · show M9 40 a = M 26 a
    rw [v5]; exact va_cpy_0 ha
  · show M9 41 a = M 27 a
    rw [v6]; exact va_cpy_0 ha
theorem sp_cpy21_28 (hI : jInj X T0) (h : ∀ M', jImc M M' 21 28 → Q none M') : jOk X T0 (d + 1) q_X0_becomeAs [.ref 21, .ref 28] M Q := by
  refine v21_28_X0_becomeAs hI _ _ (v22_29_X5_becomeAs hI _ _ (fun M1 e1 M2 e2 M3 e3 M4 e4 => ⟨rfl, v24_31_X2_becomeAs hI _ _ (fun M5 e5 M6 e6 M7 e7 M8 e8 => ⟨rfl, fun M9 e9 => h M9 ?_⟩)⟩))
  have o4 : ∀ c, c ≠ 22 → c ≠ 23 → M4 c = M c := fun c a b => by subst e4; subst e3; subst e2; subst e1; rw [jP_n a, jP_n a, jP_n a, jSC_n b]
  have o9 : ∀ c, c ≠ 21 → c ≠ 24 → c ≠ 25 → c ≠ 26 → c ≠ 27 → M9 c = M4 c := fun c a0 a3 a4 a5 a6 => by subst e9; subst e8; subst e7; subst e6; subst e5; rw [jP_n a0, jP_n a3, jSC_n a6, jSC_n a5, jSC_n a4]
  have x2 : M4 23 = va_cpy (M 30) (M 23) 0 0 32 := by subst e4; subst e3; subst e2; subst e1; rw [jP_n (by decide), jP_n (by decide), jP_n (by decide), jSC_s]
  have y1 : ∀ c, c ≠ 23 → M1 c = M c := fun c hc => by subst e1; rw [jSC_n hc]
  have y2 : ∀ c, c ≠ 22 → M2 c = M1 c := fun c hc => by subst e2; rw [jP_n hc]
  have y3 : ∀ c, c ≠ 22 → M3 c = M2 c := fun c hc => by subst e3; rw [jP_n hc]
  have z1 : M4 22 1 = M 29 1 := by rw [e4, jP_s, e3, jP_s, e2, jP_s, y1 29 (by decide)]; rfl
  have z2 : M4 22 2 = M 29 2 := by rw [e4, jP_s, e3, jP_s, y2 29 (by decide), y1 29 (by decide)]; rfl
  have z3 : M4 22 3 = M 29 3 := by rw [e4, jP_s, y3 29 (by decide), y2 29 (by decide), y1 29 (by decide)]; rfl
  have w5 : ∀ c, c ≠ 25 → M5 c = M4 c := fun c hc => by subst e5; rw [jSC_n hc]
  have w6 : ∀ c, c ≠ 26 → M6 c = M5 c := fun c hc => by subst e6; rw [jSC_n hc]
  have w7 : ∀ c, c ≠ 27 → M7 c = M6 c := fun c hc => by subst e7; rw [jSC_n hc]
  have w8 : ∀ c, c ≠ 24 → M8 c = M7 c := fun c hc => by subst e8; rw [jP_n hc]
  have w9 : ∀ c, c ≠ 21 → M9 c = M8 c := fun c hc => by subst e9; rw [jP_n hc]
  have v4 : M9 25 = va_cpy (M 32) (M 25) 0 0 10 := by rw [w9 25 (by decide), w8 25 (by decide), w7 25 (by decide), w6 25 (by decide), e5, jSC_s, o4 32 (by decide) (by decide), o4 25 (by decide) (by decide)]
  have v5 : M9 26 = va_cpy (M 33) (M 26) 0 0 10 := by rw [w9 26 (by decide), w8 26 (by decide), w7 26 (by decide), e6, jSC_s, w5 33 (by decide), w5 26 (by decide), o4 33 (by decide) (by decide), o4 26 (by decide) (by decide)]
  have v6 : M9 27 = va_cpy (M 34) (M 27) 0 0 10 := by rw [w9 27 (by decide), w8 27 (by decide), e7, jSC_s, w6 34 (by decide), w6 27 (by decide), w5 34 (by decide), w5 27 (by decide), o4 34 (by decide) (by decide), o4 27 (by decide) (by decide)]
  have v3 : M9 24 3 = M 31 3 := by rw [w9 24 (by decide), e8, jP_s, w7 31 (by decide), w6 31 (by decide), w5 31 (by decide), o4 31 (by decide) (by decide)]; rfl
  refine ⟨fun c hc => by rw [o9 c (by omega) (by omega) (by omega) (by omega) (by omega)]; exact o4 c (by omega) (by omega), by rw [e9, jP_s]; rfl, fun k hk => ?_, fun k h1 h3 => ?_, v3, fun a ha => ⟨?_, ?_, ?_⟩⟩
  · show M9 23 k = M 30 k
    rw [o9 23 (by decide) (by decide) (by decide) (by decide) (by decide), x2]
    exact va_cpy_0 hk
  · show M9 22 k = M 29 k
    rw [o9 22 (by decide) (by decide) (by decide) (by decide) (by decide)]
    rcases (show k = 1 ∨ k = 2 ∨ k = 3 by omega) with rfl | rfl | rfl
    · exact z1
    · exact z2
    · exact z3
  · show M9 25 a = M 32 a
    rw [v4]; exact va_cpy_0 ha
  · show M9 26 a = M 33 a
    rw [v5]; exact va_cpy_0 ha
  · show M9 27 a = M 34 a
    rw [v6]; exact va_cpy_0 ha
theorem sp_cpy21_35 (hI : jInj X T0) (h : ∀ M', jImc M M' 21 35 → Q none M') : jOk X T0 (d + 1) q_X0_becomeAs [.ref 21, .ref 35] M Q := by
  refine v21_35_X0_becomeAs hI _ _ (v22_36_X5_becomeAs hI _ _ (fun M1 e1 M2 e2 M3 e3 M4 e4 => ⟨rfl, v24_38_X2_becomeAs hI _ _ (fun M5 e5 M6 e6 M7 e7 M8 e8 => ⟨rfl, fun M9 e9 => h M9 ?_⟩)⟩))
  have o4 : ∀ c, c ≠ 22 → c ≠ 23 → M4 c = M c := fun c a b => by subst e4; subst e3; subst e2; subst e1; rw [jP_n a, jP_n a, jP_n a, jSC_n b]
  have o9 : ∀ c, c ≠ 21 → c ≠ 24 → c ≠ 25 → c ≠ 26 → c ≠ 27 → M9 c = M4 c := fun c a0 a3 a4 a5 a6 => by subst e9; subst e8; subst e7; subst e6; subst e5; rw [jP_n a0, jP_n a3, jSC_n a6, jSC_n a5, jSC_n a4]
  have x2 : M4 23 = va_cpy (M 37) (M 23) 0 0 32 := by subst e4; subst e3; subst e2; subst e1; rw [jP_n (by decide), jP_n (by decide), jP_n (by decide), jSC_s]
  have y1 : ∀ c, c ≠ 23 → M1 c = M c := fun c hc => by subst e1; rw [jSC_n hc]
  have y2 : ∀ c, c ≠ 22 → M2 c = M1 c := fun c hc => by subst e2; rw [jP_n hc]
  have y3 : ∀ c, c ≠ 22 → M3 c = M2 c := fun c hc => by subst e3; rw [jP_n hc]
  have z1 : M4 22 1 = M 36 1 := by rw [e4, jP_s, e3, jP_s, e2, jP_s, y1 36 (by decide)]; rfl
  have z2 : M4 22 2 = M 36 2 := by rw [e4, jP_s, e3, jP_s, y2 36 (by decide), y1 36 (by decide)]; rfl
  have z3 : M4 22 3 = M 36 3 := by rw [e4, jP_s, y3 36 (by decide), y2 36 (by decide), y1 36 (by decide)]; rfl
  have w5 : ∀ c, c ≠ 25 → M5 c = M4 c := fun c hc => by subst e5; rw [jSC_n hc]
  have w6 : ∀ c, c ≠ 26 → M6 c = M5 c := fun c hc => by subst e6; rw [jSC_n hc]
  have w7 : ∀ c, c ≠ 27 → M7 c = M6 c := fun c hc => by subst e7; rw [jSC_n hc]
  have w8 : ∀ c, c ≠ 24 → M8 c = M7 c := fun c hc => by subst e8; rw [jP_n hc]
  have w9 : ∀ c, c ≠ 21 → M9 c = M8 c := fun c hc => by subst e9; rw [jP_n hc]
  have v4 : M9 25 = va_cpy (M 39) (M 25) 0 0 10 := by rw [w9 25 (by decide), w8 25 (by decide), w7 25 (by decide), w6 25 (by decide), e5, jSC_s, o4 39 (by decide) (by decide), o4 25 (by decide) (by decide)]
  have v5 : M9 26 = va_cpy (M 40) (M 26) 0 0 10 := by rw [w9 26 (by decide), w8 26 (by decide), w7 26 (by decide), e6, jSC_s, w5 40 (by decide), w5 26 (by decide), o4 40 (by decide) (by decide), o4 26 (by decide) (by decide)]
  have v6 : M9 27 = va_cpy (M 41) (M 27) 0 0 10 := by rw [w9 27 (by decide), w8 27 (by decide), e7, jSC_s, w6 41 (by decide), w6 27 (by decide), w5 41 (by decide), w5 27 (by decide), o4 41 (by decide) (by decide), o4 27 (by decide) (by decide)]
  have v3 : M9 24 3 = M 38 3 := by rw [w9 24 (by decide), e8, jP_s, w7 38 (by decide), w6 38 (by decide), w5 38 (by decide), o4 38 (by decide) (by decide)]; rfl
  refine ⟨fun c hc => by rw [o9 c (by omega) (by omega) (by omega) (by omega) (by omega)]; exact o4 c (by omega) (by omega), by rw [e9, jP_s]; rfl, fun k hk => ?_, fun k h1 h3 => ?_, v3, fun a ha => ⟨?_, ?_, ?_⟩⟩
  · show M9 23 k = M 37 k
    rw [o9 23 (by decide) (by decide) (by decide) (by decide) (by decide), x2]
    exact va_cpy_0 hk
  · show M9 22 k = M 36 k
    rw [o9 22 (by decide) (by decide) (by decide) (by decide) (by decide)]
    rcases (show k = 1 ∨ k = 2 ∨ k = 3 by omega) with rfl | rfl | rfl
    · exact z1
    · exact z2
    · exact z3
  · show M9 25 a = M 39 a
    rw [v4]; exact va_cpy_0 ha
  · show M9 26 a = M 40 a
    rw [v5]; exact va_cpy_0 ha
  · show M9 27 a = M 41 a
    rw [v6]; exact va_cpy_0 ha
end JIM
