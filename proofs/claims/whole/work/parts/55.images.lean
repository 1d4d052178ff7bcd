section JIN
variable {X : jX} {d : Nat} {M M' : jMem} {Q : Option Value → jMem → Prop} {so P V V' : Nat → Nat} {n rc B : Nat} {fw : Int32} {s : jSt} {T : Nat × (Nat → Nat)} {H G : jHi} {K : Nat → Option jHi} {o : Option jHi}
def pkp (K : Nat → Option jHi) (i : Nat) (H : jHi) (j : Nat) : Option jHi := if j = i then some H else K j
theorem jKeepC (hC : jInC M (T, (so, P, n, rc), H, K)) {i : Nat} (hi : i < 2) (h : jImc M M' (28 + 7 * i) 21) (hn : n ≤ 32) (h10 : H.2 ≤ 10) : jInC M' (T, (so, P, n, rc), H, pkp K i H) := by
  have e := h.1
  refine ⟨by rw [e 1 (by omega), e 2 (by omega)]; exact hC.1, hC.2.1.fr (fun c _ _ => e c (by omega)), hC.2.2.1.fr (fun c _ _ => e c (by omega)), fun j hj => ?_, hC.2.2.2.2.fr (e 0 (by omega)) (fun c _ _ => e c (by omega))⟩
  show jImg M' (28 + 7 * j) so n rc (if j = i then some H else K j)
  by_cases q : j = i
  · subst q
    rw [if_pos rfl]
    exact ⟨h.2.1, h.snp hC.2.2.1 hn h10⟩
  · rw [if_neg q]
    exact (hC.2.2.2.1 j hj).fr (fun c _ _ => e c (by omega))
theorem jKeepW (hW : jInW (T, (so, P, n, rc), H, K)) {i : Nat} : jInW (T, (so, P, n, rc), H, pkp K i H) := by
  refine ⟨hW.1, hW.2.1, fun j G hj h => ?_⟩
  have h : (if j = i then some H else K j) = some G := h
  by_cases q : j = i
  · rw [if_pos q] at h; cases h; exact hW.2.1
  · rw [if_neg q] at h; exact hW.2.2 j G hj h
theorem sp_imageOf (hI : jInj X T0) {i : Nat} (hi : i < 2) (h : Q (some (.ref (28 + 7 * i))) M) : jOk X T0 d q_X7_imageOf [.ref 0, .int (nI i)] M Q := by
  refine v_X7_imageOf hI _ _ _ ?_
  rcases (show i = 0 ∨ i = 1 by omega) with rfl | rfl
  · exact ⟨fun g => absurd rfl g, fun _ => h⟩
  · exact ⟨fun _ => h, fun g => absurd g (by decide)⟩
theorem sp_cpyTo (hI : jInj X T0) {i : Nat} (hi : i < 2) (h : ∀ M', jImc M M' (28 + 7 * i) 21 → Q none M') : jOk X T0 (d + 1) q_X0_becomeAs [.ref (28 + 7 * i), .ref 21] M Q := by
  rcases (show i = 0 ∨ i = 1 by omega) with rfl | rfl
  · exact sp_cpy28_21 hI h
  · exact sp_cpy35_21 hI h
theorem sp_cpyFrom (hI : jInj X T0) {i : Nat} (hi : i < 2) (h : ∀ M', jImc M M' 21 (28 + 7 * i) → Q none M') : jOk X T0 (d + 1) q_X0_becomeAs [.ref 21, .ref (28 + 7 * i)] M Q := by
  rcases (show i = 0 ∨ i = 1 by omega) with rfl | rfl
  · exact sp_cpy21_28 hI h
  · exact sp_cpy21_35 hI h
theorem jKd_img {i : Nat} (hi : i < 2) : jKd T0 (28 + 7 * i) = 0 := by
  rcases (show i = 0 ∨ i = 1 by omega) with rfl | rfl <;> rfl
theorem p_keep (hI : jInj X T0) (hW : jInW s) (a : Int32) : jPair X q_X7_keep q_X8_keep [.int a] s := by
  obtain ⟨T, ⟨so, P, n, rc⟩, H, K⟩ := s
  have hv : jVok so P n rc (H.1 H.2) := hW.2.1.2 _ (Nat.le_refl _)
  have hn : n ≤ 32 := hv.1.1.1
  have gV := hv.1.2.2.1
  have h10 : H.2 ≤ 10 := hW.2.1.1
  by_cases hb : 0 ≤ a ∧ a ≤ 1
  · obtain ⟨i, hi, rfl⟩ := jNat (a := a) (m := 1) (by decide) hb.1 hb.2
    have hi2 : i < 2 := by omega
    refine ⟨nI (pisl (H.1 H.2)), (T, (so, P, n, rc), H, pkp K i H), jKeepW hW, fun M Q hC kk => ?_, fun M Q hM kk => ?_⟩
    · refine v_X7_keep (d := 11) hI _ _ _ ⟨fun g => absurd g (nI_pos (by omega)), fun _ => ⟨fun _ => ?_, fun g => absurd hb.2 g⟩⟩
      refine sp_imageOf hI hi2 ⟨_, rfl, jKd_img hi2, sp_cpyTo hI hi2 (fun M2 h2 => ⟨rfl, ?_⟩)⟩
      have hC2 := jKeepC hC hi2 h2 hn h10
      refine sp_islandCount (V := H.1 H.2) hI (Or.inl ⟨rfl, rfl⟩) hC2.2.2.1.1.2.2.1 gV.2.1 gV.2.2.1 gV.2.2.2 ⟨_, rfl, ?_⟩
      rw [pbc_pis gV.2.1 gV.2.2.1 gV.2.2.2]
      exact kk M2 hC2 (fun c hc => h2.1 c (by omega))
    · refine v_X8_keep (d := 11) hI _ _ _ (fun M1 e1 => sp_in hI ⟨_, rfl, ?_⟩)
      have hz1 : mFz M M1 := by subst e1; exact mFz.t0
      have hM1 := hM.fz hz1
      rw [jin_i (l := 0) (u := 1) (lo := 0) (hi := 1) rfl rfl, decide_eq_true hb]
      refine ⟨fun _ => ?_, fun g => absurd g (by decide)⟩
      have sn : mSnp (M1 57) (M1 62) (M1 54 20) H := hM1.2.2.1
      -- the acts
      have k2 : ∀ t, t ≤ 360 → ∀ M2 : jMem, (∀ c, c ≠ 64 → c ≠ 65 → M2 c = M1 c) → (∀ k, k < 36 → M2 64 (36 * i + k) = M1 57 k) → (∀ k, k < 36 * i ∨ 36 * i + 36 ≤ k → M2 64 k = M1 64 k) →
          (∀ k, k < t → M2 65 (360 * i + k) = M1 62 k) → (∀ k, k < 360 * i ∨ 360 * i + 360 ≤ k → M2 65 k = M1 65 k) → jRun X T0 12 q_X8_keep (50, [.ref 54, .int (nI i), .int (nI t)], [], M2) Q := by
        refine jUp ?_ ?_
        · intro M2 m1 m2 m3 m4 m5
          refine v_X8_keep_50 _ _ _ _ ⟨fun _ => ?_, fun g => absurd (by decide) g⟩
          rw [nI_cl (by omega)]
          refine ⟨vp_in_nI hi2 (by decide), fun M3 e3 M4 e4 => ?_⟩
          have eo : ∀ c, c ≠ 63 → c ≠ 66 → M4 c = M2 c := fun c a b => by subst e4; subst e3; rw [jP_n a, jP_n b]
          have e63 : M4 63 = upd (M1 63) i 1 := by subst e4; subst e3; rw [jP_s, jP_n (by decide), m1 63 (by decide) (by decide)]
          have e66 : M4 66 = upd (M1 66) i (nI H.2) := by subst e4; subst e3; rw [jP_n (by decide), jP_s, m1 66 (by decide) (by decide), m1 54 (by decide) (by decide), sn.2.1]
          have ec : ∀ c, c < 63 ∨ 66 < c → M4 c = M1 c := fun c hc => by rw [eo c (by omega) (by omega)]; exact m1 c (by omega) (by omega)
          have hM4 : jInM M4 (T, (so, P, n, rc), H, pkp K i H) := by
            refine ⟨by rw [ec 54 (by decide), ec 55 (by decide)]; exact hM1.1, hM1.2.1.fr (fun c _ _ _ => ec c (by omega)) (fun k _ => by rw [ec 54 (by decide)]), by rw [ec 54 (by decide), ec 57 (by decide), ec 62 (by decide)]; exact sn, fun j hj => ?_⟩
            show mImg M4 j (if j = i then some H else K j)
            by_cases q : j = i
            · subst q
              rw [if_pos rfl]
              refine ⟨by rw [e63]; simp [upd], ⟨fun k hk => ?_, by rw [e66]; simp [upd], fun a ha k hk => ?_⟩⟩
              · show M4 64 (36 * j + k) = _
                rw [eo 64 (by decide) (by decide), m2 k hk]; exact sn.1 k hk
              · show M4 65 (360 * j + (36 * a + k)) = _
                rw [eo 65 (by decide) (by decide), m4 _ (by omega)]; exact sn.2.2 a ha k hk
            · rw [if_neg q]
              have old : mImg M1 j (K j) := hM1.2.2.2 j hj
              have u63 : M4 63 j = M1 63 j := by rw [e63]; simp [upd, q]
              have u66 : M4 66 j = M1 66 j := by rw [e66]; simp [upd, q]
              cases hK : K j with
              | none => rw [hK] at old; exact u63.trans old
              | some G =>
                rw [hK] at old
                have hG : jWok so P n rc G := hW.2.2 j G hj hK
                refine ⟨u63.trans old.1, fun k hk => ?_, u66.trans old.2.2.1, fun a ha k hk => ?_⟩
                · show M4 64 (36 * j + k) = _
                  rw [eo 64 (by decide) (by decide), m3 _ (by omega)]; exact old.2.1 k hk
                · show M4 65 (360 * j + (36 * a + k)) = _
                  have := hG.1
                  rw [eo 65 (by decide) (by decide), m5 _ (by omega)]; exact old.2.2.2 a ha k hk
          have c57 : ∀ k, k < 36 → M4 57 k = nI (H.1 H.2 k) := fun k hk => by rw [ec 57 (by decide)]; exact sn.1 k hk
          exact sp_isles (V := H.1 H.2) hI gV.2.1 gV.2.2.1 gV.2.2.2 (c57 33 (by decide)) (c57 34 (by decide)) (c57 35 (by decide)) ⟨_, rfl, kk M4 hM4 (fun c hc => by rw [ec c (by omega)]; exact hz1.lo c hc)⟩
        · intro t ht ih M2 m1 m2 m3 m4 m5
          refine v_X8_keep_50 _ _ _ _ ⟨fun g => absurd g (nI_ge (b := 360) ht (by decide)), fun _ => ?_⟩
          rw [show (360 : Int32) = nI 360 from rfl, pk_mul, nI_add, nI_cl (by omega), nI_cl (by omega)]
          refine ⟨vp_in_nI ht (by decide), vp_in_nI (by omega) (by decide), fun M3 e3 => ?_⟩
          rw [nI_1]
          have eo : ∀ c, c ≠ 65 → M3 c = M2 c := fun c a => by subst e3; rw [jP_n a]
          have e65 : ∀ k, M3 65 k = if k = 360 * i + t then M1 62 t else M2 65 k := fun k => by subst e3; rw [jP_s, m1 62 (by decide) (by decide)]; rfl
          refine ih M3 (fun c a b => by rw [eo c b]; exact m1 c a b) (by rw [eo 64 (by decide)]; exact m2) (by rw [eo 64 (by decide)]; exact m3) (fun k hk => ?_) (fun k hk => by rw [e65, if_neg (by omega)]; exact m5 k hk)
          rw [e65]
          by_cases q : k = t
          · subst q; rw [if_pos rfl]
          · rw [if_neg (by omega)]; exact m4 k (by omega)
      have k1 : ∀ t, t ≤ 36 → ∀ M2 : jMem, (∀ c, c ≠ 64 → M2 c = M1 c) → (∀ k, k < t → M2 64 (36 * i + k) = M1 57 k) → (∀ k, k < 36 * i ∨ 36 * i + 36 ≤ k → M2 64 k = M1 64 k) → jRun X T0 12 q_X8_keep (19, [.ref 54, .int (nI i), .int (nI t)], [], M2) Q := by
        refine jUp ?_ ?_
        · intro M2 m1 m2 m3
          refine v_X8_keep_19 _ _ _ _ ⟨fun _ => ?_, fun g => absurd (by decide) g⟩
          exact k2 0 (Nat.zero_le _) M2 (fun c a _ => m1 c a) m2 m3 (fun k hk => absurd hk (Nat.not_lt_zero k)) (fun k _ => by rw [m1 65 (by decide)])
        · intro t ht ih M2 m1 m2 m3
          refine v_X8_keep_19 _ _ _ _ ⟨fun g => absurd g (nI_ge (b := 36) ht (by decide)), fun _ => ?_⟩
          rw [show (36 : Int32) = nI 36 from rfl, pk_mul, nI_add, nI_cl (by omega), nI_cl (by omega)]
          refine ⟨vp_in_nI ht (by decide), vp_in_nI (by omega) (by decide), fun M3 e3 => ?_⟩
          rw [nI_1]
          have e64 : ∀ k, M3 64 k = if k = 36 * i + t then M1 57 t else M2 64 k := fun k => by subst e3; rw [jP_s, m1 57 (by decide)]; rfl
          refine ih M3 (fun c a => by subst e3; rw [jP_n a]; exact m1 c a) (fun k hk => ?_) (fun k hk => by rw [e64, if_neg (by omega)]; exact m3 k hk)
          rw [e64]
          by_cases q : k = t
          · subst q; rw [if_pos rfl]
          · rw [if_neg (by omega)]; exact m2 k (by omega)
      exact k1 0 (Nat.zero_le _) M1 (fun _ _ => rfl) (fun k hk => absurd hk (Nat.not_lt_zero k)) (fun _ _ => rfl)
  · refine jAsk hW (r := -1) (fun M Q hc hC ca kk => ?_) (fun M Q hc hM kk => ?_)
    · have k2 := kk M jFz.rf ca
      exact v_X7_keep (d := 11) hI _ _ _ ⟨fun _ => k2, fun g => ⟨fun g2 => absurd ⟨fa_of_nlt g, g2⟩ hb, fun _ => k2⟩⟩
    · refine v_X8_keep (d := 11) hI _ _ _ (fun M1 e1 => sp_in hI ⟨_, rfl, ?_⟩)
      have hz1 : mFz M M1 := by subst e1; exact mFz.t0
      rw [jin_i (l := 0) (u := 1) (lo := 0) (hi := 1) rfl rfl, decide_eq_false hb]
      exact ⟨fun g => absurd rfl g, fun _ => kk M1 hz1⟩
theorem p_back (hI : jInj X T0) (hW : jInW s) (a : Int32) : jPair X q_X7_back q_X8_back [.int a] s := by
  obtain ⟨T, ⟨so, P, n, rc⟩, H, K⟩ := s
  by_cases hb : 0 ≤ a ∧ a ≤ 1
  · obtain ⟨i, hi, rfl⟩ := jNat (a := a) (m := 1) (by decide) hb.1 hb.2
    have hi2 : i < 2 := by omega
    cases hK : K i with
    | none =>
      refine jAsk hW (r := -2) (fun M Q hc hC ca kk => ?_) (fun M Q hc hM kk => ?_)
      · refine v_X7_back (d := 11) hI _ _ _ ⟨fun g => absurd g (nI_pos (by omega)), fun _ => ⟨fun _ => ?_, fun g => absurd hb.2 g⟩⟩
        have im : jImg M (28 + 7 * i) so n rc (K i) := hC.2.2.2.1 i hi2
        rw [hK] at im
        exact sp_imageOf hI hi2 ⟨_, rfl, jKd_img hi2, fun g => absurd im g, fun _ => kk M jFz.rf ca⟩
      · refine v_X8_back (d := 11) hI _ _ _ (fun M1 e1 => sp_in hI ⟨_, rfl, ?_⟩)
        have hz1 : mFz M M1 := by subst e1; exact mFz.t0
        have im : mImg M1 i (K i) := (hM.fz hz1).2.2.2 i hi2
        rw [hK] at im
        rw [jin_i (l := 0) (u := 1) (lo := 0) (hi := 1) rfl rfl, decide_eq_true hb, nI_cl (by omega)]
        exact ⟨fun _ => ⟨vp_in_nI hi2 (by decide), fun g => absurd im g, fun _ => kk M1 hz1⟩, fun g => absurd g (by decide)⟩
    | some G =>
      have hG : jWok so P n rc G := hW.2.2 i G hi2 hK
      have hv : jVok so P n rc (G.1 G.2) := hG.2 _ (Nat.le_refl _)
      have hn : n ≤ 32 := hv.1.1.1
      have gV := hv.1.2.2.1
      have h10 : G.2 ≤ 10 := hG.1
      refine ⟨nI (pisl (G.1 G.2)), (T, (so, P, n, rc), G, K), ⟨hW.1, hG, hW.2.2⟩, fun M Q hC kk => ?_, fun M Q hM kk => ?_⟩
      · refine v_X7_back (d := 11) hI _ _ _ ⟨fun g => absurd g (nI_pos (by omega)), fun _ => ⟨fun _ => ?_, fun g => absurd hb.2 g⟩⟩
        have im : jImg M (28 + 7 * i) so n rc (K i) := hC.2.2.2.1 i hi2
        rw [hK] at im
        refine sp_imageOf hI hi2 ⟨_, rfl, jKd_img hi2, fun _ => sp_imageOf hI hi2 ⟨_, rfl, sp_cpyFrom hI hi2 (fun M2 h2 => ⟨rfl, fun M3 e3 => ?_⟩)⟩, fun g => ?_⟩
        · have sp := h2.snp im.2 hn h10
          have eo : ∀ c, c ≠ 0 → M3 c = M2 c := fun c hc => by subst e3; rw [jP_n hc]
          have hC3 : jInC M3 (T, (so, P, n, rc), G, K) := jSetC hC (fun c a b => by rw [eo c a]; exact h2.1 c (by omega)) (by rw [eo 22 (by decide), eo 23 (by decide)]; exact sp.1) (by rw [eo 24 (by decide), eo 25 (by decide), eo 26 (by decide), eo 27 (by decide)]; exact sp.2) (by subst e3; rw [jP_s]; rfl)
          refine sp_islandCount (V := G.1 G.2) hI (Or.inl ⟨rfl, rfl⟩) hC3.2.2.1.1.2.2.1 gV.2.1 gV.2.2.1 gV.2.2.2 ⟨_, rfl, ?_⟩
          rw [pbc_pis gV.2.1 gV.2.2.1 gV.2.2.2]
          exact kk M3 hC3 (fun c hc => by rw [eo c (by omega)]; exact h2.1 c (by omega))
        · rw [im.1] at g; exact absurd g (by decide)
      · refine v_X8_back (d := 11) hI _ _ _ (fun M1 e1 => sp_in hI ⟨_, rfl, ?_⟩)
        have hz1 : mFz M M1 := by subst e1; exact mFz.t0
        have hM1 := hM.fz hz1
        have im : mImg M1 i (K i) := hM1.2.2.2 i hi2
        rw [hK] at im
        rw [jin_i (l := 0) (u := 1) (lo := 0) (hi := 1) rfl rfl, decide_eq_true hb, nI_cl (by omega), im.1]
        refine ⟨fun _ => ⟨vp_in_nI hi2 (by decide), fun _ => ?_, fun g => absurd g (by decide)⟩, fun g => absurd g (by decide)⟩
        have k2 : ∀ t, t ≤ 360 → ∀ M2 : jMem, (∀ c, c ≠ 57 → c ≠ 62 → M2 c = M1 c) → (∀ k, k < 36 → M2 57 k = nI (G.1 G.2 k)) → (∀ k, k < t → M2 62 k = M1 65 (360 * i + k)) → jRun X T0 12 q_X8_back (62, [.ref 54, .int (nI i), .int (nI t)], [], M2) Q := by
          refine jUp ?_ ?_
          · intro M2 m1 m2 m3
            refine v_X8_back_62 _ _ _ _ ⟨fun _ => ?_, fun g => absurd (by decide) g⟩
            rw [nI_cl (by omega)]
            refine ⟨vp_in_nI hi2 (by decide), fun M3 e3 => ?_⟩
            have eo : ∀ c, c ≠ 54 → M3 c = M2 c := fun c a => by subst e3; rw [jP_n a]
            have e20 : M3 54 20 = nI G.2 := by subst e3; rw [jP_s, m1 66 (by decide) (by decide), im.2.2.1]; rfl
            have ef : ∀ k, k ≠ 20 → M3 54 k = M1 54 k := fun k hk => by subst e3; rw [jP_s, m1 54 (by decide) (by decide)]; simp [upd, hk]
            have hM3 : jInM M3 (T, (so, P, n, rc), G, K) := jSetM hM1 (fun c a b e => by rw [eo c a]; exact m1 c b e) (fun k _ b => ef k b) ⟨fun k hk => by rw [eo 57 (by decide)]; exact m2 k hk, e20, fun a ha k hk => by rw [eo 62 (by decide), m3 _ (by omega)]; exact im.2.2.2 a ha k hk⟩
            have c57 : ∀ k, k < 36 → M3 57 k = nI (G.1 G.2 k) := fun k hk => by rw [eo 57 (by decide)]; exact m2 k hk
            exact sp_isles (V := G.1 G.2) hI gV.2.1 gV.2.2.1 gV.2.2.2 (c57 33 (by decide)) (c57 34 (by decide)) (c57 35 (by decide)) ⟨_, rfl, kk M3 hM3 (fun c hc => by rw [eo c (by omega), m1 c (by omega) (by omega)]; exact hz1.lo c hc)⟩
          · intro t ht ih M2 m1 m2 m3
            refine v_X8_back_62 _ _ _ _ ⟨fun g => absurd g (nI_ge (b := 360) ht (by decide)), fun _ => ?_⟩
            rw [show (360 : Int32) = nI 360 from rfl, pk_mul, nI_add, nI_cl (by omega), nI_cl (by omega)]
            refine ⟨vp_in_nI (by omega) (by decide), vp_in_nI ht (by decide), fun M3 e3 => ?_⟩
            rw [nI_1]
            have e62 : ∀ k, M3 62 k = if k = t then M1 65 (360 * i + t) else M2 62 k := fun k => by subst e3; rw [jP_s, m1 65 (by decide) (by decide)]; rfl
            refine ih M3 (fun c a b => by subst e3; rw [jP_n b]; exact m1 c a b) (by subst e3; rw [jP_n (by decide)]; exact m2) (fun k hk => ?_)
            rw [e62]
            by_cases q : k = t
            · subst q; rw [if_pos rfl]
            · rw [if_neg q]; exact m3 k (by omega)
        have k1 : ∀ t, t ≤ 36 → ∀ M2 : jMem, (∀ c, c ≠ 57 → M2 c = M1 c) → (∀ k, k < t → M2 57 k = nI (G.1 G.2 k)) → jRun X T0 12 q_X8_back (31, [.ref 54, .int (nI i), .int (nI t)], [], M2) Q := by
          refine jUp ?_ ?_
          · intro M2 m1 m2
            refine v_X8_back_31 _ _ _ _ ⟨fun _ => ?_, fun g => absurd (by decide) g⟩
            exact k2 0 (Nat.zero_le _) M2 (fun c a _ => m1 c a) m2 (fun k hk => absurd hk (Nat.not_lt_zero k))
          · intro t ht ih M2 m1 m2
            refine v_X8_back_31 _ _ _ _ ⟨fun g => absurd g (nI_ge (b := 36) ht (by decide)), fun _ => ?_⟩
            rw [show (36 : Int32) = nI 36 from rfl, pk_mul, nI_add, nI_cl (by omega), nI_cl (by omega)]
            refine ⟨vp_in_nI (by omega) (by decide), vp_in_nI ht (by decide), fun M3 e3 => ?_⟩
            rw [nI_1]
            have e57 : ∀ k, M3 57 k = if k = t then M1 64 (36 * i + t) else M2 57 k := fun k => by subst e3; rw [jP_s, m1 64 (by decide)]; rfl
            refine ih M3 (fun c a => by subst e3; rw [jP_n a]; exact m1 c a) (fun k hk => ?_)
            rw [e57]
            by_cases q : k = t
            · subst q; rw [if_pos rfl]; exact im.2.1 k ht
            · rw [if_neg q]; exact m2 k (by omega)
        exact k1 0 (Nat.zero_le _) M1 (fun _ _ => rfl) (fun k hk => absurd hk (Nat.not_lt_zero k))
  · refine jAsk hW (r := -1) (fun M Q hc hC ca kk => ?_) (fun M Q hc hM kk => ?_)
    · have k2 := kk M jFz.rf ca
      exact v_X7_back (d := 11) hI _ _ _ ⟨fun _ => k2, fun g => ⟨fun g2 => absurd ⟨fa_of_nlt g, g2⟩ hb, fun _ => k2⟩⟩
    · refine v_X8_back (d := 11) hI _ _ _ (fun M1 e1 => sp_in hI ⟨_, rfl, ?_⟩)
      have hz1 : mFz M M1 := by subst e1; exact mFz.t0
      rw [jin_i (l := 0) (u := 1) (lo := 0) (hi := 1) rfl rfl, decide_eq_false hb]
      exact ⟨fun g => absurd rfl g, fun _ => kk M1 hz1⟩
end JIN
