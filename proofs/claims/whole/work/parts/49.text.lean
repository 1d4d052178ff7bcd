section JTX
variable {X : jX} {d : Nat} {M M' : jMem} {Q : Option Value → jMem → Prop} {so P V : Nat → Nat} {n rc B : Nat} {fw : Int32} {s : jSt} {T : Nat × (Nat → Nat)} {H : jHi} {K : Nat → Option jHi} {o : Option jHi}
theorem jPr.fr (e : ∀ c, B ≤ c → c ≤ B + 8 → M' c = M c) (h : jPr M B so P n rc) : jPr M' B so P n rc := by
  unfold jPr at h ⊢
  rw [e B (by omega) (by omega), e (B + 1) (by omega) (by omega), e (B + 2) (by omega) (by omega), e (B + 3) (by omega) (by omega), e (B + 4) (by omega) (by omega), e (B + 5) (by omega) (by omega), e (B + 6) (by omega) (by omega), e (B + 7) (by omega) (by omega), e (B + 8) (by omega) (by omega)]
  exact h
theorem jSnp.fr (e : ∀ c, B < c → c ≤ B + 6 → M' c = M c) (h : jSnp M B so n rc H) : jSnp M' B so n rc H := by
  unfold jSnp at h ⊢
  rw [e (B + 1) (by omega) (by omega), e (B + 2) (by omega) (by omega), e (B + 3) (by omega) (by omega), e (B + 4) (by omega) (by omega), e (B + 5) (by omega) (by omega), e (B + 6) (by omega) (by omega)]
  exact h
theorem jImg.fr (e : ∀ c, B ≤ c → c ≤ B + 6 → M' c = M c) (h : jImg M B so n rc o) : jImg M' B so n rc o := by
  cases o with
  | none => exact (congrFun (e B (by omega) (by omega)) 2).trans h
  | some G => exact ⟨(congrFun (e B (by omega) (by omega)) 2).trans h.1, h.2.fr (fun c a b => e c (by omega) b)⟩
theorem jCa.fr (e0 : M' 0 = M 0) (e : ∀ c, 42 ≤ c → c ≤ 47 → M' c = M c) (h : jCa M so V n rc fw) : jCa M' so V n rc fw := by
  obtain ⟨fd, a, b, c, f⟩ := h
  refine ⟨fd, a, by rw [e0]; exact b, fun w hw hb => ?_, fun hb => by rw [e0]; exact f hb⟩
  obtain ⟨c1, c2⟩ := c w hw hb
  exact ⟨⟨by rw [e _ (by omega) (by omega)]; exact c1.1, fun k hk => by rw [e _ (by omega) (by omega)]; exact c1.2 k hk⟩, by rw [e _ (by omega) (by omega)]; exact c2⟩
theorem jCa.zero (h : M 0 11 = 0) : jCa M so V n rc fw := ⟨0, by decide, h, fun w _ hb => by simp at hb, fun hb => by simp at hb⟩
theorem mPr.fr (e : ∀ c, 56 ≤ c → c ≤ 61 → c ≠ 57 → M' c = M c) (f : ∀ k, k = 7 ∨ k = 8 ∨ k = 12 ∨ k = 14 ∨ k = 16 ∨ k = 18 → M' 54 k = M 54 k) (h : mPr M so P n rc) : mPr M' so P n rc := by
  unfold mPr at h ⊢
  rw [e 56 (by decide) (by decide) (by decide), e 58 (by decide) (by decide) (by decide), e 59 (by decide) (by decide) (by decide), e 60 (by decide) (by decide) (by decide), e 61 (by decide) (by decide) (by decide), f 7 (by decide), f 8 (by decide), f 12 (by decide), f 14 (by decide), f 16 (by decide), f 18 (by decide)]
  exact h
theorem mImg.fr {i : Nat} (e : ∀ c, 63 ≤ c → c ≤ 66 → M' c = M c) (h : mImg M i o) : mImg M' i o := by
  cases o with
  | none => exact (congrFun (e 63 (by decide) (by decide)) i).trans h
  | some G =>
    unfold mImg at h ⊢
    rw [e 63 (by decide) (by decide), e 64 (by decide) (by decide), e 65 (by decide) (by decide), e 66 (by decide) (by decide)]
    exact h
theorem jByte {a : Int32} (h : 0 ≤ a) (h2 : a ≤ 255) : ∃ k, k < 256 ∧ a = nI k := by
  rcases pk_ix a (n := 256) (by omega) with g | g | g
  · rw [fa_lt] at g; rw [fa_le] at h; omega
  · rw [fa_le] at g h2
    have e2 : (255 : Int32).toInt = 255 := by decide
    have e3 : (nI 256).toInt = 256 := by decide
    omega
  · exact g
theorem jIn.txt (hC : jInC M (T, (so, P, n, rc), H, K)) {T2 : Nat × (Nat → Nat)} (h1 : jTxt (M' 1 1) (M' 2) T2) (e : ∀ c, c ≠ 1 → c ≠ 2 → M' c = M c) : jInC M' (T2, (so, P, n, rc), H, K) :=
  ⟨h1, hC.2.1.fr (fun c _ _ => e c (by omega) (by omega)), hC.2.2.1.fr (fun c _ _ => e c (by omega) (by omega)), fun i hi => (hC.2.2.2.1 i hi).fr (fun c _ _ => e c (by omega) (by omega)), hC.2.2.2.2.fr (e 0 (by decide) (by decide)) (fun c _ _ => e c (by omega) (by omega))⟩
theorem mIn.txt (hM : jInM M (T, (so, P, n, rc), H, K)) {T2 : Nat × (Nat → Nat)} (h1 : jTxt (M' 54 2) (M' 55) T2) (e : ∀ c, c ≠ 54 → c ≠ 55 → M' c = M c) (f : ∀ k, k ≠ 0 → k ≠ 2 → M' 54 k = M 54 k) : jInM M' (T2, (so, P, n, rc), H, K) :=
  ⟨h1, hM.2.1.fr (fun c _ _ _ => e c (by omega) (by omega)) (fun k hk => f k (by omega) (by omega)), by rw [e 57 (by decide) (by decide), e 62 (by decide) (by decide), f 20 (by decide) (by decide)]; exact hM.2.2.1, fun i hi => (hM.2.2.2 i hi).fr (fun c _ _ => e c (by omega) (by omega))⟩
theorem p_type (hI : jInj X T0) (hW : jInW s) (a : Int32) : jPair X q_X7_type q_X8_type [.int a] s := by
  obtain ⟨T, ⟨so, P, n, rc⟩, H, K⟩ := s
  have hT : T.1 ≤ 150 := hW.1.1
  by_cases hb : 0 ≤ a ∧ a ≤ 255
  · obtain ⟨k, hk, rfl⟩ := jByte hb.1 hb.2
    by_cases ht : T.1 = 150
    · refine jAsk hW (r := -3) (fun M Q hc hC ca k => ?_) (fun M Q hc hM k => ?_)
      · refine v_X7_type (d := 11) hI _ _ _ ⟨fun g => absurd g (nI_pos (by omega)), fun _ => ⟨fun _ => ⟨fun g => ?_, fun _ => k M jFz.rf ca⟩, fun g => absurd hb.2 g⟩⟩
        rw [hC.1.1, show (T, (so, P, n, rc), H, K).1.1 = 150 from ht] at g
        exact absurd g (by decide)
      · refine v_X8_type (d := 11) hI _ _ _ (fun M1 e1 => sp_in hI ⟨_, rfl, ?_⟩)
        have hz1 : mFz M M1 := by subst e1; exact mFz.t0
        rw [jin_i (l := 0) (u := 255) (lo := 0) (hi := 255) rfl rfl, decide_eq_true hb]
        refine ⟨fun _ => ⟨fun g => absurd ?_ g, fun _ => k M1 hz1⟩, fun g => absurd g (by decide)⟩
        rw [(hM.fz hz1).1.1, show (T, (so, P, n, rc), H, K).1.1 = 150 from ht]
        rfl
    · have ht2 : T.1 < 150 := by omega
      have hW2 : jInW ((T.1 + 1, fun i => if i = T.1 then k else T.2 i), (so, P, n, rc), H, K) := ⟨⟨by show T.1 + 1 ≤ 150; omega, fun i hi => by
        show (if i = T.1 then k else T.2 i) < 256
        by_cases e : i = T.1
        · rw [if_pos e]; exact hk
        · rw [if_neg e]; exact hW.1.2 i (by have : i < T.1 + 1 := hi; show i < T.1; omega)⟩, hW.2⟩
      have tx : ∀ {z z' : Int32} {f f' : Nat → Int32}, jTxt z f T → z' = z + 1 → f' = upd f T.1 (nI k) → jTxt z' f' (T.1 + 1, fun i => if i = T.1 then k else T.2 i) := by
        intro z z' f f' h e1 e2
        subst e1; subst e2
        refine ⟨by rw [h.1, nI_1], fun i hi => ?_⟩
        have hi : i < T.1 + 1 := hi
        show upd f T.1 (nI k) i = nI (if i = T.1 then k else T.2 i)
        by_cases e : i = T.1
        · subst e; simp [upd]
        · rw [if_neg e]
          simp only [upd, if_neg e]
          exact h.2 i (by omega)
      refine ⟨nI (T.1 + 1), _, hW2, fun M Q hC kk => ?_, fun M Q hM kk => ?_⟩
      · have z : M 1 1 = nI T.1 := hC.1.1
        refine v_X7_type (d := 11) hI _ _ _ ⟨fun g => absurd g (nI_pos (by omega)), fun _ => ⟨fun _ => ⟨fun _ => ?_, fun g => ?_⟩, fun g => absurd hb.2 g⟩⟩
        · refine v_X6_take hI _ _ _ ?_
          rw [z]
          refine ⟨fun g => absurd g (nI_pos (by omega)), fun _ => ⟨fun _ => ⟨vp_in_nI (by omega) (by decide), fun M1 e1 M2 e2 => ⟨rfl, ?_⟩⟩, fun g => absurd (nI_lt (b := 150) ht2 (by decide)) g⟩⟩
          rw [nI_cl (by omega)] at e1
          have a1 : M2 1 1 = M 1 1 + 1 := by subst e2; subst e1; rw [jP_s, jP_n (by decide)]; simp [upd]
          have a2 : M2 2 = upd (M 2) T.1 (nI k) := by subst e2; subst e1; rw [jP_n (by decide), jP_s]
          have h2 := kk M2 (jIn.txt hC (tx hC.1 a1 a2) (fun c b1 b2 => by subst e2; subst e1; rw [jP_n b1, jP_n b2])) (fun c hc => by subst e2; subst e1; rw [jP_n (by omega), jP_n (by omega)])
          rw [a1, z, nI_1]
          exact h2
        · rw [z] at g
          exact absurd (nI_lt (b := 150) ht2 (by decide)) g
      · refine v_X8_type (d := 11) hI _ _ _ (fun M1 e1 => sp_in hI ⟨_, rfl, ?_⟩)
        have hz1 : mFz M M1 := by subst e1; exact mFz.t0
        have hM1 := hM.fz hz1
        have z : M1 54 2 = nI T.1 := hM1.1.1
        rw [jin_i (l := 0) (u := 255) (lo := 0) (hi := 255) rfl rfl, decide_eq_true hb, z]
        refine ⟨fun _ => ⟨fun _ => ⟨vp_in_nI (by omega) (by decide), fun M2 e2 M3 e3 => ?_⟩, fun g => absurd g (nI_ne (b := 150) (by omega) (by decide) ht)⟩, fun g => absurd g (by decide)⟩
        rw [nI_cl (by omega)] at e2
        have a1 : M3 54 2 = M1 54 2 + 1 := by subst e3; subst e2; rw [jP_s, jP_n (by decide)]; simp [upd]
        have a2 : M3 55 = upd (M1 55) T.1 (nI k) := by subst e3; subst e2; rw [jP_n (by decide), jP_s]
        have h2 := kk M3 (mIn.txt hM1 (tx hM1.1 a1 a2) (fun c b1 b2 => by subst e3; subst e2; rw [jP_n b1, jP_n b2]) (fun j b1 b2 => by subst e3; subst e2; rw [jP_s, jP_n (by decide)]; simp [upd, b2])) (fun c hc => by rw [← hz1.lo c hc]; subst e3; subst e2; rw [jP_n (by omega), jP_n (by omega)])
        rw [a1, z, nI_1]
        exact h2
  · refine jAsk hW (r := -1) (fun M Q hc hC ca k => ?_) (fun M Q hc hM k => ?_)
    · have kk := k M jFz.rf ca
      refine v_X7_type (d := 11) hI _ _ _ ⟨fun _ => kk, fun g => ⟨fun g2 => absurd ⟨fa_of_nlt g, g2⟩ hb, fun _ => kk⟩⟩
    · refine v_X8_type (d := 11) hI _ _ _ (fun M1 e1 => sp_in hI ⟨_, rfl, ?_⟩)
      have hz1 : mFz M M1 := by subst e1; exact mFz.t0
      rw [jin_i (l := 0) (u := 255) (lo := 0) (hi := 255) rfl rfl, decide_eq_false hb]
      exact ⟨fun g => absurd rfl g, fun _ => k M1 hz1⟩
theorem p_clear (hI : jInj X T0) (hW : jInW s) : jPair X q_X7_clear q_X8_clear [] s := by
  obtain ⟨T, ⟨so, P, n, rc⟩, H, K⟩ := s
  have hW2 : jInW ((0, T.2), (so, P, n, rc), H, K) := ⟨⟨Nat.zero_le _, fun i hi => absurd hi (Nat.not_lt_zero i)⟩, hW.2⟩
  refine ⟨nI T.1, _, hW2, fun M Q hC k => ?_, fun M Q hM k => ?_⟩
  · refine v_X7_clear (d := 12) hI _ _ (fun M1 e1 => ?_)
    have h2 := k M1 (jIn.txt hC ⟨by subst e1; rw [jP_s]; rfl, fun i hi => absurd hi (Nat.not_lt_zero i)⟩ (fun c b1 b2 => by subst e1; rw [jP_n b1])) (fun c hc => by subst e1; rw [jP_n (by omega)])
    rw [show M 1 1 = nI T.1 from hC.1.1]
    exact h2
  · refine v_X8_clear (d := 12) hI _ _ (fun M1 e1 M2 e2 => ?_)
    have hz1 : mFz M M1 := by subst e1; exact mFz.t0
    have hM1 := hM.fz hz1
    have h2 := k M2 (mIn.txt hM1 ⟨by subst e2; rw [jP_s]; rfl, fun i hi => absurd hi (Nat.not_lt_zero i)⟩ (fun c b1 b2 => by subst e2; rw [jP_n b1]) (fun j b1 b2 => by subst e2; rw [jP_s]; simp [upd, b2])) (fun c hc => by rw [← hz1.lo c hc]; subst e2; rw [jP_n (by omega)])
    rw [show M1 54 2 = nI T.1 from hM1.1.1]
    exact h2
end JTX
