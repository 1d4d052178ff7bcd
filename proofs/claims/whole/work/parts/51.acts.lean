section JAC
variable {X : jX} {d : Nat} {M M' : jMem} {Q : Option Value → jMem → Prop} {so P V V' : Nat → Nat} {n rc B : Nat} {fw : Int32} {s : jSt} {T : Nat × (Nat → Nat)} {H : jHi} {K : Nat → Option jHi} {o : Option jHi}
theorem jVok.chg (h : jVok so P n rc V) (h1 : ∀ k, k < n → so k ≠ 0 → V' k = V k) (h2 : ∀ k, k < n → so k = 0 → 1 ≤ V' k ∧ V' k ≤ 60) (h3 : V' 32 < 2 ^ pct so 2 n) (h4 : V' 33 < 256 ∧ V' 34 < 256 ∧ V' 35 < 256)
    (h5 : ∀ s x, s < 3 → x < 8 → (V' (33 + s)).testBit x = true → s < pct so 5 n ∧ 0 < pli so V x n) (h6 : pisl V' ≤ 6) : jVok so P n rc V' := by
  have pc := fun x => pli_cong (so := so) h1 x n (Nat.le_refl _)
  obtain ⟨⟨a, ⟨b1, b2, b3, b4, b5⟩, -, -⟩, -, -, f⟩ := h
  refine ⟨⟨a, ⟨b1, fun k hk h0 => ⟨(h2 k hk h0).1, by have := (h2 k hk h0).2; omega⟩, fun k hk e => ?_, fun k hk e => ?_, fun k hk e => ?_⟩, ⟨h3, h4⟩, fun s x hs hx hb => by rw [pc]; exact h5 s x hs hx hb⟩, fun k hk h0 => (h2 k hk h0).2, h6, fun k hk h0 => by rw [h1 k hk h0]; exact f k hk h0⟩
  · rw [h1 k hk (by omega)]; exact b3 k hk e
  · rw [h1 k hk (by omega)]; exact b4 k hk e
  · rw [h1 k hk (by omega), pc]; exact b5 k hk e
theorem jActC (hC : jInC M (T, (so, P, n, rc), H, K)) (e : ∀ c, c ≠ 0 → (c < 22 ∨ 27 < c) → M' c = M c) (h1 : jShp (M' 22) (M' 23) so n rc V') (h2 : jPst (M' 24) (M' 25) (M' 26) (M' 27) so n (jPsh H V')) (h3 : M' 0 11 = 0) : jInC M' (T, (so, P, n, rc), jPsh H V', K) :=
  ⟨by rw [e 1 (by decide) (by decide), e 2 (by decide) (by decide)]; exact hC.1, hC.2.1.fr (fun c _ _ => e c (by omega) (by omega)), ⟨by show jShp (M' 22) (M' 23) so n rc ((jPsh H V').1 (jPsh H V').2); rw [jPsh_now]; exact h1, h2⟩, fun i hi => (hC.2.2.2.1 i hi).fr (fun c _ _ => e c (by omega) (by omega)), jCa.zero h3⟩
theorem jActM (hM : jInM M (T, (so, P, n, rc), H, K)) (e : ∀ c, c ≠ 54 → c ≠ 57 → c ≠ 62 → M' c = M c) (f : ∀ k, k ≠ 0 → k ≠ 20 → M' 54 k = M 54 k) (h1 : ∀ k, k < 36 → M' 57 k = nI (V' k)) (h2 : M' 54 20 = nI (jPsh H V').2)
    (h3 : ∀ a, a < (jPsh H V').2 → ∀ k, k < 36 → M' 62 (36 * a + k) = nI ((jPsh H V').1 a k)) : jInM M' (T, (so, P, n, rc), jPsh H V', K) :=
  ⟨by rw [e 55 (by decide) (by decide) (by decide), f 2 (by decide) (by decide)]; exact hM.1, hM.2.1.fr (fun c _ _ _ => e c (by omega) (by omega) (by omega)) (fun k hk => f k (by omega) (by omega)), ⟨fun k hk => by show M' 57 k = nI ((jPsh H V').1 (jPsh H V').2 k); rw [jPsh_now]; exact h1 k hk, h2, h3⟩, fun i hi => (hM.2.2.2 i hi).fr (fun c _ _ => e c (by omega) (by omega) (by omega))⟩
theorem jActW (hW : jInW (T, (so, P, n, rc), H, K)) (hv : jVok so P n rc V') : jInW (T, (so, P, n, rc), jPsh H V', K) := ⟨hW.1, jPsh_ok hW.2.1 hv, hW.2.2⟩
theorem jNat {a : Int32} {m : Nat} (hm : m < 2 ^ 30) (h : 0 ≤ a) (h2 : a ≤ nI m) : ∃ k, k ≤ m ∧ a = nI k := by
  rcases pk_ix a (n := m + 1) (by omega) with g | g | ⟨k, g1, g2⟩
  · rw [fa_lt] at g; rw [fa_le] at h; omega
  · rw [fa_le] at g h2
    have e2 : (nI m).toInt = m := nI_toInt (by omega)
    have e3 : (nI (m + 1)).toInt = (m + 1 : Nat) := nI_toInt (by omega)
    omega
  · exact ⟨k, by omega, g2⟩
def pup (V : Nat → Nat) (k v j : Nat) : Nat := if j = k then v else V j
theorem pup_n {k v j : Nat} (h : j ≠ k) : pup V k v j = V j := if_neg h
theorem pup_s {k v : Nat} : pup V k v k = v := if_pos rfl
theorem p_sizes (hI : jInj X T0) (hW : jInW s) (a b : Int32) : jPair X q_X7_sizes q_X8_sizes [.int a, .int b] s := by
  obtain ⟨T, ⟨so, P, n, rc⟩, H, K⟩ := s
  have hv := hW.2.1.2 _ (Nat.le_refl _)
  have hw := hv.1
  have hn : n ≤ 32 := hw.1.1
  have hso : ∀ k, k < n → so k ≤ 5 := hw.2.1.1
  have z1 : (1 : Int32).toInt = 1 := by decide
  have z0 : (0 : Int32).toInt = 0 := by decide
  by_cases hb : (pkn n a && decide (so a.toNatClampNeg = 0)) = true ∧ 1 ≤ b ∧ b ≤ 60
  · obtain ⟨hb1, hb2, hb3⟩ := hb
    have hb0 := Bool.and_eq_true_iff.mp hb1
    obtain ⟨k, hkn, rfl⟩ := pit_t hb0.1 hn
    have hs0 : so k = 0 := by have := of_decide_eq_true hb0.2; rw [nI_cl (by omega)] at this; exact this
    obtain ⟨v, hv60, rfl⟩ := jNat (a := b) (m := 60) (by decide) (by rw [fa_le] at hb2 ⊢; omega) hb3
    have hv1 : 1 ≤ v := by
      have e : (nI v).toInt = v := nI_toInt (by omega)
      rw [fa_le, e] at hb2
      omega
    have hVk : H.1 H.2 k ≤ 60 := hv.2.1 k hkn hs0
    have g1 : ¬ nI v < 1 := fun q => by rw [fa_lt] at q; rw [fa_le] at hb2; omega
    by_cases e : H.1 H.2 k = v
    · refine jAsk hW (r := -2) (fun M Q hc hC ca kk => ?_) (fun M Q hc hM kk => ?_)
      · refine v_X7_sizes (d := 11) hI _ _ _ _ (sp_isOf (s := 0) hI hc.1.1 hc.2.1.1 hn hso (by decide) ⟨_, rfl, fun g => ?_, fun _ => ⟨fun g => absurd g g1, fun _ => ⟨fun _ => ⟨vp_in_nI (by omega) (by decide), fun g => absurd ?_ g, fun _ => kk M jFz.rf ca⟩, fun g => absurd hb3 g⟩⟩⟩)
        · rw [hb1] at g; exact absurd g (by decide)
        · rw [nI_cl (by omega), hc.2.2.2.1 k hkn hs0, e]
      · refine v_X8_sizes (d := 11) hI _ _ _ _ (fun M1 e1 => ?_)
        have hz1 : mFz M M1 := by subst e1; exact mFz.t0
        have hc1 := hz1.ctx hc
        refine sp_misItem hI hc1.1.1 hn ⟨_, rfl, fun g => ?_, fun _ => ⟨vp_in_nI (by omega) (by decide), fun g => absurd ?_ g, fun _ => sp_in hI ⟨_, rfl, ?_⟩⟩⟩
        · rw [show decide (0 ≤ nI k ∧ nI k < nI n) = true from hb0.1] at g; exact absurd g (by decide)
        · rw [nI_cl (by omega), hc1.2.1.1 k hkn, hs0]; rfl
        · rw [jin_i (l := 1) (u := 60) (lo := 1) (hi := 60) rfl rfl, decide_eq_true ⟨hb2, hb3⟩]
          refine ⟨fun _ => ⟨vp_in_nI (by omega) (by decide), fun g => absurd ?_ g, fun _ => kk M1 hz1⟩, fun g => absurd g (by decide)⟩
          rw [nI_cl (by omega), hc1.2.1.2 k (by omega), e]
    · have ne : ¬ nI (H.1 H.2 k) = nI v := nI_ne (by omega) (by omega) e
      have u : ∀ j, j ≠ k → pup (H.1 H.2) k v j = H.1 H.2 j := fun j hj => pup_n hj
      have hv2 : jVok so P n rc (pup (H.1 H.2) k v) := by
        refine hv.chg (fun j hj h0 => u j (fun q => h0 (by rw [q]; exact hs0))) (fun j hj h0 => ?_) ?_ ?_ ?_ ?_
        · by_cases q : j = k
          · subst q; rw [pup_s]; exact ⟨hv1, hv60⟩
          · rw [u j q]; exact ⟨(hw.2.1.2.1 j hj h0).1, hv.2.1 j hj h0⟩
        · rw [u 32 (by omega)]; exact hw.2.2.1.1
        · rw [u 33 (by omega), u 34 (by omega), u 35 (by omega)]; exact hw.2.2.1.2
        · intro t x ht hx hb
          rw [u (33 + t) (by omega)] at hb
          exact hw.2.2.2 t x ht hx hb
        · unfold pisl
          rw [u 33 (by omega), u 34 (by omega), u 35 (by omega)]; exact hv.2.2.1
      refine ⟨nI (H.1 H.2 k), _, jActW hW hv2, fun M Q hC kk => ?_, fun M Q hM kk => ?_⟩
      · have hc := hC.ctx hW
        refine v_X7_sizes (d := 11) hI _ _ _ _ (sp_isOf (s := 0) hI hc.1.1 hc.2.1.1 hn hso (by decide) ⟨_, rfl, fun g => ?_, fun _ => ⟨fun g => absurd g g1, fun _ => ⟨fun _ => ⟨vp_in_nI (by omega) (by decide), fun _ => ?_, fun g => absurd ?_ ne⟩, fun g => absurd hb3 g⟩⟩⟩)
        · rw [hb1] at g; exact absurd g (by decide)
        · rw [nI_cl (by omega), hc.2.2.2.1 k hkn hs0]
          refine sp_remember hI hC.2.2.1.2 hW.2.1.1 (V' := pup (H.1 H.2) k v) (Or.inl ⟨rfl, k, hkn, hs0, rfl, rfl, fun j _ hj => (u j hj).symm⟩) (fun M2 f2 p2 => ⟨rfl, fun M3 e3 M4 e4 => ?_⟩)
          have eo : ∀ c, c ≠ 0 → c ≠ 23 → M4 c = M2 c := fun c a b => by subst e4; subst e3; rw [jP_n a, jP_n b]
          have e23 : M4 23 = upd (M 23) k (nI v) := by subst e4; subst e3; rw [jP_n (by decide), jP_s, f2 23 (by decide)]
          refine kk M4 (jActC hC (fun c a b => by rw [eo c a (by omega)]; exact f2 c (by omega)) ?_ ?_ ?_) (fun c hc => by rw [eo c (by omega) (by omega)]; exact f2 c (by omega))
          · rw [eo 22 (by decide) (by decide), f2 22 (by decide), e23]
            have sh := hC.2.2.1.1
            refine ⟨fun j hj h0 => ?_, ?_, ?_, sh.2.2.2⟩
            · show upd (M 23) k (nI v) j = nI (pup (H.1 H.2) k v j)
              simp only [upd]
              by_cases q : j = k
              · subst q; rw [if_pos rfl, pup_s]
              · rw [if_neg q, u j q]; exact sh.1 j hj h0
            · rw [u 32 (by omega)]; exact sh.2.1
            · unfold pis
              rw [u 33 (by omega), u 34 (by omega), u 35 (by omega)]; exact sh.2.2.1
          · rw [eo 24 (by decide) (by decide), eo 25 (by decide) (by decide), eo 26 (by decide) (by decide), eo 27 (by decide) (by decide)]; exact p2
          · subst e4; rw [jP_s]; rfl
        · rw [nI_cl (by omega), hc.2.2.2.1 k hkn hs0] at g; exact g
      · refine v_X8_sizes (d := 11) hI _ _ _ _ (fun M1 e1 => ?_)
        have hz1 : mFz M M1 := by subst e1; exact mFz.t0
        have hM1 := hM.fz hz1
        have hc1 := hM1.ctx hW
        refine sp_misItem hI hc1.1.1 hn ⟨_, rfl, fun g => ?_, fun _ => ⟨vp_in_nI (by omega) (by decide), fun g => absurd ?_ g, fun _ => sp_in hI ⟨_, rfl, ?_⟩⟩⟩
        · rw [show decide (0 ≤ nI k ∧ nI k < nI n) = true from hb0.1] at g; exact absurd g (by decide)
        · rw [nI_cl (by omega), hc1.2.1.1 k hkn, hs0]; rfl
        · rw [jin_i (l := 1) (u := 60) (lo := 1) (hi := 60) rfl rfl, decide_eq_true ⟨hb2, hb3⟩, nI_cl (by omega), hc1.2.1.2 k (by omega)]
          refine ⟨fun _ => ⟨vp_in_nI (by omega) (by decide), fun _ => ?_, fun g => absurd g ne⟩, fun g => absurd g (by decide)⟩
          refine sp_keepAct hI hM1.2.2.1 hW.2.1.1 (V' := pup (H.1 H.2) k v) (fun M2 f2 g2 a2 b2 => ⟨rfl, fun M3 e3 => ?_⟩)
          have eo : ∀ c, c ≠ 57 → M3 c = M2 c := fun c a => by subst e3; rw [jP_n a]
          refine kk M3 (jActM hM1 (fun c a b e => by rw [eo c b]; exact f2 c a e) (fun j a b => by rw [eo 54 (by decide)]; exact g2 j b) (fun j hj => ?_) (by rw [eo 54 (by decide)]; exact a2) (by rw [eo 62 (by decide)]; exact b2)) (fun c hc => by rw [eo c (by omega), f2 c (by omega) (by omega)]; exact hz1.lo c hc)
          subst e3
          rw [jP_s, f2 57 (by decide) (by decide)]
          show upd (M1 57) k (nI v) j = nI (pup (H.1 H.2) k v j)
          simp only [upd]
          by_cases q : j = k
          · subst q; rw [if_pos rfl, pup_s]
          · rw [if_neg q, u j q]; exact hc1.2.1.2 j hj
  · refine jAsk hW (r := -1) (fun M Q hc hC ca kk => ?_) (fun M Q hc hM kk => ?_)
    · have k2 := kk M jFz.rf ca
      exact v_X7_sizes (d := 11) hI _ _ _ _ (sp_isOf (s := 0) hI hc.1.1 hc.2.1.1 hn hso (by decide) ⟨_, rfl, fun _ => k2, fun g => ⟨fun _ => k2, fun g1 => ⟨fun g2 => absurd ⟨jnb g, fa_of_nlt g1, g2⟩ hb, fun _ => k2⟩⟩⟩)
    · refine v_X8_sizes (d := 11) hI _ _ _ _ (fun M1 e1 => ?_)
      have hz1 : mFz M M1 := by subst e1; exact mFz.t0
      have hc1 := hz1.ctx hc
      have k2 := kk M1 hz1
      refine sp_misItem hI hc1.1.1 hn ⟨_, rfl, fun _ => k2, fun g => ?_⟩
      have hk := jnb g
      obtain ⟨k, hkn, rfl⟩ := pit_t hk hn
      rw [nI_cl (by omega), hc1.2.1.1 k hkn]
      refine ⟨vp_in_nI (by omega) (by decide), fun _ => k2, fun g2 => sp_in hI ⟨_, rfl, ?_⟩⟩
      rw [jin_i (l := 1) (u := 60) (lo := 1) (hi := 60) rfl rfl]
      refine ⟨fun g3 => absurd ⟨?_, of_decide_eq_true (jnb g3)⟩ hb, fun _ => k2⟩
      rw [nI_cl (by omega), show pkn n (nI k) = true from hk, Bool.true_and]
      have := hso k hkn
      exact decide_eq_true (nI_inj (b := 0) (by omega) (by decide) g2)
end JAC
