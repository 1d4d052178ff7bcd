section JO3
variable {X : jX} {d : Nat} {M M0 : jMem} {Q : Option Value → jMem → Prop} {so V : Nat → Nat} {n rc : Nat} {fw : Int32}
theorem sp_findFirstOps (hI : jInj X T0) (hc8 : M 12 8 = nI n) (h13 : ∀ k, k < n → M 13 k = nI (so k)) (hn : n ≤ 32) (hso : ∀ k, k < n → so k ≤ 5)
    (h : ∀ f : Nat → Int32, (∀ i, i < pq so n → f i = nI (pit so 0 i n)) → Q (some (.int (nI (pq so n)))) (jSC M 53 f)) : jOk X T0 d q_X4_findFirstOps [.ref 48] M Q := by
  refine v_X4_findFirstOps hI _ _ ?_
  have key : ∀ k, k ≤ n → pct so 0 k ≤ 6 → ∀ f : Nat → Int32, (∀ i, i < pct so 0 k → f i = nI (pit so 0 i n)) → jRun X T0 d q_X4_findFirstOps (4, [.ref 48, .int (nI (pct so 0 k)), .int (nI k)], [], jSC M 53 f) Q := by
    have hM : ∀ f : Nat → Int32, jSC M 53 f 12 = M 12 ∧ jSC M 53 f 13 = M 13 := fun f => ⟨jSC_n (by decide), jSC_n (by decide)⟩
    refine jUp ?_ ?_
    · intro h6 f hf
      have e : pq so n = pct so 0 n := by unfold pq; rw [if_neg (by omega)]
      refine v_X4_findFirstOps_4 _ _ _ _ ⟨fun _ => ?_, fun g => absurd ?_ g⟩
      · rw [← e]
        exact h f (fun i hi => hf i (by omega))
      · rw [(hM f).1, hc8]; exact nI_le (Nat.le_refl _) (by omega)
    · intro k hk ih h6 f hf
      have h5 := hso k hk
      refine v_X4_findFirstOps_4 _ _ _ _ ⟨fun g => absurd g ?_, fun _ => ⟨fun g => ?_, fun g => ⟨vp_in_nI (by omega) (by decide), ?_⟩⟩⟩
      · rw [(hM f).1, hc8]; exact nI_ge hk (by omega)
      · rw [show (6 : Int32) = nI 6 from rfl, nI_leI (by decide) (by omega)] at g
        have hmono : pct so 0 k ≤ pct so 0 n := fb_ct_mono _ (by omega)
        have e : pq so n = 6 := by unfold pq; split <;> omega
        rw [show pct so 0 k = pq so n by omega]
        exact h f (fun i hi => hf i (by omega))
      · rw [show (6 : Int32) = nI 6 from rfl, nI_leI (by decide) (by omega)] at g
        rw [nI_cl (by omega), nI_cl (by omega), (hM f).2, h13 k hk]
        have e1 : pct so 0 (k + 1) = pct so 0 k + (if so k = 0 then 1 else 0) := by simp [pct, fb_ct_succ]
        refine ⟨fun g2 => ?_, fun g2 => ⟨vp_in_nI (by omega) (by decide), fun M1 e2 => ?_⟩⟩
        · have hne : so k ≠ 0 := fun q => g2 (by rw [q]; rfl)
          rw [if_neg hne, Nat.add_zero] at e1
          rw [e1] at ih
          rw [nI_1]
          exact ih h6 f hf
        · have h0 : so k = 0 := nI_inj (by omega) (by decide) g2
          rw [if_pos h0] at e1
          rw [jP_sc] at e2
          subst e2
          rw [nI_1, nI_1]
          rw [e1] at ih
          refine ih (by omega) _ (fun i hi => ?_)
          by_cases e3 : i = pct so 0 k
          · subst e3
            simp [upd]
            rw [pit_eq hk h0]
          · rw [show upd f (pct so 0 k) (nI k) i = f i by simp [upd, e3]]
            exact hf i (by omega)
  have h0 := key 0 (Nat.zero_le _) (Nat.zero_le _) (M 53) (fun i hi => absurd hi (Nat.not_lt_zero i))
  have e : jSC M 53 (M 53) = M := by
    funext c
    by_cases h1 : c = 53
    · subst h1; rw [jSC_s]
    · rw [jSC_n h1]
  rw [e] at h0
  exact h0
theorem sp_allOdds (hI : jInj X T0) (h9 : M 12 9 = nI (pct so 0 n)) (hn : n ≤ 32) (h : Q (some (.int (nI (10 ^ pq so n)))) M) : jOk X T0 (d + 1) q_X4_allOdds [.ref 48] M Q := by
  have hle : pct so 0 n ≤ n := fb_ct_le _ _
  refine v_X4_allOdds hI _ _ ?_
  rw [h9]
  have e : (if (6 : Int32) < nI (pct so 0 n) then 6 else nI (pct so 0 n)) = nI (pq so n) := by
    unfold pq
    by_cases g : 6 < pct so 0 n
    · rw [if_pos g, if_pos (show (6 : Int32) < nI (pct so 0 n) from nI_lt (a := 6) g (by omega))]
      rfl
    · rw [if_neg g, if_neg (fun q => g (by rw [show (6 : Int32) = nI 6 from rfl, nI_ltI (by decide) (by omega)] at q; exact q))]
  rw [e]
  have := pq_le (so := so) (n := n)
  exact sp_power (b := 10) hI (by omega) ⟨_, rfl, h⟩
theorem sp_oddsOfLong (hI : jInj X T0) {j x : Nat} (hc : jCtx M so V n rc 22 23) (hw : jWf so V n rc) (h60 : ∀ k, k < n → so k = 0 → V k ≤ 60) (hj : j < pct so 2 n) (hx : x < 11)
    (h : ∀ M', jFs M M' → Q (some (.int (nI (pabv so V n rc j x (2 ^ pq so n))))) M') : jOk X T0 (d + 4) q_X4_oddsOfLong [.ref 48, .ref 22, .int (nI j), .int (nI x)] M Q := by
  have hn := hw.1.1
  have hj10 := hw.1.2.2.1
  have hp : 2 ^ pct so 2 n ≤ 2 ^ 10 := Nat.pow_le_pow_right (by decide) hj10
  have hV := hw.2.2.1.1
  have hv : jLS 51 52 49 50 := Or.inr (Or.inr (Or.inr ⟨rfl, rfl, rfl, rfl⟩))
  have hq6 := pq_le (so := so) (n := n)
  have hqc := pq_ct (so := so) (n := n)
  have h2q : 2 ^ pq so n ≤ 2 ^ 6 := Nat.pow_le_pow_right (by decide) hq6
  have h10 := p10 hq6
  refine v_X4_oddsOfLong hI _ _ _ _ (sp_tried hI hc hn (fun M1 f1 z1 p1 i1 r1 => ⟨rfl, ?_⟩))
  refine sp_findFirstOps (so := so) (n := n) hI (by rw [f1 12 (by decide)]; exact hc.1.1) (by rw [f1 13 (by decide)]; exact hc.2.1.1) hn hw.2.1.1 (fun ff hff => ⟨_, rfl, ?_⟩)
  have key : ∀ s, s ≤ 2 ^ pq so n → ∀ M2, jFs M M2 → (∀ i, i < pq so n → M2 53 i = nI (pit so 0 i n)) → (∀ k, k < n → so k = 0 → 6 ≤ pct so 0 k → M2 50 k = nI (V k)) → M2 49 1 = nI (V 32) → M2 49 2 = nI (pis V) → M2 49 3 = nI rc →
      jRun X T0 (d + 4) q_X4_oddsOfLong (20, [.ref 48, .ref 22, .int (nI j), .int (nI x), .int (nI (pq so n)), .int (nI (pabv so V n rc j x s)), .int (nI s), .null], [], M2) Q := by
    refine jUp ?_ ?_
    · intro M2 f2 _ _ _ _ _
      refine v_X4_oddsOfLong_20 _ _ _ _ _ _ _ ?_
      rw [jshl1 _ (by omega)]
      exact ⟨fun _ => h M2 f2, fun g => absurd (nI_le (Nat.le_refl _) (by omega)) g⟩
    · intro s hs ih M2 f2 o2 b2 p2 i2 r2
      refine v_X4_oddsOfLong_20 _ _ _ _ _ _ _ ?_
      rw [jshl1 _ (by omega)]
      refine ⟨fun g => absurd g (nI_ge hs (by omega)), fun _ => ?_⟩
      have inner : ∀ t, t ≤ pq so n → ∀ M3, jFs M M3 → (∀ i, i < pq so n → M3 53 i = nI (pit so 0 i n)) → (∀ k, k < n → so k = 0 → 6 ≤ pct so 0 k → M3 50 k = nI (V k)) → (∀ k, k < n → so k = 0 → pct so 0 k < t → M3 50 k = nI (pvo so V n s k)) → M3 49 1 = nI (V 32) → M3 49 2 = nI (pis V) → M3 49 3 = nI rc →
          jRun X T0 (d + 4) q_X4_oddsOfLong (32, [.ref 48, .ref 22, .int (nI j), .int (nI x), .int (nI (pq so n)), .int (nI (pabv so V n rc j x s)), .int (nI s), .int (nI t)], [], M3) Q := by
        refine jUp ?_ ?_
        · intro M3 f3 o3 b3 t3 p3 i3 r3
          refine v_X4_oddsOfLong_32 _ _ _ _ _ _ _ _ ⟨fun _ => ?_, fun g => absurd (nI_le (Nat.le_refl _) (by omega)) g⟩
          have oV : ∀ k, 32 ≤ k → pvo so V n s k = V k := fun k hk => pvo_other (fun q => by omega)
          have hx3 : jCtx M3 so (pvo so V n s) n rc 49 50 := hc.tried f3 (fun k _ h0 => pvo_other (fun _ => h0)) (fun k hk h0 => ?_) (by rw [p3, oV 32 (by omega)]) (by rw [i3]; unfold pis; rw [oV 33 (by omega), oV 34 (by omega), oV 35 (by omega)]) r3
          · have hw3 := hw.odds h60 (s := s)
            have e32 : pvo so V n s 32 = V 32 := oV 32 (by omega)
            rw [p3]
            refine sp_grow2 hI hv hx3 hw3 hV (fun M4 fr4 l4 _ => ⟨rfl, ?_⟩)
            have f4 := f3.fr fr4
            have hgl := pgrow_lt2 (so := so) (V := pvo so V n s) (n := n) (rc := rc) (f := 10) hV
            have hbl := pbc_lim (pq so n) (by omega) s hs
            have oth : ∀ c, c = 53 ∨ c = 50 ∨ c = 49 → M4 c = M3 c := fun c hc => fr4.other (by omega) (by omega)
            have next : ∀ M5 v, M5 = M4 → v = nI (pabv so V n rc j x (s + 1)) → jRun X T0 (d + 4) q_X4_oddsOfLong (20, [.ref 48, .ref 22, .int (nI j), .int (nI x), .int (nI (pq so n)), .int v, .int (nI s + 1), .null], [], M5) Q := by
              intro M5 v e5 ev
              subst e5; subst ev
              rw [nI_1]
              exact ih M5 f4 (by rw [oth 53 (by omega)]; exact o3) (by rw [oth 50 (by omega)]; exact b3) (by rw [oth 49 (by omega)]; exact p3) (by rw [oth 49 (by omega)]; exact i3) (by rw [oth 49 (by omega)]; exact r3)
            refine sp_bitCount hI (by omega) ⟨_, rfl, ?_⟩
            refine sp_isLong hI hv l4.1 (by omega) (by omega) ⟨_, rfl, fun g => next _ _ rfl ?_, fun g => ?_⟩
            · have g1 := jBI_0.mp g
              congr 1
              show _ = fb_sm _ (s + 1)
              rw [fb_sm_succ, show plg so V n rc j s = false from g1]
              rfl
            · have g1 := jnb g
              rw [show (10 : Int32) - nI x = nI (10 - x) by rw [show (10 : Int32) = nI 10 from rfl, pk_sub (by omega)], pk_sub hbl.1]
              refine sp_power hI (by omega) ⟨_, rfl, sp_power hI (by omega) ⟨_, rfl, next _ _ rfl ?_⟩⟩
              rw [pk_mul, nI_add]
              congr 1
              show _ = fb_sm _ (s + 1)
              rw [fb_sm_succ, show plg so V n rc j s = true from g1]
              rfl
          · by_cases h6 : pct so 0 k < 6
            · refine t3 k hk h0 ?_
              have := pct_lt (n := n) hk h0
              unfold pq
              split <;> omega
            · rw [b3 k hk h0 (by omega)]
              unfold pvo
              rw [if_neg (fun q => h6 q.2.2)]
        · intro t ht ih3 M3 f3 o3 b3 t3 p3 i3 r3
          obtain ⟨k1, k2, k3⟩ := pit_spec (so := so) (s := 0) (j := t) n (by omega)
          have hVk := h60 _ k3 k1
          refine v_X4_oddsOfLong_32 _ _ _ _ _ _ _ _ ⟨fun g => absurd g (nI_ge ht (by omega)), fun _ => ?_⟩
          rw [nI_cl (by omega), o3 t ht, nI_cl (by omega), jbit (by omega) (by omega), show M3 23 = M 23 from f3 23 (by decide), hc.2.2.2.1 _ k3 k1, nI_add]
          refine ⟨vp_in_nI (by omega) (by decide), vp_in_nI (by omega) (by decide), fun M6 e6 => ?_⟩
          have epv : pvo so V n s (pit so 0 t n) = V (pit so 0 t n) + (if s.testBit t then 1 else 0) := by
            unfold pvo
            rw [if_pos ⟨k3, k1, by omega⟩, k2]
          rw [← epv] at e6
          have f6 : jFs M M6 := by subst e6; exact f3.put (by decide)
          have n6 : ∀ c, c ≠ 50 → M6 c = M3 c := fun c hc => by subst e6; exact jP_n hc
          have u6 : ∀ k, M6 50 k = if k = pit so 0 t n then nI (pvo so V n s (pit so 0 t n)) else M3 50 k := fun k => by subst e6; rw [jP_s]; rfl
          rw [nI_1]
          refine ih3 M6 f6 (by rw [n6 53 (by decide)]; exact o3) (fun k hk h0 h6 => ?_) (fun k hk h0 hlt => ?_) (by rw [n6 49 (by decide)]; exact p3) (by rw [n6 49 (by decide)]; exact i3) (by rw [n6 49 (by decide)]; exact r3)
          · rw [u6, if_neg (fun q => by rw [q, k2] at h6; omega)]
            exact b3 k hk h0 h6
          · rw [u6]
            by_cases e : k = pit so 0 t n
            · rw [if_pos e, e]
            · rw [if_neg e]
              refine t3 k hk h0 ?_
              have : pct so 0 k ≠ t := fun q => e (by rw [← q, pit_eq hk h0])
              omega
      exact inner 0 (Nat.zero_le _) M2 f2 o2 b2 (fun k _ _ hlt => absurd hlt (Nat.not_lt_zero _)) p2 i2 r2
  refine key 0 (Nat.zero_le _) _ (f1.sc (by decide)) (fun i hi => by rw [jSC_s]; exact hff i hi) (fun k hk h0 _ => ?_) ?_ ?_ ?_
  · rw [jSC_n (by decide), z1 k (by omega)]; exact hc.2.2.2.1 k hk h0
  · rw [jSC_n (by decide)]; exact p1
  · rw [jSC_n (by decide)]; exact i1
  · rw [jSC_n (by decide)]; exact r1
end JO3
