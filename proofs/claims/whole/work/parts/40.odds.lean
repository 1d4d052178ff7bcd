section JO5
variable {X : jX} {d : Nat} {M M0 : jMem} {Q : Option Value → jMem → Prop} {so V V' : Nat → Nat} {n rc : Nat} {fw : Int32}
theorem mCtx.vec (hc : mCtx M so V n rc) (hV : ∀ k, k < n → so k ≠ 0 → V' k = V k) {f : Nat → Int32} (hf : ∀ k, k < 36 → f k = nI (V' k)) : mCtx (jSC M 57 f) so V' n rc := by
  have pc := fun x => pli_cong (so := so) hV x n (Nat.le_refl _)
  have o : ∀ c, c ≠ 57 → jSC M 57 f c = M c := fun c h => jSC_n h
  unfold mCtx
  simp only [o 54 (by decide), o 56 (by decide), o 58 (by decide), o 59 (by decide), o 60 (by decide), o 61 (by decide), jSC_s, pc]
  exact ⟨hc.1, ⟨hc.2.1.1, hf⟩, hc.2.2⟩
theorem sp_gcd (hI : jInj X T0) (a1 a2 a3 a4 a5 : Int32) {A B : Nat} (hA : A < 2 ^ 30) (hB0 : 0 < B) (hB : B < 2 ^ 30) (g : Nat) (hg : g = Nat.gcd A B)
    (h : Q (some (.int (if a3 = 0 then nI (A / g) else nI (B / g)))) M) :
    ∀ b a : Nat, a < 2 ^ 30 → b < 2 ^ 30 → Nat.gcd a b = g → jRun X T0 (d + 1) q_X8_odds (203, [.ref 54, .int a1, .int a2, .int a3, .int a4, .int a5, .int (nI A), .int (nI B), .int (nI a), .int (nI b), .null], [], M) Q := by
  have gpos : 0 < g := by rw [hg]; exact Nat.gcd_pos_of_pos_right _ hB0
  have gle : g ≤ B := by rw [hg]; exact Nat.gcd_le_right _ hB0
  intro b
  induction b using Nat.strongRecOn with
  | _ b ih =>
    intro a ha hb e
    refine v_X8_odds_203 _ _ _ _ _ _ _ _ _ _ _ ⟨fun q => ?_, fun q => ⟨q, ?_⟩⟩
    · have hb0 : b = 0 := nI_inj (by omega) (by decide) q
      subst hb0
      rw [Nat.gcd_zero_right] at e
      subst e
      refine ⟨fun z => ⟨nI_ne0 gpos (by omega), ?_⟩, fun z => ⟨nI_ne0 gpos (by omega), ?_⟩⟩
      · rw [if_neg z] at h
        rw [pk_div (by omega) gpos (by omega)]
        exact h
      · rw [if_pos z] at h
        rw [pk_div (by omega) gpos (by omega)]
        exact h
    · have hb0 : b ≠ 0 := fun z => q (by rw [z]; rfl)
      have hm : a % b < b := Nat.mod_lt _ (by omega)
      rw [pk_rem (by omega) (by omega) (by omega)]
      refine ih (a % b) hm b hb (by omega) ?_
      rw [← e, Nat.gcd_comm a b, Nat.gcd_rec b a, Nat.gcd_comm]
theorem mq_odds (hI : jInj X T0) {k x b : Int32} (hc : mCtx M so V n rc) (hw : jWf so V n rc) (h60 : ∀ k, k < n → so k = 0 → V k ≤ 60)
    (h : ∀ M', mFz M M' → Q (some (.int (fodds so V n rc k x b))) M') : jOk X T0 (d + 4) q_X8_odds [.ref 54, .int k, .int x, .int b] M Q := by
  have hn := hw.1.1
  have hj10 := hw.1.2.2.1
  have hp : 2 ^ pct so 2 n ≤ 2 ^ 10 := Nat.pow_le_pow_right (by decide) hj10
  have hV := hw.2.2.1.1
  have hq6 := pq_le (so := so) (n := n)
  have h2q : 2 ^ pq so n ≤ 2 ^ 6 := Nat.pow_le_pow_right (by decide) hq6
  have h10 := p10 hq6
  refine v_X8_odds hI _ _ _ _ _ (fun M1 e1 => ?_)
  have z1 : mFz M M1 := by subst e1; exact mFz.t0
  have hc1 := z1.ctx hc
  have bad : ((pkn n k && decide (so k.toNatClampNeg = 2)) && (decide (0 ≤ x ∧ x ≤ 10) && decide (0 ≤ b ∧ b ≤ 1))) = false → Q (some (.int (-1))) M1 := by
    intro hf
    have := h M1 z1
    rw [fodds, hf] at this
    exact this
  refine sp_misItem hI hc1.1.1 hn ⟨_, rfl, fun g => bad (by rw [show pkn n k = false from jBI_0.mp g]; simp), fun g => ?_⟩
  have hk1 : pkn n k = true := jnb g
  obtain ⟨k, hkn, rfl⟩ := pit_t hk1 hn
  have hs5 := hw.2.1.1 k hkn
  have hb2 : nI (so k) = 2 ↔ so k = 2 := ⟨fun q => nI_inj (b := 2) (by omega) (by decide) q, fun q => by rw [q]; rfl⟩
  rw [nI_cl (by omega), hc1.2.1.1 k hkn]
  refine ⟨vp_in_nI (by omega) (by decide), fun g => bad ?_, fun g => ?_⟩
  · rw [nI_cl (by omega), decide_eq_false (fun q => g (hb2.mpr q)) (p := so k = 2)]; simp
  have hs := hb2.mp g
  have hj := pct_lt (n := n) hkn hs
  refine sp_in hI ⟨_, rfl, ?_⟩
  rw [jin_i (l := 0) (u := 10) (lo := 0) (hi := 10) rfl rfl]
  refine ⟨fun g => bad (by rw [jBI_0.mp g]; simp), fun g => ?_⟩
  have hx := jnb g
  refine sp_in hI ⟨_, rfl, ?_⟩
  rw [jin_i (l := 0) (u := 1) (lo := 0) (hi := 1) rfl rfl]
  refine ⟨fun g => ?_, fun g => bad (by rw [jBI_0.mp g]; simp)⟩
  have hb := jnb g
  obtain ⟨x, hxn, rfl⟩ := jin2 (m := 10) (by decide) hx
  simp only [fodds, hx, hb, nI_cl (show k < 2 ^ 31 by omega), nI_cl (show x < 2 ^ 31 by omega), hk1, hs, decide_true, Bool.and_self, if_true] at h
  obtain ⟨j, hjd⟩ : ∃ j, j = pct so 2 k := ⟨_, rfl⟩
  rw [hc1.1.2.2.1]
  refine sp_numberOf (so := so) (s := 2) (n := n) (len := 10) hI rfl rfl hj10 (by decide) hn hc1.2.2.2.1 hkn hs ⟨_, rfl, ?_⟩
  rw [← hjd] at h hj ⊢
  have hab := pabv_le (so := so) (V := V) (n := n) (rc := rc) (x := x) (by omega) (j := j)
  have at90 : ∀ s, s ≤ 2 ^ pq so n → ∀ M2, mFz M M2 → jRun X T0 (d + 4) q_X8_odds (90, [.ref 54, .int (nI k), .int (nI x), .int b, .int (nI j), .int (nI (pq so n)), .int (nI (pabv so V n rc j x s)), .int (nI (fb_sm (pwx (pq so n) x) s)), .int (nI s), .null, .null], [], M2) Q := by
    refine jUp ?_ ?_
    · intro M2 z2
      refine v_X8_odds_90 _ _ _ _ _ _ _ _ _ _ ?_
      rw [jshl1 _ (by omega), pwx_sum (pq so n) (by omega) x (by omega)]
      refine ⟨fun _ => ?_, fun g => absurd (nI_le (Nat.le_refl _) (by omega)) g⟩
      exact sp_gcd hI _ _ _ _ _ (by omega) (Nat.pow_pos (by decide)) (by omega) _ rfl (h M2 z2) _ _ (by omega) (by omega) rfl
    · intro s hs ih M2 z2
      have hbl := pbc_lim (pq so n) (by omega) s hs
      have hwl := pwx_le (so := so) (n := n) (x := x) (by omega) hs
      refine v_X8_odds_90 _ _ _ _ _ _ _ _ _ _ ?_
      rw [jshl1 _ (by omega)]
      refine ⟨fun g => absurd g (nI_ge hs (by omega)), fun _ => ?_⟩
      have hc2 := z2.ctx hc
      have inner : ∀ i, i ≤ pq so n → jRun X T0 (d + 4) q_X8_odds (105, [.ref 54, .int (nI k), .int (nI x), .int b, .int (nI j), .int (nI (pq so n)), .int (nI (pabv so V n rc j x s)), .int (nI (fb_sm (pwx (pq so n) x) s)), .int (nI s), .int (nI (x ^ fb_ct (fun i => s.testBit i) i * (10 - x) ^ (i - fb_ct (fun i => s.testBit i) i))), .int (nI i)], [], M2) Q := by
        refine jUp ?_ ?_
        · rw [← hbl.2]
          refine v_X8_odds_105 _ _ _ _ _ _ _ _ _ _ _ _ ⟨fun _ => ?_, fun g => absurd (nI_le (Nat.le_refl _) (by omega)) g⟩
          refine sp_growOps (so := so) (n := n) hI (by omega) hc2.1.1 hc2.2.1.1 hn hw.2.1.1 (fun f hf => ⟨rfl, ?_⟩)
          have hfp : ∀ i, i < 36 → f i = nI (pvo so V n s i) := by
            intro i hi
            rw [hf i, hc2.2.1.2 i hi]
            unfold pvo
            by_cases c1 : i < n ∧ so i = 0 ∧ pct so 0 i < 6
            · rw [if_pos c1]
              by_cases c2 : s.testBit (pct so 0 i) = true
              · rw [if_pos ⟨c1.1, c1.2.1, c1.2.2, c2⟩, if_pos c2, nI_1]
              · rw [if_neg (fun q => c2 q.2.2.2), if_neg c2, Nat.add_zero]
            · rw [if_neg c1, if_neg (fun q => c1 ⟨q.1, q.2.1, q.2.2.1⟩)]
          have e32 : pvo so V n s 32 = V 32 := pvo_other (fun q => by omega)
          have hc3 : mCtx (jSC M2 57 f) so (pvo so V n s) n rc := hc2.vec (fun k _ h0 => pvo_other (fun _ => h0)) hfp
          refine sp_mgrow2 hI hc3 (hw.odds h60) (fun M4 fr4 l4 _ => ⟨rfl, ?_⟩)
          rw [e32] at l4
          have hgl := pgrow_lt2 (so := so) (V := pvo so V n s) (n := n) (rc := rc) (f := 10) hV
          have hc4 := fr4.ctx hc3
          refine sp_growOps (so := so) (n := n) hI (by omega) hc4.1.1 hc4.2.1.1 hn hw.2.1.1 (fun f2 hf2 => ⟨rfl, ?_⟩)
          have z5 : mFz M (jSC M4 57 f2) := by
            refine z2.tr ⟨fun c a e r => ?_, fun c a e r => ?_⟩
            · by_cases c57 : c = 57
              · subst c57
                rw [jSC_s]
                funext i
                rw [hf2 i, fr4.other (by decide) (by decide), jSC_s, hf i]
                by_cases c1 : i < n ∧ so i = 0 ∧ pct so 0 i < 6 ∧ s.testBit (pct so 0 i) = true
                · rw [if_pos c1, if_pos c1, Int32.add_assoc]
                  simp
                · rw [if_neg c1, if_neg c1]
              · rw [jSC_n c57, fr4.other a e, jSC_n c57]
            · rw [jSC_n (by decide), fr4.fld e r, jSC_n (by decide)]
          rw [show jSC M4 57 f2 54 30 = nI (pgrow (pstr so (pvo so V n s) n rc) 10 (V 32)).1 by rw [jSC_n (by decide)]; exact l4.1]
          have e7 : nI (fb_sm (pwx (pq so n) x) s) + nI (x ^ pbc s * (10 - x) ^ (pq so n - pbc s)) = nI (fb_sm (pwx (pq so n) x) (s + 1)) := by rw [nI_add, fb_sm_succ]; rfl
          rw [e7]
          refine sp_has hI (by omega) (by omega) ⟨_, rfl, fun g => ?_, fun g => ?_⟩
          · refine v_X8_odds_186 _ _ _ _ _ _ _ _ _ _ _ _ _ _ ?_
            have := ih _ z5
            have e : pabv so V n rc j x (s + 1) = pabv so V n rc j x s := by
              show fb_sm _ (s + 1) = _
              rw [fb_sm_succ, show plg so V n rc j s = false from jBI_0.mp g]
              rfl
            rw [e] at this
            rw [nI_1, show nI (pabv so V n rc j x s) + 0 = nI (pabv so V n rc j x s) by simp]
            exact this
          · refine v_X8_odds_186 _ _ _ _ _ _ _ _ _ _ _ _ _ _ ?_
            have := ih _ z5
            have e : pabv so V n rc j x (s + 1) = pabv so V n rc j x s + x ^ pbc s * (10 - x) ^ (pq so n - pbc s) := by
              show fb_sm _ (s + 1) = _
              rw [fb_sm_succ, show plg so V n rc j s = true from jnb g]
              rfl
            rw [e] at this
            rw [nI_1, nI_add]
            exact this
        · intro i hi ih2
          have hct : fb_ct (fun i => s.testBit i) i ≤ i := fb_ct_le _ _
          rw [fb_ct_succ] at ih2
          refine v_X8_odds_105 _ _ _ _ _ _ _ _ _ _ _ _ ⟨fun g => absurd g (nI_ge hi (by omega)), fun _ => ?_⟩
          refine sp_has hI (by omega) (by omega) ⟨_, rfl, fun g => ?_, fun g => ?_⟩
          · refine v_X8_odds_132 _ _ _ _ _ _ _ _ _ _ _ _ _ _ ?_
            have hz := jBI_0.mp g
            rw [hz] at ih2
            rw [show (10 : Int32) - nI x = nI (10 - x) by rw [show (10 : Int32) = nI 10 from rfl, pk_sub (by omega)], pk_mul, nI_1]
            have e : x ^ fb_ct (fun i => s.testBit i) i * (10 - x) ^ (i - fb_ct (fun i => s.testBit i) i) * (10 - x) = x ^ (fb_ct (fun i => s.testBit i) i + 0) * (10 - x) ^ (i + 1 - (fb_ct (fun i => s.testBit i) i + 0)) := by
              rw [Nat.add_zero, show i + 1 - fb_ct (fun i => s.testBit i) i = (i - fb_ct (fun i => s.testBit i) i) + 1 by omega, Nat.pow_succ, Nat.mul_assoc]
            rw [e]
            exact ih2
          · refine v_X8_odds_132 _ _ _ _ _ _ _ _ _ _ _ _ _ _ ?_
            have hz := jnb g
            rw [hz] at ih2
            rw [pk_mul, nI_1]
            have e : x ^ fb_ct (fun i => s.testBit i) i * (10 - x) ^ (i - fb_ct (fun i => s.testBit i) i) * x = x ^ (fb_ct (fun i => s.testBit i) i + 1) * (10 - x) ^ (i + 1 - (fb_ct (fun i => s.testBit i) i + 1)) := by
              rw [show i + 1 - (fb_ct (fun i => s.testBit i) i + 1) = i - fb_ct (fun i => s.testBit i) i by omega, Nat.pow_succ, Nat.mul_right_comm]
            rw [e]
            exact ih2
      exact inner 0 (Nat.zero_le _)
  have to90 : ∀ v, v = nI (pq so n) → jRun X T0 (d + 4) q_X8_odds (79, [.ref 54, .int (nI k), .int (nI x), .int b, .int (nI j), .null, .null, .null, .null, .null, .null], [.int v], M1) Q := by
    intro v ev
    subst ev
    exact v_X8_odds_79 _ _ _ _ _ _ _ (at90 0 (Nat.zero_le _) M1 z1)
  have hle : pct so 0 n ≤ n := fb_ct_le _ _
  rw [hc1.1.2.2.2.2.2]
  refine ⟨fun g => to90 _ ?_, fun g => to90 _ ?_⟩
  · rw [show (6 : Int32) = nI 6 from rfl, nI_leI (by decide) (by omega)] at g
    rw [show pq so n = 6 by unfold pq; split <;> omega]
    rfl
  · rw [show (6 : Int32) = nI 6 from rfl, nI_leI (by decide) (by omega)] at g
    rw [show pq so n = pct so 0 n by unfold pq; rw [if_neg (by omega)]]
end JO5
