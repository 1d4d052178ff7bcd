section JGB
variable {X : jX} {d : Nat} {M M0 : jMem} {Q : Option Value → jMem → Prop} {so V : Nat → Nat} {n rc : Nat} {fw : Int32}
theorem mq_fewest (hI : jInj X T0) {b : Int32} (hc : mCtx M so V n rc) (hw : jWf so V n rc)
    (h : ∀ M', mFz M M' → Q (some (.int (ffew so V n rc b))) M') : jOk X T0 (d + 6) q_X8_fewest [.ref 54, .int b] M Q := by
  have h5 := hw.1.2.2.2.2
  refine v_X8_fewest hI _ _ _ (fun M1 e1 => ?_)
  refine sp_in hI ⟨_, rfl, ?_⟩
  rw [jin_i (l := 0) (u := 1) (lo := 0) (hi := 1) rfl rfl]
  have f1 : mFz M M1 := by subst e1; exact mFz.t0
  refine ⟨fun g => ?_, fun g => by
    have := h M1 f1
    rw [ffew, jBI_0.mp g] at this
    exact this⟩
  have hb := jnb g
  rw [show ffew so V n rc b = (match pfew so V n rc with
    | none => -9
    | some s => if b = 0 then nI (pbc s) else nI s) from if_pos hb] at h
  -- the islands are saved
  have save : ∀ t, t ≤ 3 → ∀ M2, mFz M M2 → (∀ i, i < t → M2 70 i = M 57 (33 + i)) → jRun X T0 (d + 6) q_X8_fewest (19, [.ref 54, .int b, .int (nI t), .null], [], M2) Q := by
    refine jUp ?_ ?_
    · intro M2 f2 h2
      refine v_X8_fewest_19 _ _ _ _ ⟨fun _ => ?_, fun g => absurd (by decide) g⟩
      have hc2 := f2.ctx hc
      -- given back
      have give : ∀ w : Option Nat, pfew so V n rc = w → ∀ t, t ≤ 3 → ∀ M3, mSS M2 M3 V → (∀ i, i < t → M3 57 (33 + i) = M 57 (33 + i)) → jRun X T0 (d + 6) q_X8_fewest (75, [.ref 54, .int b, .int (pmi w), .int (nI t)], [], M3) Q := by
        intro w hwr
        refine jUp ?_ ?_
        · intro M3 hS3 h3
          have f3 : mFz M M3 := by
            refine ⟨fun c a e f => ?_, fun k a e f => by rw [hS3.2.1 k e f]; exact f2.2 k a e f⟩
            by_cases h57 : c = 57
            · subst h57
              funext k
              by_cases hk : k < 33 ∨ 35 < k
              · rw [hS3.2.2 k hk, f2.1 57 (by decide) (by decide) (by decide)]
              · have := h3 (k - 33) (by omega)
                rw [show 33 + (k - 33) = k by omega] at this
                exact this
            · rw [hS3.1 c a h57 e]; exact f2.1 c a e f
          have hh := h M3 f3
          rw [hwr] at hh
          refine v_X8_fewest_75 _ _ _ _ _ ⟨fun _ => ?_, fun g => absurd (by decide) g⟩
          cases w with
          | none => exact ⟨fun _ => hh, fun g => absurd rfl g⟩
          | some s =>
            have hs := pfew_psk h5 hwr
            refine ⟨fun g => absurd (show pmi (some s) < 0 by rw [g]; decide) (nI_pos (psk_lt hs)), fun _ => ⟨fun g => ?_, fun g => ?_⟩⟩
            · have b0 : b = 0 := by
                have hb2 := of_decide_eq_true hb
                have e1 := hb2.1
                have e2 := hb2.2
                rw [fa_le] at e1 e2
                rw [fa_eq] at g ⊢
                have x1 : (1 : Int32).toInt = 1 := by decide
                have x0 : (0 : Int32).toInt = 0 := by decide
                omega
              dsimp only at hh
              rw [if_pos b0] at hh
              exact sp_bits hI (psk_lt hs) ⟨_, rfl, hh⟩
            · dsimp only at hh
              rw [if_neg (by rw [g]; decide)] at hh
              exact hh
        · intro t ht ih M3 hS3 h3
          refine v_X8_fewest_75 _ _ _ _ _ ⟨fun g => absurd g (nI_ge (b := 3) ht (by decide)), fun _ => ?_⟩
          rw [show (33 : Int32) = nI 33 from rfl, nI_add, nI_cl (by omega), nI_cl (by omega)]
          refine ⟨vp_in_nI ht (by decide), vp_in_nI (by omega) (by decide), fun M4 e4 => ?_⟩
          rw [nI_1]
          refine ih M4 (by subst e4; exact hS3.put (by omega)) (fun i hi => ?_)
          subst e4
          rw [jP_s]
          by_cases e : i = t
          · subst e
            simp only [upd, if_true]
            rw [hS3.1 70 (by decide) (by decide) (by decide), h2 i ht]
          · simp only [upd]
            rw [if_neg (by omega)]
            exact h3 i (by omega)
      -- the tries
      obtain ⟨R, hR⟩ : ∃ R, R = pfew so V n rc := ⟨_, rfl⟩
      have hR2 : R = pfind (fun m => pfl (pok so V n rc) (pal so V n) m 0 (8 * pct so 5 n)) 4 0 := hR
      have key : ∀ m, m ≤ 4 → ∀ M3, mSS M2 M3 V → R = pfind (fun m => pfl (pok so V n rc) (pal so V n) m 0 (8 * pct so 5 n)) (4 - m) m →
          jRun X T0 (d + 6) q_X8_fewest (50, [.ref 54, .int b, .int (-9), .int (nI m)], [], M3) Q := by
        refine jUp ?_ ?_
        · intro M3 hS3 e
          refine v_X8_fewest_50 _ _ _ _ _ ⟨fun _ => ?_, fun g => absurd (by decide) g⟩
          exact give none (by rw [← hR]; exact e) 0 (Nat.zero_le _) M3 hS3 (fun i hi => absurd hi (Nat.not_lt_zero i))
        · intro m hm ih M3 hS3 e
          rw [show 4 - m = (4 - (m + 1)) + 1 by omega] at e
          refine v_X8_fewest_50 _ _ _ _ _ ⟨fun g => absurd g (nI_ge (b := 4) hm (by decide)), fun _ => ⟨fun g => absurd rfl g, fun _ => ?_⟩⟩
          refine sp_serving hI hm hc2 hw hS3 (fun M4 hS4 => ⟨_, rfl, ?_⟩)
          cases hr : pfl (pok so V n rc) (pal so V n) m 0 (8 * pct so 5 n) with
          | none =>
            rw [pfind_n (f := fun m => pfl (pok so V n rc) (pal so V n) m 0 (8 * pct so 5 n)) (b := m) hr] at e
            rw [nI_1]
            exact ih M4 hS4 e
          | some r =>
            rw [pfind_s (f := fun m => pfl (pok so V n rc) (pal so V n) m 0 (8 * pct so 5 n)) (b := m) (r := r) hr] at e
            have hs := pfew_psk h5 (by rw [← hR]; exact e)
            have gv := give (some r) (by rw [← hR]; exact e) 0 (Nat.zero_le _) M4 hS4 (fun i hi => absurd hi (Nat.not_lt_zero i))
            refine v_X8_fewest_50 _ _ _ _ _ ⟨fun _ => gv, fun _ => ⟨fun _ => gv, fun g => absurd (show pmi (some r) < 0 by rw [g]; decide) (nI_pos (psk_lt hs))⟩⟩
      exact key 0 (Nat.zero_le _) M2 mSS.rf hR2
    · intro t ht ih M2 f2 h2
      refine v_X8_fewest_19 _ _ _ _ ⟨fun g => absurd g (nI_ge (b := 3) ht (by decide)), fun _ => ?_⟩
      rw [show (33 : Int32) = nI 33 from rfl, nI_add, nI_cl (by omega), nI_cl (by omega)]
      refine ⟨vp_in_nI (by omega) (by decide), vp_in_nI ht (by decide), fun M4 e4 => ?_⟩
      rw [nI_1]
      refine ih M4 (by subst e4; exact ⟨fun c a e f => by rw [jP_n f]; exact f2.1 c a e f, fun k a e f => by rw [jP_n (by decide)]; exact f2.2 k a e f⟩) (fun i hi => ?_)
      subst e4
      rw [jP_s]
      by_cases e : i = t
      · subst e
        simp only [upd, if_true]
        rw [f2.1 57 (by decide) (by decide) (by decide)]
      · simp only [upd]
        rw [if_neg (by omega)]
        exact h2 i (by omega)
  exact save 0 (Nat.zero_le _) M1 f1 (fun i hi => absurd hi (Nat.not_lt_zero i))
end JGB
