section JFX
variable {X : jX} {d : Nat} {M M0 : jMem} {Q : Option Value → jMem → Prop} {so V : Nat → Nat} {n rc : Nat} {fw : Int32}
def pfind (f : Nat → Option Nat) : Nat → Nat → Option Nat
  | 0, _ => none
  | c + 1, b => match f b with
    | some r => some r
    | none => pfind f c (b + 1)
theorem pfind_s {f : Nat → Option Nat} {c b r : Nat} (h : f b = some r) : pfind f (c + 1) b = some r := by simp only [pfind, h]
theorem pfind_n {f : Nat → Option Nat} {c b : Nat} (h : f b = none) : pfind f (c + 1) b = pfind f c (b + 1) := by simp only [pfind, h]
theorem pfind_cong {f g : Nat → Option Nat} : ∀ c b, (∀ i, b ≤ i → i < b + c → f i = g i) → pfind f c b = pfind g c b
  | 0, _, _ => rfl
  | c + 1, b, h => by
    simp only [pfind]
    rw [h b (Nat.le_refl _) (by omega), pfind_cong c (b + 1) (fun i h1 h2 => h i (by omega) (by omega))]
def pfl (ok al : Nat → Bool) : Nat → Nat → Nat → Option Nat
  | 0, isl, _ => if ok isl then some isl else none
  | m + 1, isl, below => pfind (fun b => if al b then pfl ok al m (isl ||| 2 ^ b) b else none) below 0
def pfew (so V : Nat → Nat) (n rc : Nat) : Option Nat := pfind (fun m => pfl (pok so V n rc) (pal so V n) m 0 (8 * pct so 5 n)) 4 0
theorem pmi_neg {o : Option Nat} (h : ∀ b, o = some b → b < 2 ^ 31) : (pmi o < 0 ↔ o = none) := by
  cases o with
  | none => exact ⟨fun _ => rfl, fun _ => by decide⟩
  | some b => exact ⟨fun q => absurd q (nI_pos (h b rfl)), fun q => by cases q⟩
theorem pfind_some {f : Nat → Option Nat} {r : Nat} : ∀ c b, pfind f c b = some r → ∃ i, b ≤ i ∧ i < b + c ∧ f i = some r
  | 0, b, h => by cases h
  | c + 1, b, h => by
    simp only [pfind] at h
    split at h
    · rename_i r' hr
      cases h
      exact ⟨b, Nat.le_refl _, by omega, hr⟩
    · obtain ⟨i, h1, h2, h3⟩ := pfind_some c (b + 1) h
      exact ⟨i, by omega, by omega, h3⟩
theorem pfl_psk {ok : Nat → Bool} : ∀ m isl below r, psk so V n isl → below ≤ 24 → pfl ok (pal so V n) m isl below = some r → psk so V n r
  | 0, isl, below, r, hs, _, h => by
    simp only [pfl] at h
    split at h
    · cases h; exact hs
    · cases h
  | m + 1, isl, below, r, hs, hb, h => by
    simp only [pfl] at h
    obtain ⟨i, h1, h2, h3⟩ := pfind_some _ _ h
    split at h3
    · rename_i ha
      exact pfl_psk m _ _ r (psk_or hs (by omega) ha) (by omega) h3
    · cases h3
theorem psk_lt {s : Nat} (h : psk so V n s) : s < 2 ^ 31 := Nat.lt_of_lt_of_le h.1 (by decide)
theorem sp_leastWith (hI : jInj X T0) (hc : jCtx M0 so V n rc 22 23) (hw : jWf so V n rc) : ∀ (m : Nat), m < 4 → ∀ (isl below : Nat) (M : jMem) (Q : Option Value → jMem → Prop), psk so V n isl → below ≤ 8 * pct so 5 n → jSS M0 M so V n rc →
    (∀ M', jSS M0 M' so V n rc → Q (some (.int (pmi (pfl (pok so V n rc) (pal so V n) m isl below)))) M') → jOk X T0 (d + 5 + m) q_X4_leastWith [.ref 48, .int (nI isl), .int (nI below), .int (nI m)] M Q := by
  have hn := hw.1.1
  have h5 := hw.1.2.2.2.2
  intro m
  induction m with
  | zero =>
    intro _ isl below M Q hs hb hS h
    refine v_X4_leastWith hI _ _ _ _ _ ⟨fun g => absurd g (by decide), fun _ => ?_⟩
    refine sp_servesAllBy hI hc hw hs hS (fun M1 hS1 => ⟨_, rfl, fun g => ?_, fun g => ?_⟩)
    · have := h M1 hS1
      rw [show pfl (pok so V n rc) (pal so V n) 0 isl below = none by simp only [pfl, jBI_0.mp g]; rfl] at this
      exact this
    · have := h M1 hS1
      rw [show pfl (pok so V n rc) (pal so V n) 0 isl below = some isl by simp only [pfl, jnb g]; rfl] at this
      exact this
  | succ m ih =>
    intro hm isl below M Q hs hb hS h
    refine v_X4_leastWith hI _ _ _ _ _ ⟨fun _ => ?_, fun g => absurd (nI_lt (a := 0) (show 0 < m + 1 by omega) (by omega)) g⟩
    obtain ⟨R, hR⟩ : ∃ R, R = pfl (pok so V n rc) (pal so V n) (m + 1) isl below := ⟨_, rfl⟩
    rw [← hR] at h
    have hR2 : R = pfind (fun b => if pal so V n b then pfl (pok so V n rc) (pal so V n) m (isl ||| 2 ^ b) b else none) below 0 := hR
    have key : ∀ b, b ≤ below → ∀ M1, jSS M0 M1 so V n rc → R = pfind (fun b => if pal so V n b then pfl (pok so V n rc) (pal so V n) m (isl ||| 2 ^ b) b else none) (below - b) b →
        jRun X T0 (d + 5 + (m + 1)) q_X4_leastWith (22, [.ref 48, .int (nI isl), .int (nI below), .int (nI (m + 1)), .int (nI b), .null], [], M1) Q := by
      refine jUp ?_ ?_
      · intro M1 hS1 e
        refine v_X4_leastWith_22 _ _ _ _ _ _ ⟨fun _ => ?_, fun g => absurd (nI_le (Nat.le_refl _) (by omega)) g⟩
        have := h M1 hS1
        rw [e, Nat.sub_self] at this
        exact this
      · intro b hbb ih2 M1 hS1 e
        have e8 : nI b - nI b / 8 * 8 = nI (b % 8) := by rw [show (8 : Int32) = nI 8 from rfl]; exact pk_rem (by omega) (by decide) (by decide)
        have hstep : below - b = (below - (b + 1)) + 1 := by omega
        rw [hstep] at e
        refine v_X4_leastWith_22 _ _ _ _ _ _ ⟨fun g => absurd g (nI_ge hbb (by omega)), fun _ => ?_⟩
        rw [e8]
        have h17 : M1 17 (b % 8) = nI (pli so V (b % 8) n) - 1 := by rw [hS1.1 17 (by decide)]; exact hc.2.2.1.1 _ (Nat.mod_lt _ (by decide))
        refine sp_hasLabel (so := so) (V := V) (n := n) hI (Nat.mod_lt _ (by decide)) h17 hn ⟨_, rfl, fun g => ?_, fun g => ?_⟩
        · have hal : pal so V n b = true := by
            have := jnb g
            simp only [pal, this, Bool.and_true]
            exact decide_eq_true (by omega)
          have hs2 := psk_or hs (show b < 24 by omega) hal
          rw [jshl1 b (by omega), fa_or, show nI (m + 1) - 1 = nI m from nI_pred m]
          refine ih (by omega) _ b M1 _ hs2 (by omega) hS1 (fun M2 hS2 => ⟨_, rfl, fun g2 => ?_, fun g2 => ?_⟩)
          · rw [pmi_neg (fun r hr => psk_lt (pfl_psk m _ _ r hs2 (by omega) hr))] at g2
            rw [pfind_n (by simp only [hal, if_true]; exact g2)] at e
            rw [nI_1]
            exact ih2 M2 hS2 e
          · rw [pmi_neg (fun r hr => psk_lt (pfl_psk m _ _ r hs2 (by omega) hr))] at g2
            cases hr : pfl (pok so V n rc) (pal so V n) m (isl ||| 2 ^ b) b with
            | none => exact absurd hr g2
            | some r =>
              rw [pfind_s (r := r) (by simp only [hal, if_true]; exact hr)] at e
              have := h M2 hS2
              rw [e] at this
              exact this
        · have hal : pal so V n b = false := by
            have := jBI_0.mp g
            simp only [pal, this, Bool.and_false]
          rw [pfind_n (by simp [hal])] at e
          rw [nI_1]
          exact ih2 M1 hS1 e
    exact key 0 (Nat.zero_le _) M hS (by rw [hR2, Nat.sub_zero])
theorem pfew_psk (h5 : pct so 5 n ≤ 3) {r : Nat} (h : pfew so V n rc = some r) : psk so V n r := by
  obtain ⟨i, h1, h2, h3⟩ := pfind_some _ _ h
  exact pfl_psk i 0 _ r psk0 (by omega) h3
theorem sp_fewestIslands (hI : jInj X T0) (hc : jCtx M so V n rc 22 23) (hw : jWf so V n rc)
    (h : ∀ M', jFs M M' → Q (some (.int (pmi (pfew so V n rc)))) M') : jOk X T0 (d + 9) q_X4_fewestIslands [.ref 48, .ref 22] M Q := by
  have hn := hw.1.1
  have h5 := hw.1.2.2.2.2
  refine v_X4_fewestIslands hI _ _ (sp_tried hI hc hn (fun M1 f1 z1 p1 i1 r1 => ⟨rfl, fun M2 e2 => ?_⟩))
  have f2 : jFs M M2 := by subst e2; exact f1.put (by decide)
  have n2 : ∀ c, c ≠ 48 → M2 c = M1 c := fun c hc => by subst e2; exact jP_n hc
  have hS2 : jSS M M2 so V n rc := ⟨f2, fun k hk h0 => by rw [n2 50 (by decide), z1 k (by omega)]; exact hc.2.2.2.1 k hk h0, by rw [n2 49 (by decide)]; exact p1, by rw [n2 49 (by decide)]; exact r1, Or.inl (by subst e2; rw [jP_s]; simp [upd])⟩
  obtain ⟨R, hR⟩ : ∃ R, R = pfew so V n rc := ⟨_, rfl⟩
  rw [← hR] at h
  have hR2 : R = pfind (fun m => pfl (pok so V n rc) (pal so V n) m 0 (8 * pct so 5 n)) 4 0 := hR
  have key : ∀ m, m ≤ 4 → ∀ M1, jSS M M1 so V n rc → R = pfind (fun m => pfl (pok so V n rc) (pal so V n) m 0 (8 * pct so 5 n)) (4 - m) m →
      jRun X T0 (d + 9) q_X4_fewestIslands (15, [.ref 48, .ref 22, .int (nI m), .null], [], M1) Q := by
    refine jUp ?_ ?_
    · intro M1 hS1 e
      refine v_X4_fewestIslands_15 _ _ _ ⟨fun _ => ?_, fun g => absurd (by decide) g⟩
      have := h M1 hS1.1
      rw [e] at this
      exact this
    · intro m hm ih M1 hS1 e
      rw [show 4 - m = (4 - (m + 1)) + 1 by omega] at e
      refine v_X4_fewestIslands_15 _ _ _ ⟨fun g => absurd g (fun q => by rw [show (3 : Int32) = nI 3 from rfl, nI_ltI (by decide) (by omega)] at q; omega), fun _ => ?_⟩
      rw [show M1 12 = M 12 from hS1.1 12 (by decide), hc.1.2.2.2, show (8 : Int32) = nI 8 from rfl, pk_mul]
      have hd : d + 8 = (d + (3 - m)) + 5 + m := by omega
      have hg := sp_leastWith (d := d + (3 - m)) hI hc hw m (by omega) 0 (8 * pct so 5 n) M1 (fun v M1 => ∃ r1, v = some (.int r1) ∧ ((r1 < 0 → jRun X T0 (d + 8 + 1) q_X4_fewestIslands (15, [.ref 48, .ref 22, .int (nI m + 1), .null], [], M1) Q) ∧ (¬ r1 < 0 → Q (some (.int r1)) M1))) psk0 (Nat.le_refl _) hS1 (fun M3 hS3 => ⟨_, rfl, fun g => ?_, fun g => ?_⟩)
      · rw [← hd] at hg
        exact hg
      · rw [pmi_neg (fun r hr => psk_lt (pfl_psk m 0 _ r psk0 (by omega) hr))] at g
        rw [pfind_n (f := fun m => pfl (pok so V n rc) (pal so V n) m 0 (8 * pct so 5 n)) (b := m) g] at e
        rw [nI_1]
        exact ih M3 hS3 e
      · rw [pmi_neg (fun r hr => psk_lt (pfl_psk m 0 _ r psk0 (by omega) hr))] at g
        cases hr : pfl (pok so V n rc) (pal so V n) m 0 (8 * pct so 5 n) with
        | none => exact absurd hr g
        | some r =>
          rw [pfind_s (f := fun m => pfl (pok so V n rc) (pal so V n) m 0 (8 * pct so 5 n)) (b := m) (r := r) hr] at e
          have := h M3 hS3.1
          rw [e] at this
          exact this
  exact key 0 (Nat.zero_le _) M2 hS2 (by rw [hR2])
def ffew (so V : Nat → Nat) (n rc : Nat) (b : Int32) : Int32 := if decide (0 ≤ b ∧ b ≤ 1) = true then (match pfew so V n rc with
    | none => -9
    | some s => if b = 0 then nI (pbc s) else nI s) else -1
theorem cq_fewest (hI : jInj X T0) {b : Int32} (hc : jCtx M so V n rc 22 23) (hw : jWf so V n rc) (hca : jCa M so V n rc (pmi (pfew so V n rc)))
    (h : ∀ M', jFz M M' → jCa M' so V n rc (pmi (pfew so V n rc)) → Q (some (.int (ffew so V n rc b))) M') : jOk X T0 (d + 10) q_X7_fewest [.ref 0, .int b] M Q := by
  have h5 := hw.1.2.2.2.2
  have ans : ∀ (M2 : jMem) (Qx : Option Value → jMem → Prop), M2 0 10 = pmi (pfew so V n rc) → decide (0 ≤ b ∧ b ≤ 1) = true → Qx (some (.int (ffew so V n rc b))) M2 → ((0 ≤ (M2 0 10) → ((¬ b = 0 → Qx (some (.int (M2 0 10))) M2) ∧ (b = 0 → jOk X T0 (d + 9) q_J6_bitCount_0f7a4 [.int (M2 0 10)] M2 (fun v M1 => ∃ r1, v = some (.int r1) ∧ Qx (some (.int r1)) M1)))) ∧ (¬ 0 ≤ (M2 0 10) → Qx (some (.int (-9))) M2)) := by
    intro M2 Qx e10 hb hq
    rw [e10]
    rw [ffew, if_pos hb] at hq
    cases hr : pfew so V n rc with
    | none =>
      rw [hr] at hq
      exact ⟨fun g => absurd g (by decide), fun _ => hq⟩
    | some s =>
      rw [hr] at hq
      have hs := pfew_psk h5 hr
      refine ⟨fun _ => ⟨fun g => ?_, fun g => ?_⟩, fun g => absurd (nI_pos' (psk_lt hs)) g⟩
      · dsimp only at hq
        rw [if_neg g] at hq
        exact hq
      · dsimp only at hq
        rw [if_pos g] at hq
        exact sp_bitCount hI hs.1 ⟨_, rfl, hq⟩
  have bad : decide (0 ≤ b ∧ b ≤ 1) = false → Q (some (.int (-1))) M := by
    intro hf
    have := h M jFz.rf hca
    rw [ffew, hf] at this
    exact this
  obtain ⟨fd, hfd, h11, hf, h10⟩ := id hca
  refine v_X7_fewest hI _ _ _ ⟨fun g => bad (decide_eq_false (fun q => by rw [fa_lt] at g; have := q.1; rw [fa_le] at this; omega)), fun g => ⟨fun g2 => ?_, fun g2 => bad (decide_eq_false (fun q => g2 q.2))⟩⟩
  have hb : decide (0 ≤ b ∧ b ≤ 1) = true := decide_eq_true ⟨fa_of_nlt g, g2⟩
  rw [h11, show (3 : Int32) = nI 3 from rfl, jbit (by omega) (by decide), jBI_n]
  refine ⟨fun g3 => ans M Q (h10 (jnb g3)) hb (h M jFz.rf hca), fun g3 => ?_⟩
  refine sp_fewestIslands hI hc hw (fun M2 f2 => ⟨_, rfl, fun M3 e3 M4 e4 => ?_⟩)
  have n4 : ∀ c, c ≠ 0 → M4 c = M2 c := fun c hc => by subst e4; subst e3; rw [jP_n hc, jP_n hc]
  have u4 : ∀ k, k ≠ 10 → k ≠ 11 → M4 0 k = M2 0 k := fun k a e => by subst e4; subst e3; rw [jP_s, jP_s]; simp [upd, a, e]
  have t10 : M4 0 10 = pmi (pfew so V n rc) := by subst e4; subst e3; rw [jP_s, jP_s]; simp [upd]
  have t11 : M4 0 11 = nI (fd ||| 2 ^ 3) := by
    subst e4
    rw [jP_s]
    simp only [upd, if_true]
    have : M3 0 11 = nI fd := by subst e3; rw [jP_s]; simp [upd]; rw [f2 0 (by decide)]; exact h11
    rw [this, show (8 : Int32) = nI (2 ^ 3) from rfl, fa_or]
  have hz4 : jFz M M4 := ⟨fun c a e => by rw [n4 c a]; exact f2 c (by omega), fun k a e => by rw [u4 k a e, f2 0 (by decide)]⟩
  have hca2 := f2.ca hca
  have hca4 : jCa M4 so V n rc (pmi (pfew so V n rc)) := by
    obtain ⟨fd2, a2, b2, c2, -⟩ := hca2
    have : fd2 = fd := nI_inj (by omega) (by omega) (by rw [← b2, f2 0 (by decide), h11])
    subst this
    refine ⟨fd2 ||| 2 ^ 3, Nat.or_lt_two_pow (n := 4) a2 (by decide), t11, fun w hw3 hb3 => ?_, fun _ => t10⟩
    rw [jbit_or, decide_eq_false (by omega), Bool.or_false] at hb3
    obtain ⟨x1, x2⟩ := c2 w hw3 hb3
    refine ⟨⟨by rw [n4 _ (by omega)]; exact x1.1, fun k hk => by rw [n4 _ (by omega)]; exact x1.2 k hk⟩, by rw [n4 _ (by omega)]; exact x2⟩
  exact ans M4 Q t10 hb (h M4 hz4 hca4)
end JFX
