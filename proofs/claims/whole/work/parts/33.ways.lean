section JWA
variable {X : jX} {d : Nat} {M M0 : jMem} {Q : Option Value → jMem → Prop} {so V : Nat → Nat} {n rc : Nat} {fw : Int32}
/-- which jumps are long by a way, and its rounds -/
def plw (so V : Nat → Nat) (n rc w : Nat) : Nat × Nat := if w = 0 then pgrow (pstr so V n rc) 10 (V 32) else if w = 1 then pshr so V n rc 10 (2 ^ pct so 2 n - 1) 0 else (pleast so V n rc, 0)
def jCa (M : jMem) (so V : Nat → Nat) (n rc : Nat) (fw : Int32) : Prop := ∃ fd, fd < 16 ∧ M 0 11 = nI fd ∧ (∀ w, w < 3 → fd.testBit w = true → jLaid M (42 + 2 * w) (43 + 2 * w) so V n (plw so V n rc w).1 ∧ M (42 + 2 * w) 3 = nI (plw so V n rc w).2) ∧ (fd.testBit 3 = true → M 0 10 = fw)
/-- nothing changed but what is found of layouts, and by the search -/
def jFz (M M' : jMem) : Prop := (∀ c, c ≠ 0 → (c < 42 ∨ 53 < c) → M' c = M c) ∧ (∀ k, k ≠ 10 → k ≠ 11 → M' 0 k = M 0 k)
theorem jFz.rf : jFz M M := ⟨fun _ _ _ => rfl, fun _ _ _ => rfl⟩
theorem jFz.tr {M1 M2 : jMem} (h : jFz M M1) (h2 : jFz M1 M2) : jFz M M2 := ⟨fun c a b => (h2.1 c a b).trans (h.1 c a b), fun k a b => (h2.2 k a b).trans (h.2 k a b)⟩
theorem jFz.ctx (h : jFz M0 M) (hc : jCtx M0 so V n rc 22 23) : jCtx M so V n rc 22 23 := by
  unfold jCtx
  simp only [h.1 12 (by decide) (by decide), h.1 13 (by decide) (by decide), h.1 14 (by decide) (by decide), h.1 15 (by decide) (by decide), h.1 16 (by decide) (by decide), h.1 17 (by decide) (by decide), h.1 18 (by decide) (by decide), h.1 19 (by decide) (by decide), h.1 20 (by decide) (by decide), h.1 22 (by decide) (by decide), h.1 23 (by decide) (by decide)]
  exact hc
theorem jLSw {w : Nat} (h : w < 3) : jLS (42 + 2 * w) (43 + 2 * w) 22 23 := by
  rcases (show w = 0 ∨ w = 1 ∨ w = 2 by omega) with rfl | rfl | rfl
  · exact Or.inl ⟨rfl, rfl, rfl, rfl⟩
  · exact Or.inr (Or.inl ⟨rfl, rfl, rfl, rfl⟩)
  · exact Or.inr (Or.inr (Or.inl ⟨rfl, rfl, rfl, rfl⟩))
theorem pshr_lt : ∀ f lo held, lo < 2 ^ pct so 2 n → (pshr so V n rc f lo held).1 < 2 ^ pct so 2 n
  | 0, lo, held, h => h
  | f + 1, lo, held, h => by
    by_cases hz : pmade so V n rc lo held = 0
    · rw [pshr_z hz]; exact h
    · rw [pshr_s hz]
      exact pshr_lt f _ _ (pgrow_lt2 (pdiff_lt h))
theorem plw_lt (hw : jWf so V n rc) {w : Nat} (h : w < 3) : (plw so V n rc w).1 < 2 ^ pct so 2 n := by
  have hp1 : 1 ≤ 2 ^ pct so 2 n := Nat.one_le_two_pow
  unfold plw
  rcases (show w = 0 ∨ w = 1 ∨ w = 2 by omega) with rfl | rfl | rfl
  · exact pgrow_lt2 hw.2.2.1.1
  · exact pshr_lt _ _ _ (by omega)
  · exact pcb_lt _ (Nat.le_refl _)
theorem jFr.laid {L A L' A' lo : Nat} (h : jFr L A M0 M) (h1 : L' ≠ L) (h2 : L' ≠ A) (h3 : A' ≠ L) (h4 : A' ≠ A) (hl : jLaid M0 L' A' so V n lo) : jLaid M L' A' so V n lo := by
  refine ⟨?_, fun k hk => ?_⟩
  · rw [h.other h1 h2]; exact hl.1
  · rw [h.other h3 h4]; exact hl.2 k hk
theorem jbit_or {a w j : Nat} : (a ||| 2 ^ w).testBit j = (a.testBit j || decide (w = j)) := by rw [Nat.testBit_or, Nat.testBit_two_pow]
theorem sp_layoutOf (hI : jInj X T0) {w : Nat} (hwy : w < 3) (hc : jCtx M so V n rc 22 23) (hw : jWf so V n rc) (hca : jCa M so V n rc fw)
    (h : ∀ M', jFz M M' → jCa M' so V n rc fw → jLaid M' (42 + 2 * w) (43 + 2 * w) so V n (plw so V n rc w).1 → M' (42 + 2 * w) 3 = nI (plw so V n rc w).2 → Q (some (.ref (42 + 2 * w))) M') : jOk X T0 (d + 5) q_X7_layoutOf [.ref 0, .int (nI w)] M Q := by
  obtain ⟨fd, hfd, h11, hf, h10⟩ := hca
  have hp : 2 ^ pct so 2 n ≤ 2 ^ 10 := Nat.pow_le_pow_right (by decide) hw.1.2.2.1
  have hlt := plw_lt hw hwy
  have e0 : nI w = 0 ↔ w = 0 := ⟨fun q => nI_inj (by omega) (by decide) q, fun q => by rw [q]; rfl⟩
  have e1 : nI w = 1 ↔ w = 1 := ⟨fun q => nI_inj (b := 1) (by omega) (by decide) q, fun q => by rw [q]; rfl⟩
  have hv := jLSw hwy
  have hLA : 42 + 2 * w ≠ 43 + 2 * w := by omega
  have at27 : jRun X T0 (d + 5) q_X7_layoutOf (27, [.ref 0, .int (nI w), .null], [.ref (42 + 2 * w)], M) Q := by
    refine v_X7_layoutOf_27 _ _ _ _ ?_
    rw [h11, jbit (by omega) (by omega), jBI_n]
    refine ⟨fun g => ?_, fun g => ?_⟩
    · have hb := jnb g
      exact h M jFz.rf ⟨fd, hfd, h11, hf, h10⟩ (hf w hwy hb).1 (hf w hwy hb).2
    · have fin : ∀ M1, jFr (42 + 2 * w) (43 + 2 * w) M M1 → jLaid M1 (42 + 2 * w) (43 + 2 * w) so V n (plw so V n rc w).1 → M1 (42 + 2 * w) 3 = nI (plw so V n rc w).2 → jRun X T0 (d + 5) q_X7_layoutOf (97, [.ref 0, .int (nI w), .ref (42 + 2 * w)], [], M1) Q := by
        intro M1 hfr hl h3
        refine v_X7_layoutOf_97 _ _ _ _ (fun M2 e2 => ?_)
        have o0 : M1 0 = M 0 := hfr.other (by omega) (by omega)
        rw [o0, h11, jshl1 w (by omega), fa_or] at e2
        have c2 : ∀ c, c ≠ 0 → M2 c = M1 c := fun c hc0 => by subst e2; exact jP_n hc0
        have l2 : ∀ {L A lo}, L ≠ 0 → A ≠ 0 → jLaid M1 L A so V n lo → jLaid M2 L A so V n lo := fun hL hA hl => ⟨by rw [c2 _ hL]; exact hl.1, fun k hk => by rw [c2 _ hA]; exact hl.2 k hk⟩
        have z2 : ∀ k, k ≠ 11 → M2 0 k = M 0 k := fun k hk => by subst e2; rw [jP_s]; simp [upd, hk, o0]
        have z11 : M2 0 11 = nI (fd ||| 2 ^ w) := by subst e2; rw [jP_s]; simp [upd]
        refine h M2 ⟨fun c a b => by rw [c2 c a]; exact hfr.other (by omega) (by omega), fun k _ b => z2 k b⟩ ⟨fd ||| 2 ^ w, ?_, z11, fun w' hw' hb => ?_, fun hb => ?_⟩ (l2 (by omega) (by omega) hl) (by rw [c2 _ (by omega)]; exact h3)
        · exact Nat.or_lt_two_pow (n := 4) hfd (by have : 2 ^ w ≤ 2 ^ 2 := Nat.pow_le_pow_right (by decide) (by omega); omega)
        · by_cases e : w = w'
          · subst e
            exact ⟨l2 (by omega) (by omega) hl, by rw [c2 _ (by omega)]; exact h3⟩
          · rw [jbit_or, decide_eq_false e, Bool.or_false] at hb
            have := hf w' hw' hb
            refine ⟨l2 (by omega) (by omega) (hfr.laid (by omega) (by omega) (by omega) (by omega) this.1), ?_⟩
            rw [c2 _ (by omega), hfr.other (by omega) (by omega)]
            exact this.2
        · rw [jbit_or, decide_eq_false (by omega), Bool.or_false] at hb
          rw [z2 10 (by decide)]
          exact h10 hb
      have hk1 : jKd T0 (42 + 2 * w) = 1 := by rcases (show w = 0 ∨ w = 1 ∨ w = 2 by omega) with rfl | rfl | rfl <;> rfl
      refine ⟨fun g0 => ⟨fun g1 => ⟨hk1, ?_⟩, fun g1 => ⟨hk1, ?_⟩⟩, fun g0 => ⟨hk1, ?_⟩⟩
      · have g0' : w ≠ 0 := fun q => g0 (e0.mpr q)
        have g1' : w ≠ 1 := fun q => g1 (e1.mpr q)
        have e : plw so V n rc w = (pleast so V n rc, 0) := by simp [plw, g0', g1']
        rw [e] at fin
        exact sp_tryAll hI hv hc hw (fun M1 hf1 hl1 h3 => ⟨rfl, fin M1 hf1 hl1 (by rw [h3]; rfl)⟩)
      · have g1' := e1.mp g1
        have e : plw so V n rc w = pshr so V n rc 10 (2 ^ pct so 2 n - 1) 0 := by simp [plw, g1']
        rw [e] at fin
        exact sp_shrink hI hv hc hw (fun M1 hf1 hl1 h3 => ⟨rfl, fin M1 hf1 hl1 h3⟩)
      · have g0' := e0.mp g0
        have e : plw so V n rc w = pgrow (pstr so V n rc) 10 (V 32) := by simp [plw, g0']
        rw [e] at fin
        rw [hc.2.2.2.2.1]
        exact sp_grow2 hI hv hc hw hw.2.2.1.1 (fun M1 hf1 hl1 h3 => ⟨rfl, fin M1 hf1 hl1 h3⟩)
  refine v_X7_layoutOf hI _ _ _ ⟨fun g0 => ⟨fun g1 => ?_, fun g1 => ?_⟩, fun g0 => ?_⟩
  · have g0' : w ≠ 0 := fun q => g0 (e0.mpr q)
    have g1' : w ≠ 1 := fun q => g1 (e1.mpr q)
    rw [show (46 : Nat) = 42 + 2 * w by omega]
    exact at27
  · have g1' := e1.mp g1
    rw [show (44 : Nat) = 42 + 2 * w by omega]
    exact at27
  · have g0' := e0.mp g0
    rw [show jRun X T0 (d + 5) q_X7_layoutOf (27, [.ref 0, .int (nI w), .null], [.ref 42], M) Q = jRun X T0 (d + 5) q_X7_layoutOf (27, [.ref 0, .int (nI w), .null], [.ref (42 + 2 * w)], M) Q by rw [g0']]
    exact at27
theorem sp_layWay (hI : jInj X T0) {w : Nat} (hwy : w < 3) (hc : mCtx M so V n rc) (hw : jWf so V n rc)
    (h : ∀ M', mFr M M' → mLaid M' so V n (plw so V n rc w).1 → M' 54 31 = nI (plw so V n rc w).2 → Q none M') : jOk X T0 (d + 4) q_X8_layWay [.ref 54, .int (nI w)] M Q := by
  have e0 : nI w = 0 ↔ w = 0 := ⟨fun q => nI_inj (by omega) (by decide) q, fun q => by rw [q]; rfl⟩
  have e1 : nI w = 1 ↔ w = 1 := ⟨fun q => nI_inj (b := 1) (by omega) (by decide) q, fun q => by rw [q]; rfl⟩
  refine v_X8_layWay hI _ _ _ ⟨fun g0 => ⟨fun g1 => ?_, fun g1 => ?_⟩, fun g0 => ?_⟩
  · have g0' : w ≠ 0 := fun q => g0 (e0.mpr q)
    have g1' : w ≠ 1 := fun q => g1 (e1.mpr q)
    rw [show plw so V n rc w = (pleast so V n rc, 0) by simp [plw, g0', g1']] at h
    exact sp_leastOf hI hc hw (fun M1 hf1 hl1 h3 => ⟨rfl, h M1 hf1 hl1 (by rw [h3]; rfl)⟩)
  · rw [show plw so V n rc w = pshr so V n rc 10 (2 ^ pct so 2 n - 1) 0 by simp [plw, e1.mp g1]] at h
    exact sp_mshrink hI hc hw (fun M1 hf1 hl1 h3 => ⟨rfl, h M1 hf1 hl1 h3⟩)
  · rw [show plw so V n rc w = pgrow (pstr so V n rc) 10 (V 32) by simp [plw, e0.mp g0]] at h
    exact sp_mgrow2 hI hc hw (fun M1 hf1 hl1 h3 => ⟨rfl, h M1 hf1 hl1 h3⟩)
end JWA
