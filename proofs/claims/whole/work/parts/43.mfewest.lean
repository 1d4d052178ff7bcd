section JFY
variable {X : jX} {d : Nat} {M M0 : jMem} {Q : Option Value → jMem → Prop} {so V : Nat → Nat} {n rc : Nat} {fw : Int32}
/-- the reference while it tries islands -/
def mSS (M0 M : jMem) (V : Nat → Nat) : Prop := (∀ c, c ≠ 54 → c ≠ 57 → c ≠ 69 → M c = M0 c) ∧ (∀ k, k ≠ 30 → k ≠ 31 → M 54 k = M0 54 k) ∧ (∀ k, k < 33 ∨ 35 < k → M 57 k = M0 57 k)
theorem mSS.rf : mSS M M V := ⟨fun _ _ _ _ => rfl, fun _ _ _ => rfl, fun _ _ => rfl⟩
theorem mSS.fr {M2 : jMem} (h : mSS M0 M V) (h2 : mFr M M2) : mSS M0 M2 V := ⟨fun c a b e => by rw [h2.other a e]; exact h.1 c a b e, fun k a b => by rw [h2.fld a b]; exact h.2.1 k a b, fun k hk => by rw [h2.other (by decide) (by decide)]; exact h.2.2 k hk⟩
theorem mSS.put (h : mSS M0 M V) {k : Nat} {v : Int32} (hk : 33 ≤ k ∧ k ≤ 35) : mSS M0 (jP M 57 k v) V := ⟨fun c a b e => by rw [jP_n b]; exact h.1 c a b e, fun j a b => by rw [jP_n (by decide)]; exact h.2.1 j a b, fun j hj => by rw [jP_s]; simp [upd, show j ≠ k by omega]; exact h.2.2 j hj⟩
theorem mCtx.isl (hc : mCtx M0 so V n rc) (hn : n ≤ 32) {s : Nat} (h : mSS M0 M V) (h3 : ∀ t, t < 3 → M 57 (33 + t) = nI (pvi V s (33 + t))) : mCtx M so (pvi V s) n rc := by
  have pc := fun x => pli_cong (so := so) (V' := pvi V s) (V := V) (fun k hk _ => pvi_o (by omega)) x n (Nat.le_refl _)
  unfold mCtx
  simp only [h.1 56 (by decide) (by decide) (by decide), h.1 58 (by decide) (by decide) (by decide), h.1 59 (by decide) (by decide) (by decide), h.1 60 (by decide) (by decide) (by decide), h.1 61 (by decide) (by decide) (by decide), h.2.1 7 (by decide) (by decide), h.2.1 8 (by decide) (by decide), h.2.1 12 (by decide) (by decide), h.2.1 14 (by decide) (by decide), h.2.1 16 (by decide) (by decide), h.2.1 18 (by decide) (by decide), pc]
  refine ⟨hc.1, ⟨hc.2.1.1, fun k hk => ?_⟩, hc.2.2⟩
  by_cases h33 : k < 33
  · rw [h.2.2 k (Or.inl h33), pvi_o (by omega)]; exact hc.2.1.2 k hk
  · have := h3 (k - 33) (by omega)
    rw [show 33 + (k - 33) = k by omega] at this
    exact this
theorem sp_doServe (hI : jInj X T0) {s : Nat} (hc : mCtx M0 so V n rc) (hw : jWf so V n rc) (hs : psk so V n s) (hS : mSS M0 M V)
    (h : ∀ M', mSS M0 M' V → Q (some (.int (jBI (pok so V n rc s)))) M') : jOk X T0 (d + 4) q_X8_doServe [.ref 54, .int (nI s)] M Q := by
  have hn := hw.1.1
  have hc6 := hw.1.2.2.2.1
  have hV := hw.2.2.1.1
  have hs24 := hs.1
  have hp : 2 ^ pct so 2 n ≤ 2 ^ 10 := Nat.pow_le_pow_right (by decide) hw.1.2.2.1
  have hp4 : 2 ^ pct so 4 n ≤ 2 ^ 6 := Nat.pow_le_pow_right (by decide) hc6
  have hp1 : 1 ≤ 2 ^ pct so 4 n := Nat.one_le_two_pow
  refine v_X8_doServe hI _ _ _ ?_
  have key : ∀ t, t ≤ 3 → ∀ M1, mSS M0 M1 V → (∀ i, i < t → M1 57 (33 + i) = nI (pvi V s (33 + i))) → jRun X T0 (d + 4) q_X8_doServe (2, [.ref 54, .int (nI s), .int (nI t)], [], M1) Q := by
    refine jUp ?_ ?_
    · intro M1 hS1 h3
      refine v_X8_doServe_2 _ _ _ _ ⟨fun _ => ?_, fun g => absurd (by decide) g⟩
      have hc1 := hc.isl hn hS1 h3
      have e32 : pvi V s 32 = V 32 := pvi_o (Nat.le_refl _)
      refine sp_mgrow2 hI hc1 (hw.isls hs) (fun M2 fr2 l2 _ => ⟨rfl, ?_⟩)
      rw [e32] at l2
      have hc2 := fr2.ctx hc1
      refine sp_served hI hc2 (hw.isls hs) l2 ⟨_, rfl, ?_⟩
      have hlt : psvd so (pvi V s) n rc (pG so V n rc s) < 2 ^ pct so 4 n := pset_lt _ _
      rw [hc2.1.2.2.2.1, jshl1 _ (by omega), show (1 : Int32) = nI 1 from rfl, pk_sub hp1]
      have hH := h M2 (hS1.fr fr2)
      refine ⟨fun g => ?_, fun g => ?_⟩
      · rw [pok, decide_eq_false (fun q => g (by rw [show (pgrow (pstr so (pvi V s) n rc) 10 (V 32)).1 = pG so V n rc s from rfl, q]))] at hH
        exact hH
      · rw [pok, decide_eq_true (nI_inj (Nat.lt_trans hlt (by omega)) (by omega) g)] at hH
        exact hH
    · intro t ht ih M1 hS1 h3
      refine v_X8_doServe_2 _ _ _ _ ⟨fun g => absurd g (nI_ge (b := 3) ht (by decide)), fun _ => ?_⟩
      rw [show (33 : Int32) = nI 33 from rfl, nI_add, nI_cl (by omega), show (8 : Int32) = nI 8 from rfl, pk_mul, jshr (by omega) (by omega), show (255 : Int32) = nI (2 ^ 8 - 1) from rfl, fa_mask]
      refine ⟨vp_in_nI (by omega) (by decide), fun M3 e3 => ?_⟩
      rw [nI_1]
      refine ih M3 (by subst e3; exact hS1.put (by omega)) (fun i hi => ?_)
      subst e3
      rw [jP_s]
      by_cases e : i = t
      · subst e
        simp only [upd, if_true]
        rw [pvi_t (by omega)]
      · rw [show upd (M1 57) (33 + t) (nI (s / 2 ^ (8 * t) % 2 ^ 8)) (33 + i) = M1 57 (33 + i) by simp only [upd]; rw [if_neg (by omega)]]
        exact h3 i (by omega)
  exact key 0 (Nat.zero_le _) M hS (fun i hi => absurd hi (Nat.not_lt_zero i))
theorem sp_isIsle (hI : jInj X T0) {a c : Int32} (h16 : M 54 16 = nI (pct so 5 n)) (h61 : ∀ x, x < 8 → 0 < n → M 61 x = nI (pli so V x n) - 1) (hn : n ≤ 32) (h5 : pct so 5 n ≤ 3)
    (h : Q (some (.int (jBI (decide (0 ≤ a ∧ a < nI (pct so 5 n)) && (decide (0 ≤ c ∧ c < 8) && decide (0 < pli so V c.toNatClampNeg n)))))) M) : jOk X T0 (d + 1) q_X8_isIsle [.ref 54, .int a, .int c] M Q := by
  refine v_X8_isIsle hI _ _ _ _ ?_
  rw [h16]
  refine sp_in hI ⟨_, rfl, ?_⟩
  rw [jin_i (l := 0) (u := (nI (pct so 5 n) - 1).toInt64) (lo := 0) (hi := nI (pct so 5 n) - 1) rfl rfl, show decide (0 ≤ a ∧ a ≤ nI (pct so 5 n) - 1) = decide (0 ≤ a ∧ a < nI (pct so 5 n)) by
    apply decide_eq_decide.mpr
    have e : (nI (pct so 5 n) - 1).toInt = (pct so 5 n : Int) - 1 := pk_sub_toInt (a := pct so 5 n) (b := 1) (by omega) (by omega)
    have e2 : (nI (pct so 5 n)).toInt = pct so 5 n := nI_toInt (by omega)
    exact and_congr Iff.rfl (by rw [fa_le, fa_lt]; omega)]
  refine ⟨fun g => ?_, fun g => ?_⟩
  · rw [jBI_0.mp g] at h; exact h
  · have hn0 : 0 < n := by
      obtain ⟨y, hy, -⟩ := pit_t (jnb g) (by omega)
      rcases Nat.eq_zero_or_pos n with e0 | e0
      · rw [e0] at hy; exact absurd hy (Nat.not_lt_zero y)
      · exact e0
    rw [jnb g] at h
    refine sp_in hI ⟨_, rfl, ?_⟩
    rw [jin_i (l := 0) (u := 7) (lo := 0) (hi := 7) rfl rfl, show decide (0 ≤ c ∧ c ≤ 7) = decide (0 ≤ c ∧ c < 8) by
      apply decide_eq_decide.mpr
      have e2 : (7 : Int32).toInt = 7 := by decide
      have e3 : (8 : Int32).toInt = 8 := by decide
      exact and_congr Iff.rfl (by rw [fa_le, fa_lt]; omega)]
    refine ⟨fun g2 => ?_, fun g2 => ?_⟩
    · rw [jBI_0.mp g2] at h; exact h
    · have hc8 := jnb g2
      rw [hc8] at h
      have hc9 : decide (0 ≤ c ∧ c < nI 8) = true := hc8
      obtain ⟨x, hx, rfl⟩ := pit_t hc9 (by decide)
      have hp := pli_le (so := so) (V := V) (x := x) n
      rw [nI_cl (by omega)] at h
      rw [nI_cl (by omega), h61 x hx hn0]
      have e : (nI (pli so V x n) - 1).toInt = (pli so V x n : Int) - 1 := pk_sub_toInt (a := pli so V x n) (b := 1) (by omega) (by omega)
      refine ⟨vp_in_nI hx (by decide), fun g => ?_, fun g => ?_⟩
      · rw [fa_lt, e] at g
        have g : (pli so V x n : Int) - 1 < 0 := g
        rw [decide_eq_false (by omega) (p := 0 < pli so V x n)] at h
        exact h
      · rw [fa_lt, e] at g
        have g : ¬ (pli so V x n : Int) - 1 < 0 := g
        rw [decide_eq_true (by omega) (p := 0 < pli so V x n)] at h
        exact h
end JFY
