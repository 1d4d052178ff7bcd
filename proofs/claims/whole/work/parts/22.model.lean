/-! the reference: how items lie, growing -/
def mCtx (M : jMem) (so V : Nat → Nat) (n rc : Nat) : Prop :=
  (M 54 7 = nI n ∧ M 54 8 = nI rc ∧ M 54 12 = nI (pct so 2 n) ∧ M 54 14 = nI (pct so 4 n) ∧ M 54 16 = nI (pct so 5 n) ∧ M 54 18 = nI (pct so 0 n)) ∧
  ((∀ k, k < n → M 56 k = nI (so k)) ∧ (∀ k, k < 36 → M 57 k = nI (V k))) ∧
  ((∀ x, x < 8 → 0 < n → M 61 x = nI (pli so V x n) - 1) ∧ (∀ k, k < n → so k = 2 → M 58 (pct so 2 k) = nI k) ∧ (∀ k, k < n → so k = 4 → M 59 (pct so 4 k) = nI k) ∧ (∀ k, k < n → so k = 5 → M 60 (pct so 5 k) = nI k))
section JM
variable {X : jX} {d : Nat} {M : jMem} {Q : Option Value → jMem → Prop} {so V : Nat → Nat} {n rc lo : Nat}
theorem mCtx.lay {f g : Nat → Int32} (hg : ∀ k, k ≠ 30 → k ≠ 31 → g k = M 54 k) (hc : mCtx M so V n rc) : mCtx (jSC (jSC M 54 g) 69 f) so V n rc := by
  have e : ∀ c, c ≠ 54 → c ≠ 69 → jSC (jSC M 54 g) 69 f c = M c := fun c h1 h2 => by rw [jSC_n h2, jSC_n h1]
  have e4 : jSC (jSC M 54 g) 69 f 54 = g := by rw [jSC_n (by decide), jSC_s]
  unfold mCtx
  simp only [e 56 (by decide) (by decide), e 57 (by decide) (by decide), e 58 (by decide) (by decide), e 59 (by decide) (by decide), e 60 (by decide) (by decide), e 61 (by decide) (by decide), e4, hg 7 (by decide) (by decide), hg 8 (by decide) (by decide), hg 12 (by decide) (by decide), hg 14 (by decide) (by decide), hg 16 (by decide) (by decide), hg 18 (by decide) (by decide)]
  exact hc
theorem jlc_lt (x y : Int64) : lg_cmp x y < 0 ↔ x < y := by
  unfold lg_cmp
  by_cases h1 : x > y
  · rw [if_pos h1]
    exact ⟨fun q => absurd q (by decide), fun q => by rw [fa_lt64] at q; have : y < x := h1; rw [fa_lt64] at this; omega⟩
  · rw [if_neg h1]
    by_cases h2 : x = y
    · rw [if_pos h2]
      exact ⟨fun q => absurd q (by decide), fun q => by subst h2; rw [fa_lt64] at q; omega⟩
    · rw [if_neg h2]
      refine ⟨fun _ => ?_, fun _ => by decide⟩
      have h3 : ¬ y < x := h1
      rw [fa_lt64] at h3 ⊢
      rw [fa_eq64] at h2
      omega
theorem jlc_gt (x y : Int64) : 0 < lg_cmp x y ↔ y < x := by
  unfold lg_cmp
  by_cases h1 : x > y
  · rw [if_pos h1]
    exact ⟨fun _ => h1, fun _ => by decide⟩
  · rw [if_neg h1]
    by_cases h2 : x = y
    · rw [if_pos h2]
      exact ⟨fun q => absurd q (by decide), fun q => absurd q h1⟩
    · rw [if_neg h2]
      exact ⟨fun q => absurd q (by decide), fun q => absurd q h1⟩
theorem sp_in (hI : jInj X T0) {a l u : Int64} (h : Q (some (.int (jBI (decide (l ≤ a ∧ a ≤ u))))) M) : jOk X T0 d q_X8_in [.long a, .long l, .long u] M Q := by
  refine v_X8_in hI _ _ _ _ _ ?_
  simp only [jlc_lt, jlc_gt]
  refine ⟨fun g => ?_, fun g => ⟨fun g2 => ?_, fun g2 => ?_⟩⟩
  · rw [decide_eq_false (by rw [fa_lt64] at g; rw [fa_le64]; omega)] at h; exact h
  · rw [decide_eq_false (by rw [fa_lt64] at g2; rw [fa_le64 a u]; omega)] at h; exact h
  · rw [decide_eq_true (by rw [fa_lt64] at g g2; rw [fa_le64, fa_le64]; omega)] at h; exact h
theorem sp_has (hI : jInj X T0) {x j : Nat} (hx : x < 2 ^ 31) (hj : j < 32) (h : Q (some (.int (jBI (x.testBit j)))) M) : jOk X T0 d q_X8_has [.int (nI x), .int (nI j)] M Q := by
  refine v_X8_has hI _ _ _ _ ?_
  rw [jbit hx hj, jBI_n]
  cases hb : x.testBit j <;> rw [hb] at h
  · exact ⟨fun _ => h, fun g => absurd g (by decide)⟩
  · exact ⟨fun g => absurd rfl g, fun _ => h⟩
theorem sp_bits (hI : jInj X T0) {x : Nat} (hx : x < 2 ^ 31) (h : Q (some (.int (nI (pbc x)))) M) : jOk X T0 d q_X8_bits [.int (nI x)] M Q := by
  refine v_X8_bits hI _ _ _ ?_
  have key : ∀ i, i ≤ 24 → jRun X T0 d q_X8_bits (4, [.int (nI x), .int (nI (fb_ct (fun i => x.testBit i) i)), .int (nI i)], [], M) Q := by
    refine jUp ?_ ?_
    · exact v_X8_bits_4 _ _ _ _ _ ⟨fun _ => h, fun g => absurd (by decide) g⟩
    · intro i hi ih
      refine v_X8_bits_4 _ _ _ _ _ ⟨fun q => absurd q (nI_ge (b := 24) hi (by decide)), fun _ => ?_⟩
      rw [jbit hx (by omega), nI_add, nI_1]
      rw [fb_ct_succ] at ih
      exact ih
  exact key 0 (by decide)
theorem sp_isNear (hI : jInj X T0) {f : Int32} (hr : M 54 8 = nI rc) (hrc : rc ≤ 127) (h : Q (some (.int (jBI (pnear rc f.toInt)))) M) : jOk X T0 (d + 1) q_X8_isNear [.ref 54, .int f] M Q := by
  refine v_X8_isNear hI _ _ _ ?_
  rw [hr]
  have e1 : (-nI rc - 1).toInt = -(rc : Int) - 1 := by
    have h1 : (-nI rc).toInt = -(rc : Int) := sb_negT (by omega)
    rw [fb_subI]
    · rw [h1]; rfl
    · rw [h1]; show _ ≤ -(rc : Int) - 1; omega
    · rw [h1]; show -(rc : Int) - 1 < _; omega
  have e2 : (nI rc).toInt = (rc : Int) := nI_toInt (by omega)
  refine sp_in hI ⟨_, rfl, ?_, ?_⟩
  · cases decide ((-nI rc - 1).toInt64 ≤ f.toInt64 ∧ f.toInt64 ≤ (nI rc).toInt64)
    · exact Or.inl rfl
    · exact Or.inr rfl
  · have : decide ((-nI rc - 1).toInt64 ≤ f.toInt64 ∧ f.toInt64 ≤ (nI rc).toInt64) = pnear rc f.toInt := by
      unfold pnear
      apply decide_eq_decide.mpr
      rw [fa_wide_le, fa_wide_le, fa_le, fa_le, e1, e2]
    rw [this]
    exact h
def mLaid (M : jMem) (so V : Nat → Nat) (n lo : Nat) : Prop := M 54 30 = nI lo ∧ ∀ k, k ≤ n → M 69 k = nI (ppos so V lo k)
theorem sp_layOut (hI : jInj X T0) (hc : mCtx M so V n rc) (hw : jWf so V n rc) (h1 : lo < 2 ^ 31)
    (h : ∀ f : Nat → Int32, (∀ k, k ≤ n → f k = nI (ppos so V lo k)) → Q none (jSC (jSC M 54 (upd (M 54) 30 (nI lo))) 69 f)) : jOk X T0 (d + 1) q_X8_layOut [.ref 54, .int (nI lo)] M Q := by
  have hn := hw.1.1
  have hg : ∀ k, k ≠ 30 → k ≠ 31 → (upd (M 54) 30 (nI lo)) k = M 54 k := fun k h2 _ => by simp [upd, h2]
  refine v_X8_layOut hI _ _ _ (fun M1 e1 => ?_)
  have key : ∀ i, i ≤ n → ∀ f : Nat → Int32, (∀ k, k < i → f k = nI (ppos so V lo k)) →
      jRun X T0 (d + 1) q_X8_layOut (15, [.ref 54, .int (nI lo), .int (nI (ppos so V lo i)), .int (nI (pct so 2 i)), .int (nI (pct so 5 i)), .int (nI i)], [], jSC (jSC M 54 (upd (M 54) 30 (nI lo))) 69 f) Q := by
    refine jUp ?_ ?_
    · intro f hf
      have hc' := hc.lay (f := f) hg
      refine v_X8_layOut_15 _ _ _ _ _ _ _ ⟨fun _ => ⟨?_, fun M2 e2 => ?_⟩, fun g => absurd ?_ g⟩
      · rw [hc'.1.1]; exact vp_in_nI (by omega) (by decide)
      · subst e2
        rw [hc'.1.1, nI_cl (by omega), jP_sc]
        refine h _ (fun k hk => ?_)
        by_cases e : k = n
        · subst e; simp [upd]
        · rw [show upd f n (nI (ppos so V lo n)) k = f k by simp [upd, e]]
          exact hf k (by omega)
      · rw [hc'.1.1]; exact nI_le (Nat.le_refl _) (by omega)
    · intro i hi ih f hf
      have hc' := hc.lay (f := f) hg
      have hs5 := hw.2.1.1 i hi
      refine v_X8_layOut_15 _ _ _ _ _ _ _ ⟨fun g => absurd g ?_, fun _ => ⟨vp_in_nI (by omega) (by decide), fun M2 e2 => ⟨vp_in_nI (by omega) (by decide), ?_⟩⟩⟩
      · rw [hc'.1.1]; exact nI_ge hi (by omega)
      · have e3 : M2 = jSC (jSC M 54 (upd (M 54) 30 (nI lo))) 69 (upd f i (nI (ppos so V lo i))) := by
          subst e2; rw [nI_cl (by omega), jP_sc]
        have hc2 := hc.lay (f := upd f i (nI (ppos so V lo i))) hg
        rw [← e3] at hc2
        have ih2 := ih (upd f i (nI (ppos so V lo i))) (fun k hk => by
          by_cases e : k = i
          · subst e; simp [upd]
          · rw [show upd f i (nI (ppos so V lo i)) k = f k by simp [upd, e]]
            exact hf k (by omega))
        rw [← e3] at ih2
        have pc2 : ∀ s, pct so s (i + 1) = pct so s i + (if so i = s then 1 else 0) := fun s => by simp [pct, fb_ct_succ]
        have hV := hc2.2.1.2 i (by omega)
        rw [nI_cl (by omega), hc2.2.1.1 i hi, hV]
        have hb : ∀ b : Nat, b ≤ 5 → (nI (so i) = nI b ↔ so i = b) := fun b hb => ⟨fun q => nI_inj (by omega) (by omega) q, fun q => by rw [q]⟩
        have pl := ppos_lt (lo := lo) hw (show i ≤ n by omega)
        have hfin : ∀ (a b c : Int32), a = nI (ppos so V lo (i + 1)) → b = nI (pct so 2 (i + 1)) → c = nI (pct so 5 (i + 1)) → jRun X T0 (d + 1) q_X8_layOut (172, [.ref 54, .int (nI lo), .int a, .int b, .int c, .int (nI i)], [], M2) Q := by
          intro a b c ha hb hc
          subst ha; subst hb; subst hc
          refine v_X8_layOut_172 _ _ _ _ _ _ _ ?_
          rw [nI_1]
          exact ih2
        refine ⟨fun g => ?_, fun g0 => ⟨fun g => ?_, fun g1 => ⟨fun g => ?_, fun g2 => ⟨fun g => ?_, fun g3 => ⟨fun g => ?_, fun g4 => ⟨fun g => ?_, fun g5 => ?_⟩⟩⟩⟩⟩⟩
        · have e := (hb 0 (by omega)).mp g
          refine ⟨vp_in_nI (by omega) (by decide), hfin _ _ _ ?_ ?_ ?_⟩
          · rw [nI_add]; simp [ppos, plen, e]
          · rw [pc2]; simp [e]
          · rw [pc2]; simp [e]
        · have e := (hb 1 (by omega)).mp g
          refine hfin _ _ _ ?_ ?_ ?_
          · simp [ppos, plen, e]
          · rw [pc2]; simp [e]
          · rw [pc2]; simp [e]
        · have e := (hb 2 (by omega)).mp g
          have hj := pct_lt (n := n) hi e
          have := hw.1.2.2.1
          refine sp_has hI h1 (by omega) ⟨_, rfl, fun g => ?_, fun g => ?_⟩
          · have g9 := jBI_0.mp g
            refine v_X8_layOut_103 _ _ _ _ _ _ _ _ _ (hfin _ _ _ ?_ ?_ ?_)
            · rw [show (2 : Int32) = nI 2 from rfl, nI_add]; simp [ppos, plen, e, g9]
            · rw [nI_1, pc2]; simp [e]
            · rw [pc2]; simp [e]
          · have g9 : lo.testBit (pct so 2 i) = true := by
              cases hb : lo.testBit (pct so 2 i)
              · exact absurd (jBI_0.mpr hb) g
              · rfl
            refine v_X8_layOut_103 _ _ _ _ _ _ _ _ _ (hfin _ _ _ ?_ ?_ ?_)
            · rw [show (5 : Int32) = nI 5 from rfl, nI_add]; simp [ppos, plen, e, g9]
            · rw [nI_1, pc2]; simp [e]
            · rw [pc2]; simp [e]
        · have e := (hb 3 (by omega)).mp g
          have hv := hw.2.1.2.2.1 i hi e
          have hm : ppos so V lo i % V i < V i := Nat.mod_lt _ (by omega)
          refine ⟨vp_in_nI (by omega) (by decide), nI_ne0 (by omega) (by omega), hfin _ _ _ ?_ ?_ ?_⟩
          · rw [pk_rem (by omega) (by omega) (by omega), pk_sub (by omega), pk_rem (by omega) (by omega) (by omega), nI_add]
            simp [ppos, plen, e, ppad]
          · rw [pc2]; simp [e]
          · rw [pc2]; simp [e]
        · have e := (hb 4 (by omega)).mp g
          refine hfin _ _ _ ?_ ?_ ?_
          · rw [show (2 : Int32) = nI 2 from rfl, nI_add]; simp [ppos, plen, e]
          · rw [pc2]; simp [e]
          · rw [pc2]; simp [e]
        · have e := (hb 5 (by omega)).mp g
          have hj := pct_lt (n := n) hi e
          have h3 := hw.1.2.2.2.2
          rw [show (33 : Int32) = nI 33 from rfl, nI_add, nI_cl (by omega), hc2.2.1.2 _ (by omega)]
          refine ⟨vp_in_nI (by omega) (by decide), sp_bits hI ?_ ⟨_, rfl, hfin _ _ _ ?_ ?_ ?_⟩⟩
          · have := hw.isl (s := pct so 5 i) (by omega); omega
          · rw [show (5 : Int32) = nI 5 from rfl, pk_mul, nI_add]; simp [ppos, plen, e]
          · rw [pc2]; simp [e]
          · rw [nI_1, pc2]; simp [e]
        · exfalso
          have g0' : ¬ so i = 0 := fun q => g0 ((hb 0 (by omega)).mpr q)
          have g1' : ¬ so i = 1 := fun q => g1 ((hb 1 (by omega)).mpr q)
          have g2' : ¬ so i = 2 := fun q => g2 ((hb 2 (by omega)).mpr q)
          have g3' : ¬ so i = 3 := fun q => g3 ((hb 3 (by omega)).mpr q)
          have g4' : ¬ so i = 4 := fun q => g4 ((hb 4 (by omega)).mpr q)
          have g5' : ¬ so i = 5 := fun q => g5 ((hb 5 (by omega)).mpr q)
          omega
  have h0 := key 0 (Nat.zero_le _) (M 69) (fun k hk => absurd hk (Nat.not_lt_zero k))
  have e2 : M1 = jSC (jSC M 54 (upd (M 54) 30 (nI lo))) 69 (M 69) := by
    subst e1
    funext c
    by_cases e : c = 69
    · subst e
      rw [jSC_s, jP_n (by decide)]
    · rw [jSC_n e]
      rfl
  rw [e2]
  exact h0
end JM
