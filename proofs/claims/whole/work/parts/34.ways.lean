section JWB
variable {X : jX} {d : Nat} {M M0 : jMem} {Q : Option Value → jMem → Prop} {so V : Nat → Nat} {n rc : Nat} {fw : Int32}
def mFz (M M' : jMem) : Prop := (∀ c, c ≠ 54 → c ≠ 69 → c ≠ 70 → M' c = M c) ∧ (∀ k, k ≠ 0 → k ≠ 30 → k ≠ 31 → M' 54 k = M 54 k)
theorem mFz.rf : mFz M M := ⟨fun _ _ _ _ => rfl, fun _ _ _ _ => rfl⟩
theorem mFz.tr {M1 M2 : jMem} (h : mFz M M1) (h2 : mFz M1 M2) : mFz M M2 := ⟨fun c a b e => (h2.1 c a b e).trans (h.1 c a b e), fun k a b e => (h2.2 k a b e).trans (h.2 k a b e)⟩
theorem mFr.fz (h : mFr M0 M) : mFz M0 M := ⟨fun _ a b _ => h.other a b, fun _ _ a b => h.fld a b⟩
theorem mFz.t0 : mFz M (jP M 54 0 0) := ⟨fun c a _ _ => jP_n a, fun k a _ _ => by rw [jP_s]; simp [upd, a]⟩
theorem mFz.ctx (h : mFz M0 M) (hc : mCtx M0 so V n rc) : mCtx M so V n rc := by
  unfold mCtx
  simp only [h.1 56 (by decide) (by decide) (by decide), h.1 57 (by decide) (by decide) (by decide), h.1 58 (by decide) (by decide) (by decide), h.1 59 (by decide) (by decide) (by decide), h.1 60 (by decide) (by decide) (by decide), h.1 61 (by decide) (by decide) (by decide), h.2 7 (by decide) (by decide) (by decide), h.2 8 (by decide) (by decide) (by decide), h.2 12 (by decide) (by decide) (by decide), h.2 14 (by decide) (by decide) (by decide), h.2 16 (by decide) (by decide) (by decide), h.2 18 (by decide) (by decide) (by decide)]
  exact hc
def pwy (a : Int32) : Bool := decide (0 ≤ a ∧ a < 3)
theorem pwy_t {a : Int32} (h : pwy a = true) : ∃ w, w < 3 ∧ a = nI w := by
  have h := of_decide_eq_true h
  rcases pk_ix a (n := 3) (by decide) with g | g | g
  · rw [fa_lt] at g; have := h.1; rw [fa_le] at this; omega
  · rw [fa_le] at g; have := h.2; rw [fa_lt] at this; have e : (nI 3).toInt = (3 : Int32).toInt := by decide
    omega
  · exact g
theorem sp_isWay (hI : jInj X T0) {a : Int32} (h : Q (some (.int (jBI (pwy a)))) M) : jOk X T0 d q_X7_isWay [.int a] M Q := by
  refine v_X7_isWay hI _ _ _ ?_
  unfold pwy at h
  refine ⟨fun g => ?_, fun g => ⟨fun g2 => ?_, fun g2 => ?_⟩⟩
  · rw [decide_eq_false (fun q => by rw [fa_lt] at g; have := q.1; rw [fa_le] at this; omega)] at h; exact h
  · rw [decide_eq_false (fun q => by rw [fa_le] at g2; have := q.2; rw [fa_lt] at this; omega)] at h; exact h
  · rw [decide_eq_true ⟨fa_of_nlt g, fa_of_nle g2⟩] at h; exact h
theorem jin_i {a : Int32} {l u : Int64} {lo hi : Int32} (h1 : l = lo.toInt64) (h2 : u = hi.toInt64) : decide (l ≤ a.toInt64 ∧ a.toInt64 ≤ u) = decide (lo ≤ a ∧ a ≤ hi) := by
  subst h1; subst h2
  apply decide_eq_decide.mpr
  rw [fa_wide_le, fa_wide_le]
theorem jbz (b : Bool) : jBI b = 0 ∨ jBI b = 1 := by
  cases b
  · exact Or.inl rfl
  · exact Or.inr rfl
theorem sp_misWay (hI : jInj X T0) {a : Int32} (h : Q (some (.int (jBI (pwy a)))) M) : jOk X T0 (d + 1) q_X8_isWay [.int a] M Q := by
  refine v_X8_isWay hI _ _ _ (sp_in hI ⟨_, rfl, jbz _, ?_⟩)
  rw [jin_i (l := 0) (u := 2) (lo := 0) (hi := 2) rfl rfl, show decide (0 ≤ a ∧ a ≤ 2) = pwy a by
    unfold pwy
    apply decide_eq_decide.mpr
    have e2 : (2 : Int32).toInt = 2 := by decide
    have e3 : (3 : Int32).toInt = 3 := by decide
    exact and_congr Iff.rfl (by rw [fa_le, fa_lt]; omega)]
  exact h
theorem sp_misItem (hI : jInj X T0) {a : Int32} (hc : M 54 7 = nI n) (hn : n ≤ 32) (h : Q (some (.int (jBI (decide (0 ≤ a ∧ a < nI n))))) M) : jOk X T0 (d + 1) q_X8_isItem [.ref 54, .int a] M Q := by
  refine v_X8_isItem hI _ _ _ ?_
  rw [hc]
  refine sp_in hI ⟨_, rfl, jbz _, ?_⟩
  rw [jin_i (l := 0) (u := (nI n - 1).toInt64) (lo := 0) (hi := nI n - 1) rfl rfl, show decide (0 ≤ a ∧ a ≤ nI n - 1) = decide (0 ≤ a ∧ a < nI n) by
    apply decide_eq_decide.mpr
    have e : (nI n - 1).toInt = (n : Int) - 1 := pk_sub_toInt (a := n) (b := 1) (by omega) (by omega)
    have e2 : (nI n).toInt = n := nI_toInt (by omega)
    exact and_congr Iff.rfl (by rw [fa_le, fa_lt]; omega)]
  exact h
theorem sp_hasItem (hI : jInj X T0) {a : Int32} (hc : M 12 8 = nI n) (h : Q (some (.int (jBI (decide (0 ≤ a ∧ a < nI n))))) M) : jOk X T0 d q_X3_hasItem [.ref 12, .int a] M Q := by
  refine v12_X3_hasItem hI _ _ _ ?_
  rw [hc]
  refine ⟨fun g => ?_, fun g => ⟨fun g2 => ?_, fun g2 => ?_⟩⟩
  · rw [decide_eq_false (fun q => by rw [fa_lt] at g; have := q.1; rw [fa_le] at this; omega)] at h; exact h
  · rw [decide_eq_false (fun q => by rw [fa_le] at g2; have := q.2; rw [fa_lt] at this; omega)] at h; exact h
  · rw [decide_eq_true ⟨fa_of_nlt g, fa_of_nle g2⟩] at h; exact h
theorem pit_t {a : Int32} (h : decide (0 ≤ a ∧ a < nI n) = true) (hn : n ≤ 32) : ∃ k, k < n ∧ a = nI k := by
  have h := of_decide_eq_true h
  rcases pk_ix a (n := n) (by omega) with g | g | g
  · rw [fa_lt] at g; have := h.1; rw [fa_le] at this; omega
  · rw [fa_le] at g; have := h.2; rw [fa_lt] at this; omega
  · exact g
def fway (so V : Nat → Nat) (n rc : Nat) (a b : Int32) : Int32 := if pwy a = true then
    (if b = 0 then nI (ppos so V (plw so V n rc a.toNatClampNeg).1 n) else if b = 1 then nI (plw so V n rc a.toNatClampNeg).1 else if b = 2 then nI (plw so V n rc a.toNatClampNeg).2
     else if b = 3 then nI (ppos so V (plw so V n rc a.toNatClampNeg).1 n) - nI (ppos so V (pleast so V n rc) n) else if b = 4 then nI (psvd so V n rc (plw so V n rc a.toNatClampNeg).1) else if b = 5 then bx_sum (pgb so V n rc (plw so V n rc a.toNatClampNeg).1) (ppos so V (plw so V n rc a.toNatClampNeg).1 n) else -1) else -1
theorem cq_way (hI : jInj X T0) {a b : Int32} (hc : jCtx M so V n rc 22 23) (hw : jWf so V n rc) (hca : jCa M so V n rc fw)
    (h : ∀ M', jFz M M' → jCa M' so V n rc fw → Q (some (.int (fway so V n rc a b))) M') : jOk X T0 (d + 6) q_X7_way [.ref 0, .int a, .int b] M Q := by
  have hp : 2 ^ pct so 2 n ≤ 2 ^ 10 := Nat.pow_le_pow_right (by decide) hw.1.2.2.1
  refine v_X7_way hI _ _ _ _ (sp_isWay hI ⟨_, rfl, fun g => ?_, fun g => ?_⟩)
  · have hy := jnb g
    obtain ⟨w, hw3, rfl⟩ := pwy_t hy
    have hv := jLSw hw3
    have hlt := plw_lt hw hw3
    have hk1 : jKd T0 (42 + 2 * w) = 1 := by rcases (show w = 0 ∨ w = 1 ∨ w = 2 by omega) with rfl | rfl | rfl <;> rfl
    simp only [fway, hy, if_true, nI_cl (show w < 2 ^ 31 by omega)] at h
    refine sp_layoutOf hI hw3 hc hw hca (fun M1 hz1 hc1 hl1 h31 => ⟨_, rfl, ?_⟩)
    have hx1 := hz1.ctx hc
    refine ⟨fun e => ⟨hk1, ?_⟩, fun e0 => ⟨fun e => ⟨hk1, ?_⟩, fun e1 => ⟨fun e => ⟨hk1, ?_⟩, fun e2 => ⟨fun e => ⟨hk1, ?_⟩, fun e3 => ⟨fun e => ⟨hk1, ?_⟩, fun e4 => ⟨fun e => ⟨hk1, ?_⟩, fun e5 => ?_⟩⟩⟩⟩⟩⟩
    · have := h M1 hz1 hc1
      rw [if_pos e] at this
      exact sp_size hI hv hx1 hw hl1 ⟨_, rfl, this⟩
    · have := h M1 hz1 hc1
      rw [if_neg e0, if_pos e] at this
      rw [hl1.1]
      exact this
    · have := h M1 hz1 hc1
      rw [if_neg e0, if_neg e1, if_pos e] at this
      rw [h31]
      exact this
    · refine sp_size hI hv hx1 hw hl1 ⟨_, rfl, ?_⟩
      refine sp_layoutOf (w := 2) hI (by decide) hx1 hw hc1 (fun M2 hz2 hc2 hl2 h32 => ⟨_, rfl, rfl, ?_⟩)
      have := h M2 (hz1.tr hz2) hc2
      rw [if_neg e0, if_neg e1, if_neg e2, if_pos e] at this
      exact sp_size hI (jLSw (w := 2) (by decide)) (hz2.ctx hx1) hw hl2 ⟨_, rfl, this⟩
    · have := h M1 hz1 hc1
      rw [if_neg e0, if_neg e1, if_neg e2, if_neg e3, if_pos e] at this
      exact sp_servedCalls hI hv hx1 hw hl1 ⟨_, rfl, this⟩
    · have := h M1 hz1 hc1
      rw [if_neg e0, if_neg e1, if_neg e2, if_neg e3, if_neg e4, if_pos e] at this
      exact sp_sumOfBytes hI hv hx1 hw hl1 (by omega) ⟨_, rfl, this⟩
    · have := h M1 hz1 hc1
      rw [if_neg e0, if_neg e1, if_neg e2, if_neg e3, if_neg e4, if_neg e5] at this
      exact this
  · have := h M jFz.rf hca
    rw [fway, jBI_0.mp g] at this
    exact this
theorem mq_way (hI : jInj X T0) {a b : Int32} (hc : mCtx M so V n rc) (hw : jWf so V n rc)
    (h : ∀ M', mFz M M' → Q (some (.int (fway so V n rc a b))) M') : jOk X T0 (d + 5) q_X8_way [.ref 54, .int a, .int b] M Q := by
  have hp : 2 ^ pct so 2 n ≤ 2 ^ 10 := Nat.pow_le_pow_right (by decide) hw.1.2.2.1
  have hn := hw.1.1
  refine v_X8_way hI _ _ _ _ (fun M1 e1 => ?_)
  have hz1 : mFz M M1 := by subst e1; exact mFz.t0
  have hc1 := hz1.ctx hc
  refine sp_misWay hI ⟨_, rfl, fun g => ?_, fun g => ?_⟩
  · have := h M1 hz1
    rw [fway, jBI_0.mp g] at this
    exact this
  · have hy := jnb g
    obtain ⟨w, hw3, rfl⟩ := pwy_t hy
    have hlt := plw_lt hw hw3
    simp only [fway, hy, if_true, nI_cl (show w < 2 ^ 31 by omega)] at h
    refine sp_in hI ⟨_, rfl, ?_⟩
    rw [jin_i (l := 0) (u := 5) (lo := 0) (hi := 5) rfl rfl]
    refine ⟨fun g2 => ?_, fun g2 => ?_⟩
    · have hb := of_decide_eq_true (jnb g2)
      refine sp_layWay hI hw3 hc1 hw (fun M2 hf2 hl2 h32 => ⟨rfl, ?_⟩)
      have hc2 := hf2.ctx hc1
      have hz2 := hz1.tr hf2.fz
      have psz := ppos_lt (lo := (plw so V n rc w).1) hw (Nat.le_refl n)
      have e69 : M2 69 (M2 54 7).toNatClampNeg = nI (ppos so V (plw so V n rc w).1 n) := by rw [hc2.1.1, nI_cl (by omega), hl2.2 n (Nat.le_refl _)]
      rw [e69]
      have hH := h M2 hz2
      refine ⟨by rw [hc2.1.1]; exact vp_in_nI (by omega) (by decide), fun e => ?_, fun e0 => ⟨fun e => ?_, fun e1 => ⟨fun e => ?_, fun e2 => ⟨fun e => ?_, fun e3 => ⟨fun e => ?_, fun e4 => ?_⟩⟩⟩⟩⟩
      · rw [if_pos e] at hH; exact hH
      · rw [if_neg e0, if_pos e] at hH; rw [hl2.1]; exact hH
      · rw [if_neg e0, if_neg e1, if_pos e] at hH; rw [h32]; exact hH
      · refine sp_leastOf hI hc2 hw (fun M3 hf3 hl3 _ => ⟨rfl, ?_⟩)
        have hc3 := hf3.ctx hc2
        have := h M3 (hz2.tr hf3.fz)
        rw [if_neg e0, if_neg e1, if_neg e2, if_pos e] at this
        rw [show M3 69 (M3 54 7).toNatClampNeg = nI (ppos so V (pleast so V n rc) n) by rw [hc3.1.1, nI_cl (by omega), hl3.2 n (Nat.le_refl _)], hc3.1.1]
        exact ⟨vp_in_nI (by omega) (by decide), this⟩
      · rw [if_neg e0, if_neg e1, if_neg e2, if_neg e3, if_pos e] at hH
        exact sp_served hI hc2 hw hl2 ⟨_, rfl, hH⟩
      · have e5 : b = 5 := by
          have h5 := hb.2
          have h0 := hb.1
          rw [fa_le] at h0 h5
          rw [fa_eq] at e0 e1 e2 e3 e4 ⊢
          have z0 : (0 : Int32).toInt = 0 := by decide
          have z1 : (1 : Int32).toInt = 1 := by decide
          have z2 : (2 : Int32).toInt = 2 := by decide
          have z3 : (3 : Int32).toInt = 3 := by decide
          have z4 : (4 : Int32).toInt = 4 := by decide
          have z5 : (5 : Int32).toInt = 5 := by decide
          omega
        rw [if_neg e0, if_neg e1, if_neg e2, if_neg e3, if_neg e4, if_pos e5] at hH
        have key : ∀ i, i ≤ ppos so V (plw so V n rc w).1 n → jRun X T0 (d + 5) q_X8_way (115, [.ref 54, .int (nI w), .int b, .int (nI (ppos so V (plw so V n rc w).1 n)), .int (bx_sum (pgb so V n rc (plw so V n rc w).1) i), .int (nI i)], [], M2) Q := by
          refine jUp ?_ ?_
          · exact v_X8_way_115 _ _ _ _ _ _ _ ⟨fun _ => hH, fun g => absurd (nI_le (Nat.le_refl _) (by omega)) g⟩
          · intro i hi ih
            refine v_X8_way_115 _ _ _ _ _ _ _ ⟨fun g => absurd g (nI_ge hi (by omega)), fun _ => ?_⟩
            refine sp_mbyteOf hI hc2 hw hl2 (by omega) hi ⟨_, rfl, ?_⟩
            rw [nI_1]
            exact ih
        exact key 0 (Nat.zero_le _)
    · have hb := of_decide_eq_false (jBI_0.mp g2)
      have hH := h M1 hz1
      have ne : ∀ k : Nat, k ≤ 5 → ¬ b = nI k := fun k hk q => hb (by
        subst q
        rw [show (0 : Int32) = nI 0 from rfl, show (5 : Int32) = nI 5 from rfl, nI_leI (by omega) (by omega), nI_leI (by omega) (by omega)]
        omega)
      rw [if_neg (show ¬ b = 0 from ne 0 (by omega)), if_neg (show ¬ b = 1 from ne 1 (by omega)), if_neg (show ¬ b = 2 from ne 2 (by omega)), if_neg (show ¬ b = 3 from ne 3 (by omega)), if_neg (show ¬ b = 4 from ne 4 (by omega)), if_neg (show ¬ b = 5 from ne 5 (by omega))] at hH
      exact hH
end JWB
