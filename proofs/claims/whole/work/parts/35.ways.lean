section JWC
variable {X : jX} {d : Nat} {M M0 : jMem} {Q : Option Value → jMem → Prop} {so V : Nat → Nat} {n rc : Nat} {fw : Int32}
def pkn (n : Nat) (a : Int32) : Bool := decide (0 ≤ a ∧ a < nI n)
theorem jRfw {w : Nat} (h : w < 3) : jKd T0 (42 + 2 * w) = 1 ∧ jRf T0 (42 + 2 * w) 1 = 43 + 2 * w ∧ jKd T0 (43 + 2 * w) = 9 ∧ jLn T0 (43 + 2 * w) = 33 := by
  rcases (show w = 0 ∨ w = 1 ∨ w = 2 by omega) with rfl | rfl | rfl <;> exact ⟨rfl, rfl, rfl, rfl⟩
theorem sp_isOf (hI : jInj X T0) {a : Int32} {s : Nat} (hc : M 12 8 = nI n) (h13 : ∀ k, k < n → M 13 k = nI (so k)) (hn : n ≤ 32) (hso : ∀ k, k < n → so k ≤ 5) (hs : s ≤ 5)
    (h : Q (some (.int (jBI (pkn n a && decide (so a.toNatClampNeg = s))))) M) : jOk X T0 (d + 1) q_X3_isOf [.ref 12, .int a, .int (nI s)] M Q := by
  refine v12_X3_isOf hI _ _ _ _ (sp_hasItem hI hc ⟨_, rfl, fun g => ?_, fun g => ?_⟩)
  · rw [show pkn n a = false from jBI_0.mp g] at h
    exact h
  · have hy := jnb g
    obtain ⟨k, hk, rfl⟩ := pit_t hy hn
    have h5 := hso k hk
    rw [show pkn n (nI k) = true from hy, nI_cl (by omega)] at h
    rw [nI_cl (by omega), h13 k hk]
    refine ⟨vp_in_nI (by omega) (by decide), fun g2 => ?_, fun g2 => ?_⟩
    · rw [decide_eq_false (fun q => g2 (by rw [q]))] at h
      exact h
    · rw [decide_eq_true (nI_inj (by omega) (by omega) g2)] at h
      exact h
theorem sp_goesToLabel (hI : jInj X T0) {a : Int32} (hc : M 12 8 = nI n) (h13 : ∀ k, k < n → M 13 k = nI (so k)) (hn : n ≤ 32) (hso : ∀ k, k < n → so k ≤ 5)
    (h : Q (some (.int (jBI (pkn n a && (decide (so a.toNatClampNeg = 2) || decide (so a.toNatClampNeg = 4)))))) M) : jOk X T0 (d + 2) q_X3_goesToLabel [.ref 12, .int a] M Q := by
  refine v12_X3_goesToLabel hI _ _ _ (sp_isOf (s := 2) (so := so) hI hc h13 hn hso (by decide) ⟨_, rfl, fun g => ?_, fun g => ?_⟩)
  · have := jnb g
    simp only [Bool.and_eq_true] at this
    rw [this.1, this.2] at h
    exact h
  · have g1 := jBI_0.mp g
    refine sp_isOf (s := 4) (so := so) hI hc h13 hn hso (by decide) ⟨_, rfl, fun g2 => ?_, fun g2 => ?_⟩
    · have g3 := jBI_0.mp g2
      rw [show (pkn n a && (decide (so a.toNatClampNeg = 2) || decide (so a.toNatClampNeg = 4))) = false by rw [Bool.and_or_distrib_left, g1, g3]; rfl] at h
      exact h
    · have g3 := jnb g2
      rw [show (pkn n a && (decide (so a.toNatClampNeg = 2) || decide (so a.toNatClampNeg = 4))) = true by rw [Bool.and_or_distrib_left, g1, g3]; rfl] at h
      exact h
def flies (so V : Nat → Nat) (n rc : Nat) (a k b : Int32) : Int32 := if (pwy a && pkn n k) = true then
    (if b = 0 then nI (ppos so V (plw so V n rc a.toNatClampNeg).1 k.toNatClampNeg) else if b = 1 then nI (ppos so V (plw so V n rc a.toNatClampNeg).1 (k.toNatClampNeg + 1)) - nI (ppos so V (plw so V n rc a.toNatClampNeg).1 k.toNatClampNeg)
     else if b = 2 then (if so k.toNatClampNeg = 2 ∨ so k.toNatClampNeg = 4 then nI (ppos so V (plw so V n rc a.toNatClampNeg).1 (ptg so V n k.toNatClampNeg)) - nI (ppos so V (plw so V n rc a.toNatClampNeg).1 (k.toNatClampNeg + 1)) else 0) else -1000000) else -1000000
theorem cq_lies (hI : jInj X T0) {a k b : Int32} (hc : jCtx M so V n rc 22 23) (hw : jWf so V n rc) (hca : jCa M so V n rc fw)
    (h : ∀ M', jFz M M' → jCa M' so V n rc fw → Q (some (.int (flies so V n rc a k b))) M') : jOk X T0 (d + 6) q_X7_lies [.ref 0, .int a, .int k, .int b] M Q := by
  have hn := hw.1.1
  refine v_X7_lies hI _ _ _ _ _ (sp_isWay hI ⟨_, rfl, fun g => ?_, fun g => ?_⟩)
  · have := h M jFz.rf hca
    rw [flies, jBI_0.mp g] at this
    exact this
  · have hy := jnb g
    refine sp_hasItem hI hc.1.1 ⟨_, rfl, fun g2 => ?_, fun g2 => ?_⟩
    · have hk := jnb g2
      obtain ⟨w, hw3, rfl⟩ := pwy_t hy
      obtain ⟨k, hkn, rfl⟩ := pit_t hk hn
      have hv := jLSw hw3
      obtain ⟨r1, r2, r3, r4⟩ := jRfw hw3
      simp only [flies, hy, show pkn n (nI k) = true from hk, Bool.and_self, if_true, nI_cl (show w < 2 ^ 31 by omega), nI_cl (show k < 2 ^ 31 by omega)] at h
      refine sp_layoutOf hI hw3 hc hw hca (fun M1 hz1 hc1 hl1 h31 => ⟨_, rfl, ?_⟩)
      have hx1 := hz1.ctx hc
      have hH := h M1 hz1 hc1
      rw [r2, r4, nI_1, nI_cl (by omega), nI_cl (by omega), hl1.2 k (by omega), hl1.2 (k + 1) (by omega)]
      refine ⟨fun e => ⟨r1, r3, vp_in_nI (by omega) (by decide), ?_⟩, fun e0 => ⟨fun e => ⟨r1, r3, vp_in_nI (by omega) (by decide), vp_in_nI (by omega) (by decide), ?_⟩, fun e1 => ⟨fun e => ?_, fun e2 => ?_⟩⟩⟩
      · rw [if_pos e] at hH; exact hH
      · rw [if_neg e0, if_pos e] at hH; exact hH
      · rw [if_neg e0, if_neg e1, if_pos e] at hH
        refine sp_goesToLabel (so := so) (n := n) hI hx1.1.1 hx1.2.1.1 hn hw.2.1.1 ⟨_, rfl, fun g3 => ?_, fun g3 => ⟨r1, ?_⟩⟩
        · have g3 := jBI_0.mp g3
          rw [show pkn n (nI k) = true from hk, nI_cl (by omega)] at g3
          simp only [Bool.true_and, Bool.or_eq_false_iff, decide_eq_false_iff_not] at g3
          rw [if_neg (by omega)] at hH
          exact hH
        · have g3 := jnb g3
          rw [show pkn n (nI k) = true from hk, nI_cl (by omega)] at g3
          simp only [Bool.true_and, Bool.or_eq_true, decide_eq_true_eq] at g3
          rw [if_pos g3] at hH
          exact sp_farOf hI hv hx1 hw hl1 hkn g3 (fun r hr _ => ⟨_, rfl, by rw [hr]; exact hH⟩)
      · rw [if_neg e0, if_neg e1, if_neg e2] at hH; exact hH
    · have := h M jFz.rf hca
      rw [flies, show pkn n k = false from jBI_0.mp g2, Bool.and_false] at this
      exact this
theorem mq_lies (hI : jInj X T0) {a k b : Int32} (hc : mCtx M so V n rc) (hw : jWf so V n rc)
    (h : ∀ M', mFz M M' → Q (some (.int (flies so V n rc a k b))) M') : jOk X T0 (d + 5) q_X8_lies [.ref 54, .int a, .int k, .int b] M Q := by
  have hn := hw.1.1
  refine v_X8_lies hI _ _ _ _ _ (fun M1 e1 => ?_)
  have hz1 : mFz M M1 := by subst e1; exact mFz.t0
  have hc1 := hz1.ctx hc
  refine sp_misWay hI ⟨_, rfl, fun g => ?_, fun g => ?_⟩
  · have := h M1 hz1
    rw [flies, jBI_0.mp g] at this
    exact this
  · have hy := jnb g
    refine sp_misItem hI hc1.1.1 hn ⟨_, rfl, fun g2 => ?_, fun g2 => ?_⟩
    · have := h M1 hz1
      rw [flies, show pkn n k = false from jBI_0.mp g2, Bool.and_false] at this
      exact this
    · have hk := jnb g2
      obtain ⟨w, hw3, rfl⟩ := pwy_t hy
      obtain ⟨k, hkn, rfl⟩ := pit_t hk hn
      simp only [flies, hy, show pkn n (nI k) = true from hk, Bool.and_self, if_true, nI_cl (show w < 2 ^ 31 by omega), nI_cl (show k < 2 ^ 31 by omega)] at h
      refine sp_in hI ⟨_, rfl, ?_⟩
      rw [jin_i (l := 0) (u := 2) (lo := 0) (hi := 2) rfl rfl]
      have z0 : (0 : Int32).toInt = 0 := by decide
      have z1 : (1 : Int32).toInt = 1 := by decide
      have z2 : (2 : Int32).toInt = 2 := by decide
      refine ⟨fun g3 => ?_, fun g3 => ?_⟩
      · have hb := of_decide_eq_true (jnb g3)
        have hb0 := hb.1
        have hb2 := hb.2
        rw [fa_le] at hb0 hb2
        refine sp_layWay hI hw3 hc1 hw (fun M2 hf2 hl2 h32 => ⟨rfl, ?_⟩)
        have hc2 := hf2.ctx hc1
        have hH := h M2 (hz1.tr hf2.fz)
        have hs5 := hw.2.1.1 k hkn
        rw [nI_1, nI_cl (by omega), nI_cl (by omega), hc2.2.1.1 k hkn, hl2.2 k (by omega), hl2.2 (k + 1) (by omega)]
        refine ⟨fun e => ⟨vp_in_nI (by omega) (by decide), ?_⟩, fun e => ⟨fun e0 => ⟨vp_in_nI (by omega) (by decide), vp_in_nI (by omega) (by decide), ?_⟩, fun e0 => ⟨vp_in_nI (by omega) (by decide), ?_⟩⟩⟩
        · rw [fa_le] at e
          have e2 : b = 2 := by rw [fa_eq]; omega
          subst e2
          rw [if_neg (by decide), if_neg (by decide), if_pos rfl] at hH
          have hb : ∀ c : Nat, c ≤ 5 → (nI (so k) = nI c ↔ so k = c) := fun c hc => ⟨fun q => nI_inj (by omega) (by omega) q, fun q => by rw [q]⟩
          refine ⟨fun g4 => ?_, fun g4 => ⟨fun g5 => ?_, fun g5 => ?_⟩⟩
          · have e4 := (hb 2 (by omega)).mp g4
            rw [if_pos (Or.inl e4)] at hH
            exact sp_mfarOf hI hc2 hw hl2 hkn (Or.inl e4) (fun r hr _ => ⟨_, rfl, by rw [hr]; exact hH⟩)
          · have e4 : ¬ so k = 2 := fun q => g4 ((hb 2 (by omega)).mpr q)
            have e5 : ¬ so k = 4 := fun q => g5 ((hb 4 (by omega)).mpr q)
            rw [if_neg (by omega)] at hH
            exact hH
          · have e5 := (hb 4 (by omega)).mp g5
            rw [if_pos (Or.inr e5)] at hH
            exact sp_mfarOf hI hc2 hw hl2 hkn (Or.inr e5) (fun r hr _ => ⟨_, rfl, by rw [hr]; exact hH⟩)
        · have e1 : b = 1 := by rw [fa_le] at e; rw [fa_eq] at e0 ⊢; omega
          rw [if_neg e0, if_pos e1] at hH
          exact hH
        · rw [if_pos e0] at hH
          exact hH
      · have hb := of_decide_eq_false (jBI_0.mp g3)
        have ne : ∀ c : Nat, c ≤ 2 → ¬ b = nI c := fun c hc q => hb (by
          subst q
          rw [show (0 : Int32) = nI 0 from rfl, show (2 : Int32) = nI 2 from rfl, nI_leI (by omega) (by omega), nI_leI (by omega) (by omega)]
          omega)
        have hH := h M1 hz1
        rw [if_neg (show ¬ b = 0 from ne 0 (by omega)), if_neg (show ¬ b = 1 from ne 1 (by omega)), if_neg (show ¬ b = 2 from ne 2 (by omega))] at hH
        exact hH
/-- what is asked of a byte -/
def fbyt (so V : Nat → Nat) (n rc : Nat) (f : Nat → Nat → Int32) (a i : Int32) : Int32 := if pwy a = true then
    (if 0 ≤ i ∧ i.toNatClampNeg < ppos so V (plw so V n rc a.toNatClampNeg).1 n then f (plw so V n rc a.toNatClampNeg).1 i.toNatClampNeg else -1) else -1
theorem sp_itemOfByteN (hI : jInj X T0) {L A : Nat} (hv : jLS L A 22 23) {i : Int32} (hi : ¬ 0 ≤ i) (h : Q (some (.int (-1))) M) : jOk X T0 d q_X1_itemOfByte [.ref L, .int i] M Q :=
  v_X1_itemOfByte hI hv _ _ _ ⟨fun g => absurd g hi, fun _ => h⟩
theorem jnn {i : Int32} (h : 0 ≤ i) : ∃ j, j < 2 ^ 31 ∧ i = nI j := nI_of (fun q => by rw [fa_lt] at q; rw [fa_le] at h; omega)
theorem cq_origin (hI : jInj X T0) {a i : Int32} (hc : jCtx M so V n rc 22 23) (hw : jWf so V n rc) (hca : jCa M so V n rc fw)
    (h : ∀ M', jFz M M' → jCa M' so V n rc fw → Q (some (.int (fbyt so V n rc (fun lo i => nI (pitm so V lo i n)) a i))) M') : jOk X T0 (d + 6) q_X7_origin [.ref 0, .int a, .int i] M Q := by
  refine v_X7_origin hI _ _ _ _ (sp_isWay hI ⟨_, rfl, fun g => ?_, fun g => ?_⟩)
  · have hy := jnb g
    obtain ⟨w, hw3, rfl⟩ := pwy_t hy
    have hv := jLSw hw3
    simp only [fbyt, hy, if_true, nI_cl (show w < 2 ^ 31 by omega)] at h
    refine sp_layoutOf hI hw3 hc hw hca (fun M1 hz1 hc1 hl1 h31 => ⟨_, rfl, (jRfw hw3).1, ?_⟩)
    have hH := h M1 hz1 hc1
    by_cases h0 : 0 ≤ i
    · obtain ⟨j, hj, rfl⟩ := jnn h0
      rw [nI_cl hj] at hH
      refine sp_itemOfByte hI hv hj (hz1.ctx hc) hw hl1 (fun k hk => ⟨_, rfl, ?_⟩) (fun q => ⟨_, rfl, ?_⟩)
      · have h2 := ppos_mono (so := so) (V := V) (lo := (plw so V n rc w).1) (j := k + 1) n hk.1
        have hlt : j < ppos so V (plw so V n rc w).1 n := by have := hk.2.2; omega
        rw [if_pos ⟨h0, hlt⟩, pIt_one (pitm_is n hlt) hk] at hH
        exact hH
      · rw [if_neg (fun z => by omega)] at hH
        exact hH
    · rw [if_neg (fun z => h0 z.1)] at hH
      exact sp_itemOfByteN hI hv h0 ⟨_, rfl, hH⟩
  · have := h M jFz.rf hca
    rw [fbyt, jBI_0.mp g] at this
    exact this
theorem cq_code (hI : jInj X T0) {a i : Int32} (hc : jCtx M so V n rc 22 23) (hw : jWf so V n rc) (hca : jCa M so V n rc fw)
    (h : ∀ M', jFz M M' → jCa M' so V n rc fw → Q (some (.int (fbyt so V n rc (fun lo i => pgb so V n rc lo i) a i))) M') : jOk X T0 (d + 6) q_X7_code [.ref 0, .int a, .int i] M Q := by
  have hn := hw.1.1
  have hp : 2 ^ pct so 2 n ≤ 2 ^ 10 := Nat.pow_le_pow_right (by decide) hw.1.2.2.1
  refine v_X7_code hI _ _ _ _ (sp_isWay hI ⟨_, rfl, fun g => ?_, fun g => ?_⟩)
  · have hy := jnb g
    obtain ⟨w, hw3, rfl⟩ := pwy_t hy
    have hv := jLSw hw3
    have hlt9 := plw_lt hw hw3
    obtain ⟨r1, r2, r3, r4⟩ := jRfw hw3
    simp only [fbyt, hy, if_true, nI_cl (show w < 2 ^ 31 by omega)] at h
    refine sp_layoutOf hI hw3 hc hw hca (fun M1 hz1 hc1 hl1 h31 => ⟨_, rfl, r1, ?_⟩)
    have hH := h M1 hz1 hc1
    have hx1 := hz1.ctx hc
    have out : Q (some (.int (-1))) M1 → ∃ r3, some (Value.int (-1)) = some (Value.int r3) ∧ jOk X T0 (d + 5) q_X3_hasItem [.ref 12, .int r3] M1 (fun v M4 => ∃ r4, v = some (.int r4) ∧ ((¬ r4 = 0 → jKd T0 (jRf T0 (42 + 2 * w) 1) = 9 ∧ vp_in r3 (jLn T0 (jRf T0 (42 + 2 * w) 1)) ∧ jOk X T0 (d + 5) q_X1_byteOf [.ref (42 + 2 * w), .ref 22, .int r3, .int (i - (M4 (jRf T0 (42 + 2 * w) 1) r3.toNatClampNeg))] M4 (fun v M5 => ∃ r5, v = some (.int r5) ∧ Q (some (.int r5)) M5)) ∧ (r4 = 0 → Q (some (.int (-1))) M4))) := by
      intro hq
      refine ⟨_, rfl, sp_hasItem hI hx1.1.1 ⟨_, rfl, fun g => ?_, fun _ => hq⟩⟩
      have := of_decide_eq_true (jnb g)
      exact absurd this.1 (by decide)
    by_cases h0 : 0 ≤ i
    · obtain ⟨j, hj, rfl⟩ := jnn h0
      rw [nI_cl hj] at hH
      refine sp_itemOfByte hI hv hj hx1 hw hl1 (fun k hk => ⟨_, rfl, ?_⟩) (fun q => out ?_)
      · have h2 := ppos_mono (so := so) (V := V) (lo := (plw so V n rc w).1) (j := k + 1) n hk.1
        have hlt : j < ppos so V (plw so V n rc w).1 n := by have := hk.2.2; omega
        rw [if_pos ⟨h0, hlt⟩, pgb_it hk] at hH
        obtain ⟨k1, k2, k3⟩ := hk
        refine sp_hasItem hI hx1.1.1 ⟨_, rfl, fun _ => ?_, fun g => ?_⟩
        · rw [r2, r4, nI_cl (by omega), hl1.2 k (by omega), pk_sub k2]
          exact ⟨r3, vp_in_nI (by omega) (by decide), sp_byteOf hI hv hx1 hw hl1 (by omega) k1 (by omega) ⟨_, rfl, hH⟩⟩
        · have := of_decide_eq_false (jBI_0.mp g)
          exact absurd ⟨nI_pos' (by omega), nI_lt k1 (by omega)⟩ this
      · rw [if_neg (fun z => by omega)] at hH
        exact hH
    · rw [if_neg (fun z => h0 z.1)] at hH
      exact sp_itemOfByteN hI hv h0 (out hH)
  · have := h M jFz.rf hca
    rw [fbyt, jBI_0.mp g] at this
    exact this
theorem mq_origin (hI : jInj X T0) {a i : Int32} (hc : mCtx M so V n rc) (hw : jWf so V n rc)
    (h : ∀ M', mFz M M' → Q (some (.int (fbyt so V n rc (fun lo i => nI (pitm so V lo i n)) a i))) M') : jOk X T0 (d + 5) q_X8_origin [.ref 54, .int a, .int i] M Q := by
  have hn := hw.1.1
  refine v_X8_origin hI _ _ _ _ (fun M1 e1 => ?_)
  have hz1 : mFz M M1 := by subst e1; exact mFz.t0
  have hc1 := hz1.ctx hc
  refine sp_misWay hI ⟨_, rfl, fun g => ?_, fun g => ⟨fun h0 => ?_, fun h0 => ?_⟩⟩
  · have := h M1 hz1
    rw [fbyt, jBI_0.mp g] at this
    exact this
  · have hy := jnb g
    obtain ⟨w, hw3, rfl⟩ := pwy_t hy
    obtain ⟨j, hj, rfl⟩ := jnn h0
    simp only [fbyt, hy, if_true, nI_cl (show w < 2 ^ 31 by omega), nI_cl hj] at h
    refine sp_layWay hI hw3 hc1 hw (fun M2 hf2 hl2 h32 => ⟨rfl, ?_⟩)
    have hc2 := hf2.ctx hc1
    have hH := h M2 (hz1.tr hf2.fz)
    have psz := ppos_lt (lo := (plw so V n rc w).1) hw (Nat.le_refl n)
    rw [hc2.1.1, nI_cl (by omega), hl2.2 n (Nat.le_refl _), nI_leI (by omega) hj]
    refine ⟨vp_in_nI (by omega) (by decide), fun g2 => ?_, fun g2 => ?_⟩
    · rw [if_neg (fun z => by omega)] at hH
      exact hH
    · rw [if_pos ⟨h0, by omega⟩] at hH
      refine sp_itemAt hI hw hl2 (by omega) (fun k hk => ⟨_, rfl, ?_⟩)
      rw [pIt_one (pitm_is n (by omega)) hk] at hH
      exact hH
  · have := h M1 hz1
    rw [fbyt, jnb g, if_pos rfl, if_neg (fun z => h0 z.1)] at this
    exact this
theorem mq_code (hI : jInj X T0) {a i : Int32} (hc : mCtx M so V n rc) (hw : jWf so V n rc)
    (h : ∀ M', mFz M M' → Q (some (.int (fbyt so V n rc (fun lo i => pgb so V n rc lo i) a i))) M') : jOk X T0 (d + 5) q_X8_code [.ref 54, .int a, .int i] M Q := by
  have hn := hw.1.1
  have hp : 2 ^ pct so 2 n ≤ 2 ^ 10 := Nat.pow_le_pow_right (by decide) hw.1.2.2.1
  refine v_X8_code hI _ _ _ _ (fun M1 e1 => ?_)
  have hz1 : mFz M M1 := by subst e1; exact mFz.t0
  have hc1 := hz1.ctx hc
  refine sp_misWay hI ⟨_, rfl, fun g => ?_, fun g => ⟨fun h0 => ?_, fun h0 => ?_⟩⟩
  · have := h M1 hz1
    rw [fbyt, jBI_0.mp g] at this
    exact this
  · have hy := jnb g
    obtain ⟨w, hw3, rfl⟩ := pwy_t hy
    obtain ⟨j, hj, rfl⟩ := jnn h0
    have hlt9 := plw_lt hw hw3
    simp only [fbyt, hy, if_true, nI_cl (show w < 2 ^ 31 by omega), nI_cl hj] at h
    refine sp_layWay hI hw3 hc1 hw (fun M2 hf2 hl2 h32 => ⟨rfl, ?_⟩)
    have hc2 := hf2.ctx hc1
    have hH := h M2 (hz1.tr hf2.fz)
    have psz := ppos_lt (lo := (plw so V n rc w).1) hw (Nat.le_refl n)
    rw [hc2.1.1, nI_cl (by omega), hl2.2 n (Nat.le_refl _), nI_leI (by omega) hj]
    refine ⟨vp_in_nI (by omega) (by decide), fun g2 => ?_, fun g2 => ?_⟩
    · rw [if_neg (fun z => by omega)] at hH
      exact hH
    · rw [if_pos ⟨h0, by omega⟩] at hH
      exact sp_mbyteOf hI hc2 hw hl2 (by omega) (by omega) ⟨_, rfl, hH⟩
  · have := h M1 hz1
    rw [fbyt, jnb g, if_pos rfl, if_neg (fun z => h0 z.1)] at this
    exact this
end JWC
