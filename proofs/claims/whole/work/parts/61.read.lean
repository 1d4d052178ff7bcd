section JRF
variable {X : jX} {d : Nat} {M M' : jMem} {Q : Option Value → jMem → Prop} {T : Nat × (Nat → Nat)} {so P : Nat → Nat} {n rc k v : Nat} {D : jPg} {c t : Nat × Nat × Nat × Nat}
def tTok (T : Nat × (Nat → Nat)) (c : Nat × Nat × Nat × Nat) : Prop := ∃ p, p ≤ T.1 ∧ c = tok T p
/-- what the class has as a word's letter -/
def tlt (v : Nat) : Nat := if v = 0 then 96 else v
theorem tlt_sort (v : Nat) : ksort (tlt v) = ksort v := by
  unfold tlt
  by_cases e : v = 0
  · rw [if_pos e, e]; rfl
  · rw [if_neg e]
theorem tTok.b (h : tTok T c) : c.1 ≤ T.1 ∧ c.2.1 ≤ 4 ∧ c.2.2.2 ≤ T.1 ∧ (c.2.1 ≠ 0 → c.1 < T.1 ∧ c.1 < c.2.2.2) ∧ (c.2.1 = 1 → c.2.2.1 = 0 ∨ (97 ≤ c.2.2.1 ∧ c.2.2.1 ≤ 122)) ∧ (c.2.1 = 2 → c.2.2.1 ≤ 999) := by
  obtain ⟨p, hp, rfl⟩ := h
  exact (tok_b hp).2
theorem tTok.nx (h : tTok T c) : tTok T (tok T c.2.2.2) := ⟨_, h.b.2.2.1, rfl⟩
theorem tTok.gt (h : tTok T c) : c.2.2.2 ≤ (tok T c.2.2.2).1 := (tok_b h.b.2.2.1).1
theorem ksort_6 {v : Nat} : ksort v = 6 ↔ v = 114 := by
  constructor
  · intro h
    unfold ksort at h
    repeat' split at h
    all_goals first | exact absurd h (by decide) | assumption
  · intro h; rw [h]; rfl
theorem sp_isNum (hI : jInj X T0) (hk : jTk M t) (ht : tTok T t) {lo hi : Nat} (hlo : lo < 2 ^ 20) (hhi : hi < 2 ^ 20) (h : Q (some (.int (jBI (decide (t.2.1 = 2 ∧ lo ≤ t.2.2.1 ∧ t.2.2.1 ≤ hi))))) M) : jOk X T0 d q_X6_isNumber [.ref 1, .int (nI lo), .int (nI hi)] M Q := by
  have hb := ht.b
  refine v_X6_isNumber hI _ _ _ _ ?_
  rw [hk.2.1]
  refine ⟨fun g => ?_, fun g => ?_⟩
  · rw [decide_eq_false (fun q => g (by rw [q.1]; rfl))] at h
    exact h
  · have e2 : t.2.1 = 2 := nI_inj (by omega) (by decide) g
    have h9 := hb.2.2.2.2.2 e2
    rw [hk.2.2.2.2 e2, nI_ltI (by omega) (by omega), nI_ltI (by omega) (by omega)]
    refine ⟨fun g1 => ?_, fun g1 => ⟨fun g2 => ?_, fun g2 => ?_⟩⟩
    · rw [decide_eq_false (by omega)] at h; exact h
    · rw [decide_eq_false (by omega)] at h; exact h
    · rw [decide_eq_true (by omega)] at h; exact h
theorem tlt_int {v : Nat} (hv : v ≤ 999) : (nI (tlt v) - 97).toInt = (tlt v : Int) - 97 := pk_sub_toInt (a := tlt v) (b := 97) (by unfold tlt; split <;> omega) (by decide)
theorem tlt_ge {v : Nat} (h : 97 ≤ v) : nI (tlt v) - 97 = nI (v - 97) := by
  rw [show tlt v = v from if_neg (by omega)]
  exact pk_sub (b := 97) h
theorem sp_isLab (hI : jInj X T0) (hk : jTk M t) (ht : tTok T t) (h : Q (some (.int (jBI (decide (t.2.1 = 1 ∧ 97 ≤ t.2.2.1 ∧ t.2.2.1 ≤ 104))))) M) : jOk X T0 d q_X6_isLabel [.ref 1] M Q := by
  have hb := ht.b
  refine v_X6_isLabel hI _ _ ?_
  rw [hk.2.1]
  refine ⟨fun g => ?_, fun g => ?_⟩
  · rw [decide_eq_false (fun q => g (by rw [q.1]; rfl))] at h
    exact h
  · have e1 : t.2.1 = 1 := nI_inj (by omega) (by decide) g
    have hv := hb.2.2.2.2.1 e1
    have e5 : M 1 5 = nI (tlt t.2.2.1) - 97 := hk.2.2.2.1 e1
    have ei := tlt_int (v := t.2.2.1) (by omega)
    rw [e5, fa_lt, fa_le, ei, show (0 : Int32).toInt = 0 from rfl, show (8 : Int32).toInt = 8 from rfl]
    unfold tlt
    refine ⟨fun g1 => ?_, fun g1 => ⟨fun g2 => ?_, fun g2 => ?_⟩⟩
    · rw [decide_eq_false (by split at g1 <;> omega)] at h; exact h
    · rw [decide_eq_false (by split at g2 <;> omega)] at h; exact h
    · rw [decide_eq_true ⟨e1, by split at g1 <;> split at g2 <;> omega⟩] at h; exact h
theorem sp_hasLabel3 (hI : jInj X T0) {x : Nat} (hx : x < 8) (h8 : M 8 x = nI (pli so P x n) - 1) (hn : n ≤ 32) (h : Q (some (.int (jBI (decide (0 < pli so P x n))))) M) : jOk X T0 d q_X3_hasLabel [.ref 3, .int (nI x)] M Q := by
  have hp := pli_le (so := so) (V := P) (x := x) n
  refine v_X3_hasLabel hI _ _ _ ?_
  rw [nI_cl (by omega), h8]
  have e : (nI (pli so P x n) - 1).toInt = (pli so P x n : Int) - 1 := pk_sub_toInt (a := pli so P x n) (b := 1) (by omega) (by omega)
  have e8 : ¬ (8 : Int32) ≤ nI x := nI_ge (b := 8) hx (by decide)
  have e0 : ¬ nI x < 0 := nI_pos (by omega)
  refine ⟨fun g => absurd g e0, fun _ => ⟨fun g => absurd g e8, fun _ => ⟨vp_in_nI hx (by decide), fun g => ?_, fun g => ?_⟩⟩⟩
  · rw [fa_lt, e] at g
    have g : (pli so P x n : Int) - 1 < 0 := g
    rw [decide_eq_false (by omega)] at h
    exact h
  · rw [fa_lt, e] at g
    have g : ¬ (pli so P x n : Int) - 1 < 0 := g
    rw [decide_eq_true (by omega)] at h
    exact h
theorem sp_bc16 : ∀ v, v ≤ 16 → (pbc v = 1 ↔ (v = 1 ∨ v = 2 ∨ v = 4 ∨ v = 8 ∨ v = 16)) := by decide +kernel
theorem sp_mayBeOf (hI : jInj X T0) (hk5 : k ≤ 4) (hk : jTk M t) (ht : tTok T t) (hD : jDr M D) (hw : rDw D) (h : Q (some (.int (jBI (rri k t D)))) M) : jOk X T0 (d + 1) q_X3_mayBeOf [.ref 3, .int (nI k), .ref 1] M Q := by
  have hb := ht.b
  refine v_X3_mayBeOf hI _ _ _ ?_
  have lab : k = 2 ∨ k = 4 → jOk X T0 d q_X6_isLabel [.ref 1] M (fun v M4 => ∃ r4, v = some (.int r4) ∧ (r4 = 0 ∨ r4 = 1) ∧ Q (some (.int r4)) M4) := by
    intro hk2
    refine sp_isLab hI hk ht ⟨_, rfl, ?_, ?_⟩
    · cases (decide (t.2.1 = 1 ∧ 97 ≤ t.2.2.1 ∧ t.2.2.1 ≤ 104)) <;> decide
    · rw [show rri k t D = decide (t.2.1 = 1 ∧ 97 ≤ t.2.2.1 ∧ t.2.2.1 ≤ 104) by unfold rri; rw [if_neg (by omega), if_neg (by omega), if_neg (by omega), if_neg (by omega)]] at h
      exact h
  rcases (show k = 0 ∨ k = 1 ∨ k = 2 ∨ k = 3 ∨ k = 4 by omega) with rfl | rfl | rfl | rfl | rfl
  · refine ⟨fun _ => sp_isNum (lo := 1) (hi := 60) hI hk ht (by decide) (by decide) ⟨_, rfl, ?_, h⟩, fun g => absurd rfl g⟩
    cases (decide (t.2.1 = 2 ∧ 1 ≤ t.2.2.1 ∧ t.2.2.1 ≤ 60)) <;> decide
  · refine ⟨fun g => absurd g (by decide), fun _ => ⟨fun _ => sp_isLab hI hk ht ⟨_, rfl, fun g => ?_, fun g => ?_⟩, fun g => absurd rfl g⟩⟩
    · have g := of_decide_eq_false (jBI_0.mp g)
      rw [show rri 1 t D = false from decide_eq_false (fun q => g ⟨q.1, q.2.1, q.2.2.1⟩)] at h
      exact h
    · have g := of_decide_eq_true (jnb g)
      have e5 : M 1 5 = nI (tlt t.2.2.1) - 97 := hk.2.2.2.1 g.1
      rw [e5, tlt_ge g.2.1]
      refine sp_hasLabel3 (so := D.1) (P := D.2.1) (n := D.2.2.1) hI (by omega) (hD.2.2.1 _ (by omega)) hw.1.1 ⟨_, rfl, fun g2 => ?_, fun g2 => ?_⟩
      · have g2 := of_decide_eq_true (jnb g2)
        rw [show rri 1 t D = false from decide_eq_false (fun q => by have := q.2.2.2; omega)] at h
        exact h
      · have g2 := of_decide_eq_false (jBI_0.mp g2)
        rw [show rri 1 t D = true from decide_eq_true ⟨g.1, g.2.1, g.2.2, by omega⟩] at h
        exact h
  · exact ⟨fun g => absurd g (by decide), fun _ => ⟨fun g => absurd g (by decide), fun _ => ⟨fun _ => lab (Or.inl rfl), fun g => absurd rfl g⟩⟩⟩
  · refine ⟨fun g => absurd g (by decide), fun _ => ⟨fun g => absurd g (by decide), fun _ => ⟨fun g => absurd g (by decide), fun _ => ⟨fun _ => sp_isNum (lo := 2) (hi := 16) hI hk ht (by decide) (by decide) ⟨_, rfl, fun g => ?_, fun g => ?_⟩, fun g => absurd rfl g⟩⟩⟩⟩
    · have g := of_decide_eq_false (jBI_0.mp g)
      rw [show rri 3 t D = false from decide_eq_false (fun q => g ⟨q.1, by omega, by omega⟩)] at h
      exact h
    · have g := of_decide_eq_true (jnb g)
      rw [hk.2.2.2.2 g.1]
      have hp := sp_bc16 t.2.2.1 g.2.2
      have hp2 := pbc_le t.2.2.1
      refine sp_bitCount hI (by omega) ⟨_, rfl, fun g2 => ?_, fun g2 => ?_⟩
      · rw [show rri 3 t D = false from decide_eq_false (fun q => g2 (by rw [hp.mpr (by omega)]; rfl))] at h
        exact h
      · have := hp.mp (nI_inj (by omega) (by decide) g2)
        rw [show rri 3 t D = true from decide_eq_true ⟨g.1, by omega⟩] at h
        exact h
  · exact ⟨fun g => absurd g (by decide), fun _ => ⟨fun g => absurd g (by decide), fun _ => ⟨fun g => absurd g (by decide), fun _ => ⟨fun g => absurd g (by decide), fun _ => lab (Or.inr rfl)⟩⟩⟩⟩
theorem jDr.rch (h : jDr M D) (e : ∀ c, c ≠ 3 → M' c = M c) (f : ∀ j, j ≠ 13 → M' 3 j = M 3 j) (g : M' 3 13 = nI v) : jDr M' (D.1, D.2.1, D.2.2.1, v) := by
  unfold jDr at h ⊢
  rw [e 4 (by decide), e 5 (by decide), e 6 (by decide), e 8 (by decide), e 9 (by decide), e 10 (by decide), e 11 (by decide), f 8 (by decide), f 9 (by decide), f 10 (by decide), f 11 (by decide), f 12 (by decide), g]
  exact ⟨⟨h.1.1, h.1.2.1, h.1.2.2.1, h.1.2.2.2.1, h.1.2.2.2.2.1, rfl⟩, h.2⟩
theorem knd_7 (h : c.2.1 ≠ 1) : knd c = 7 := if_neg h
theorem rok_7 {f : Bool} (h : knd c = 7) : rok (knd c) f D = false := by rw [h]; rfl
theorem rd1_no {f : Bool} (h : rok (knd c) f D = false) : rd1 T c f D = .inl c.1 := by
  unfold rd1
  rw [if_neg (by rw [h]; decide)]
theorem rok_le {f : Bool} (h : rok k f D = true) (hk : k ≤ 7) : k ≤ 6 := by
  rcases Nat.lt_or_ge k 7 with g | g
  · omega
  · rw [show k = 7 by omega] at h
    exact absurd h (by simp [rok])
theorem sp_readTold (hI : jInj X T0) (hT : T.1 ≤ 150) (hB : ∀ k, k < T.1 → T.2 k < 256) {first : Bool} (hc : tTok T c) (ht : jTxt (M 1 1) (M 2) T) (hk : jTk M c) (hD : jDr M D) (hw : rDw D)
    (hf : ∀ e M', rd1 T c first D = .inl e → jRd M M' → M' 1 2 = nI e → Q (some (.int 0)) M')
    (hs : ∀ c' D' M', rd1 T c first D = .inr (c', D') → jRd M M' → jTk M' c' → jDr M' D' → Q (some (.int 1)) M') : jOk X T0 (d + 3) q_X3_readTold [.ref 3, .ref 1, .int (jBI first)] M Q := by
  have hb := hc.b
  refine v_X3_readTold hI _ _ _ ⟨fun g1 => ?_, fun g1 => ?_⟩
  · rw [hk.2.1] at g1
    have e1 : c.2.1 = 1 := nI_inj (by omega) (by decide) g1
    have hv := hb.2.2.2.2.1 e1
    have kn : knd c = ksort c.2.2.1 := if_pos e1
    have hk7 := ksort_le c.2.2.1
    have hL : tlt c.2.2.1 < 2 ^ 20 := by unfold tlt; split <;> omega
    have eL : M 1 5 + 97 = nI (tlt c.2.2.1) := by rw [hk.2.2.2.1 e1]; exact Int32.sub_add_cancel _ _
    have e114 : nI (tlt c.2.2.1) = 114 ↔ knd c = 6 := by
      rw [kn, ← tlt_sort, ksort_6]
      exact ⟨fun q => nI_inj (by omega) (by decide) q, fun q => by rw [q]; rfl⟩
    have at113 : ∀ (s0 r1 : Int32) (w : Nat) (tm : Nat × Nat × Nat × Nat) (M2 : jMem), rd1 T c first D = rdm T (knd c) w tm D → rok (knd c) first D = true → (knd c ≤ 5 → s0 = 0 ∧ r1 = nI (knd c)) → (knd c = 6 → ¬ s0 = 0) → (knd c = 1 → w < 8) → jRd M M2 → tTok T tm → jTk M2 tm → jDr M2 D →
        jRun X T0 (d + 3) q_X3_readTold (113, [.ref 3, .ref 1, .int (jBI first), .int (nI (tlt c.2.2.1)), .int s0, .int r1, .int (nI w)], [], M2) Q := by
      intro s0 r1 w tm M2 er ho h5 h6 hw8 f2 htm hkm hD2
      have hb2 := htm.b
      refine v_X3_readTold_113 _ _ _ _ _ _ _ ?_
      rw [hkm.2.1]
      refine ⟨fun g3 => ?_, fun g3 => ?_⟩
      · have e3 : tm.2.1 = 3 := nI_inj (by omega) (by decide) g3
        have er2 : rd1 T c first D = .inr (tok T tm.2.2.2, radd (knd c) w D) := by rw [er, rdm, if_pos e3]
        refine ⟨fun z0 => ?_, fun z0 M3 e4 => ?_⟩
        · have k5 : knd c ≤ 5 := by
            rcases Nat.lt_or_ge (knd c) 6 with g | g
            · omega
            · exact absurd z0 (h6 (by have := rok_le ho (by omega); omega))
          rw [(h5 k5).2]
          have hr : rroom (knd c) D = true := by
            unfold rok at ho
            rw [if_neg (by omega), if_neg (by omega)] at ho
            exact ho
          refine sp_add hI k5 hw8 hr hD2 hw (fun M3 o3 hD3 => ⟨rfl, v_X3_readTold_145 _ _ _ _ _ _ _ ?_⟩)
          have f3 : jRd M M3 := ⟨fun j hj => by rw [o3 j (by omega)]; exact f2.1 j hj, by rw [o3 1 (by decide)]; exact f2.2⟩
          refine sp_next hI hT hB hb2.2.2.1 (ht.rf f3) (by rw [o3 1 (by decide)]; exact hkm.2.2.1) (fun M4 f4 k4 => ⟨rfl, ?_⟩)
          refine hs _ _ M4 er2 (f3.tr f4.rfr) k4 ?_
          unfold radd
          rw [if_neg (by omega)]
          exact hD3.tf f4
        · have k6 : knd c = 6 := by
            have := rok_le ho (by omega)
            rcases Nat.lt_or_ge (knd c) 6 with g | g
            · exact absurd (h5 (by omega)).1 z0
            · omega
          refine v_X3_readTold_145 _ _ _ _ _ _ _ ?_
          have o3 : ∀ j, j ≠ 3 → M3 j = M2 j := fun j hj => by subst e4; rw [jP_n hj]
          have f3 : jRd M M3 := ⟨fun j hj => by rw [o3 j (by omega)]; exact f2.1 j hj, by rw [o3 1 (by decide)]; exact f2.2⟩
          have hD3 : jDr M3 (D.1, D.2.1, D.2.2.1, w) := hD2.rch o3 (fun j hj => by subst e4; rw [jP_s]; simp [upd, hj]) (by subst e4; rw [jP_s]; simp [upd])
          refine sp_next hI hT hB hb2.2.2.1 (ht.rf f3) (by rw [o3 1 (by decide)]; exact hkm.2.2.1) (fun M4 f4 k4 => ⟨rfl, ?_⟩)
          refine hs _ _ M4 er2 (f3.tr f4.rfr) k4 ?_
          unfold radd
          rw [if_pos k6]
          exact hD3.tf f4
      · exact hf tm.1 M2 (by rw [er, rdm, if_neg (fun q => g3 (by rw [q]; rfl))]) f2 hkm.1
    have at60 : ∀ (s0 r1 : Int32), rok (knd c) first D = true → (knd c ≤ 5 → s0 = 0 ∧ r1 = nI (knd c)) → (knd c = 6 → ¬ s0 = 0 ∧ r1 = -1) →
        jRun X T0 (d + 3) q_X3_readTold (60, [.ref 3, .ref 1, .int (jBI first), .int (nI (tlt c.2.2.1)), .int s0, .int r1, .null], [], M) Q := by
      intro s0 r1 ho h5 h6
      have k6 := rok_le ho (by omega)
      refine v_X3_readTold_60 _ _ _ _ _ _ (sp_next hI hT hB hb.2.2.1 ht hk.2.2.1 (fun M1 f1 k1 => ⟨rfl, fun z5 => ?_, fun z5 => ?_⟩))
      · have k5 : knd c = 5 := by
          rcases Nat.lt_or_ge (knd c) 6 with g | g
          · rw [(h5 (by omega)).2] at z5
            exact nI_inj (by omega) (by decide) z5
          · rw [(h6 (by omega)).2] at z5
            exact absurd z5 (by decide)
        refine at113 s0 r1 0 (tok T c.2.2.2) M1 ?_ ho h5 (fun q => (h6 q).1) (fun q => by omega) f1.rfr hc.nx k1 (hD.tf f1)
        unfold rd1
        rw [if_pos ho, if_pos k5, k5]
      · have n5 : knd c ≠ 5 := fun q => z5 (by rw [(h5 (by omega)).2, q]; rfl)
        have at103 : rri (knd c) (tok T c.2.2.2) D = true → jRun X T0 (d + 3) q_X3_readTold (103, [.ref 3, .ref 1, .int (jBI first), .int (nI (tlt c.2.2.1)), .int s0, .int r1, .int 0], [], M1) Q := by
          intro hr
          have hx := rri_num hr k6 n5 hc.nx.b.2.2.2.2.2
          have ev : M1 1 5 = nI (rnum (tok T c.2.2.2)) := by
            have hb1 := hc.nx.b
            unfold rnum
            rcases (show (tok T c.2.2.2).2.1 = 1 ∧ 97 ≤ (tok T c.2.2.2).2.2.1 ∨ (tok T c.2.2.2).2.1 = 2 by
              rcases (show knd c = 0 ∨ knd c = 1 ∨ knd c = 2 ∨ knd c = 3 ∨ knd c = 4 ∨ knd c = 6 by omega) with q | q | q | q | q | q
              all_goals
                rw [q] at hr
                simp [rri] at hr
                omega) with q | q
            · rw [if_pos q.1, k1.2.2.2.1 q.1]
              exact tlt_ge q.2
            · rw [if_neg (by omega)]
              exact k1.2.2.2.2 q
          refine v_X3_readTold_103 _ _ _ _ _ _ _ (sp_next hI hT hB hc.nx.b.2.2.1 (ht.tf f1) k1.2.2.1 (fun M2 f2 k2 => ⟨rfl, ?_⟩))
          rw [ev]
          refine at113 s0 r1 _ (tok T (tok T c.2.2.2).2.2.2) M2 ?_ ho h5 (fun q => (h6 q).1) (fun q => hx.2.1 (Or.inl q)) (f1.tr f2).rfr hc.nx.nx k2 (hD.tf (f1.tr f2))
          unfold rd1
          rw [if_pos ho, if_neg n5, if_pos hr]
        have no : rri (knd c) (tok T c.2.2.2) D = false → Q (some (.int 0)) M1 := by
          intro hr
          refine hf _ M1 ?_ f1.rfr k1.1
          unfold rd1
          rw [if_pos ho, if_neg n5, if_neg (by rw [hr]; decide)]
        refine ⟨fun z0 => ?_, fun z0 => ?_⟩
        · have k5 : knd c ≤ 4 := by
            rcases Nat.lt_or_ge (knd c) 6 with g | g
            · omega
            · exact absurd z0 (h6 (by omega)).1
          rw [(h5 (by omega)).2]
          refine sp_mayBeOf hI k5 k1 hc.nx (hD.tf f1) hw ⟨_, rfl, fun g => ?_, fun g => no (jBI_0.mp g)⟩
          rw [← (h5 (by omega)).2]
          exact at103 (jnb g)
        · have e6 : knd c = 6 := by
            rcases Nat.lt_or_ge (knd c) 6 with g | g
            · exact absurd (h5 (by omega)).1 z0
            · omega
          have er : rri (knd c) (tok T c.2.2.2) D = decide ((tok T c.2.2.2).2.1 = 2 ∧ 4 ≤ (tok T c.2.2.2).2.2.1 ∧ (tok T c.2.2.2).2.2.1 ≤ 127) := by rw [e6]; rfl
          exact sp_isNum (lo := 4) (hi := 127) hI k1 hc.nx (by decide) (by decide) ⟨_, rfl, fun g => at103 (by rw [er]; exact jnb g), fun g => no (by rw [er]; exact jBI_0.mp g)⟩
    rw [eL]
    refine ⟨fun g2 => ?_, fun g2 => ?_⟩
    · have n6 : knd c ≠ 6 := fun q => g2 (e114.mpr q)
      refine v_X3_readTold_29 _ _ _ _ _ (sp_sortOf hI hL ⟨_, rfl, fun _ => ?_, fun g => absurd rfl g⟩)
      rw [tlt_sort, ← kn]
      by_cases k5 : knd c ≤ 5
      · rw [if_pos k5]
        have er : rok (knd c) first D = rroom (knd c) D := by unfold rok; rw [if_neg (by omega), if_neg (by omega)]
        refine sp_room hI k5 hD hw ⟨_, rfl, fun g => ?_, fun g => ?_⟩
        · exact at60 _ _ (by rw [er]; exact jnb g) (fun _ => ⟨rfl, rfl⟩) (fun q => absurd q n6)
        · exact hf _ M (rd1_no (by rw [er]; exact jBI_0.mp g)) jRd.rf hk.1
      · rw [if_neg k5]
        have k7 : knd c = 7 := by omega
        exact v_X3_hasRoomFor hI _ _ _ ⟨fun _ => ⟨_, rfl, fun g => absurd rfl g, fun _ => hf _ M (rd1_no (rok_7 k7)) jRd.rf hk.1⟩, fun g => absurd (by decide) g⟩
    · have k6 : knd c = 6 := e114.mp g2
      refine v_X3_readTold_29 _ _ _ _ _ (sp_sortOf hI hL ⟨_, rfl, fun g => absurd g (by decide), fun _ => ?_⟩)
      rw [tlt_sort, ← kn, if_neg (by omega)]
      have er : rok (knd c) first D = first := by rw [k6]; rfl
      refine ⟨fun g => ?_, fun g => ?_⟩
      · exact at60 _ _ (by rw [er]; exact jnb g) (fun q => by omega) (fun _ => ⟨by decide, rfl⟩)
      · exact hf _ M (rd1_no (by rw [er]; exact jBI_0.mp g)) jRd.rf hk.1
  · refine hf _ M (rd1_no (rok_7 (knd_7 (fun q => g1 (by rw [hk.2.1, q]; rfl))))) jRd.rf hk.1
end JRF
