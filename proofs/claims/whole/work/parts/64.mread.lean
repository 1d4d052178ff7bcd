section JMS
variable {X : jX} {d : Nat} {M M' : jMem} {Q : Option Value → jMem → Prop} {T : Nat × (Nat → Nat)} {so P : Nat → Nat} {n rc k v : Nat} {D : jPg} {c t : Nat × Nat × Nat × Nat}
theorem mDr_add (hn : D.2.2.1 < 32) (h : mDr M D) (e7 : M' 67 = upd (M 67) D.2.2.1 (nI k)) (e8 : M' 68 = upd (M 68) D.2.2.1 (nI v)) (e27 : M' 54 27 = nI (D.2.2.1 + 1)) (e28 : M' 54 28 = M 54 28) : mDr M' (pup D.1 D.2.2.1 k, pup D.2.1 D.2.2.1 v, D.2.2.1 + 1, D.2.2.2) := by
  refine ⟨e27, by rw [e28]; exact h.2.1, fun j hj => ?_, fun j hj => ?_⟩
  · have hj : j < D.2.2.1 + 1 := hj
    rw [e7]
    simp only [upd]
    by_cases q : j = D.2.2.1
    · rw [if_pos q, q, pup_s]
    · rw [if_neg q, pup_n q]; exact h.2.2.1 j (by omega)
  · have hj : j < D.2.2.1 + 1 := hj
    rw [e8]
    simp only [upd]
    by_cases q : j = D.2.2.1
    · rw [if_pos q, q, pup_s]
    · rw [if_neg q, pup_n q]; exact h.2.2.2 j (by omega)
theorem sp_readOne (hI : jInj X T0) (hT : T.1 ≤ 150) (hB : ∀ k, k < T.1 → T.2 k < 256) {first : Bool} (hc : tTok T c) (ht : jTxt (M 54 2) (M 55) T) (hk : mTk M c) (hD : mDr M D) (hw : rDw D)
    (hf : ∀ e M', rd1 T c first D = .inl e → mRd M M' → M' 54 4 = nI e → Q (some (.int 0)) M')
    (hs : ∀ c' D' M', rd1 T c first D = .inr (c', D') → mRd M M' → mTk M' c' → mDr M' D' → Q (some (.int 1)) M') : jOk X T0 (d + 2) q_X8_readOne [.ref 54, .int (jBI first)] M Q := by
  have hb := hc.b
  have hw1 := hw.1
  have hk7 : knd c ≤ 7 := by
    unfold knd
    split
    · exact ksort_le _
    · exact Nat.le_refl _
  have at158 : ∀ (a3 : Int32) (w : Nat) (tm : Nat × Nat × Nat × Nat) (M2 : jMem), rd1 T c first D = rdm T (knd c) w tm D → rok (knd c) first D = true → mRd M M2 → tTok T tm → mTk M2 tm → mDr M2 D →
      jRun X T0 (d + 2) q_X8_readOne (158, [.ref 54, .int (jBI first), .int (nI (knd c)), .int a3, .int (nI w)], [], M2) Q := by
    intro a3 w tm M2 er ho f2 htm hkm hD2
    have hb2 := htm.b
    have k6 := rok_le ho hk7
    refine v_X8_readOne_158 _ _ _ _ _ _ ?_
    rw [hkm.2.1]
    refine ⟨fun g3 => ?_, fun g3 => hf tm.1 M2 (by rw [er, rdm, if_neg (fun q => g3 (by rw [q]; rfl))]) f2 hkm.1⟩
    have e3 : tm.2.1 = 3 := nI_inj (by omega) (by decide) g3
    have er2 : rd1 T c first D = .inr (tok T tm.2.2.2, radd (knd c) w D) := by rw [er, rdm, if_pos e3]
    have at214 : ∀ M3 : jMem, mRd M M3 → M3 54 3 = nI tm.2.2.2 → mDr M3 (radd (knd c) w D) → jRun X T0 (d + 2) q_X8_readOne (214, [.ref 54, .int (jBI first), .int (nI (knd c)), .int a3, .int (nI w)], [], M3) Q := by
      intro M3 f3 z3 D3
      exact v_X8_readOne_214 _ _ _ _ _ _ (sp_mnext hI hT hB hb2.2.2.1 (ht.mrd f3) z3 (fun M4 f4 k4 => ⟨rfl, hs _ _ M4 er2 (f3.tr f4.rfr) k4 (D3.tf f4)⟩))
    rw [hD2.1]
    refine ⟨fun n6 => ?_, fun g6 M3 e4 => ?_⟩
    · have n6 : knd c ≠ 6 := fun q => n6 (by rw [q]; rfl)
      have hr : D.2.2.1 < 32 := by
        unfold rok at ho
        rw [if_neg (by omega), if_neg n6] at ho
        exact (of_decide_eq_true ho).1
      refine ⟨vp_in_nI hr (by decide), fun M3 e3 => ?_⟩
      have z3 : M3 54 = M2 54 := by subst e3; rw [jP_n (by decide)]
      rw [z3, hD2.1]
      refine ⟨vp_in_nI hr (by decide), fun M4 e4 M5 e5 => ?_⟩
      rw [nI_cl (by omega)] at e3 e4
      have z4 : M4 54 = M2 54 := by subst e4; rw [jP_n (by decide), z3]
      have x : ∀ j, j ≠ 54 → j ≠ 67 → j ≠ 68 → M5 j = M2 j := fun j a b e => by subst e5; subst e4; subst e3; rw [jP_n a, jP_n e, jP_n b]
      have y : ∀ j, j ≠ 27 → M5 54 j = M2 54 j := fun j a => by subst e5; rw [jP_s, ← z4]; simp [upd, a]
      refine at214 M5 ⟨fun j a b e => by rw [x j a b e]; exact f2.1 j a b e, fun j hj => by rw [y j (by omega)]; exact f2.2 j hj⟩ (by rw [y 3 (by decide)]; exact hkm.2.2.1) ?_
      unfold radd
      rw [if_neg n6]
      refine mDr_add hr hD2 ?_ ?_ ?_ (y 28 (by decide))
      · subst e5; subst e4; subst e3; rw [jP_n (by decide), jP_n (by decide), jP_s]
      · subst e5; subst e4; subst e3; rw [jP_n (by decide), jP_s, jP_n (by decide)]
      · subst e5; rw [jP_s, z4, hD2.1, nI_1]; simp [upd]
    · have e6 : knd c = 6 := nI_inj (by omega) (by decide) g6
      have x : ∀ j, j ≠ 54 → M3 j = M2 j := fun j a => by subst e4; rw [jP_n a]
      have y : ∀ j, j ≠ 28 → M3 54 j = M2 54 j := fun j a => by subst e4; rw [jP_s]; simp [upd, a]
      refine at214 M3 ⟨fun j a b e => by rw [x j a]; exact f2.1 j a b e, fun j hj => by rw [y j (by omega)]; exact f2.2 j hj⟩ (by rw [y 3 (by decide)]; exact hkm.2.2.1) ?_
      unfold radd
      rw [if_pos e6]
      exact ⟨by rw [y 27 (by decide)]; exact hD2.1, by subst e4; rw [jP_s]; simp [upd], by rw [x 67 (by decide)]; exact hD2.2.2.1, by rw [x 68 (by decide)]; exact hD2.2.2.2⟩
  have at108 : ∀ a3 : Int32, rok (knd c) first D = true → jRun X T0 (d + 2) q_X8_readOne (108, [.ref 54, .int (jBI first), .int (nI (knd c)), .int a3, .null], [], M) Q := by
    intro a3 ho
    have k6 := rok_le ho hk7
    refine v_X8_readOne_108 _ _ _ _ _ (sp_mnext hI hT hB hb.2.2.1 ht hk.2.2.1 (fun M1 f1 k1 => ⟨rfl, fun z5 => ?_, fun z5 => ?_⟩))
    · have k5 : knd c = 5 := nI_inj (by omega) (by decide) z5
      refine at158 a3 0 (tok T c.2.2.2) M1 ?_ ho f1.rfr hc.nx k1 (hD.tf f1)
      unfold rd1
      rw [if_pos ho, if_pos k5, k5]
    · have n5 : knd c ≠ 5 := fun q => z5 (by rw [q]; rfl)
      refine sp_isRight hI k6 n5 k1 hc.nx (hD.tf f1) hw ⟨_, rfl, fun g => ?_, fun g => ?_⟩
      · have hr := jnb g
        have at152 : jRun X T0 (d + 2) q_X8_readOne (152, [.ref 54, .int (jBI first), .int (nI (knd c)), .int a3, .int 0], [.int (nI (rnum (tok T c.2.2.2)))], M1) Q := by
          refine v_X8_readOne_152 _ _ _ _ _ _ _ (sp_mnext hI hT hB hc.nx.b.2.2.1 (ht.mtf f1) k1.2.2.1 (fun M2 f2 k2 => ⟨rfl, ?_⟩))
          refine at158 a3 _ (tok T (tok T c.2.2.2).2.2.2) M2 ?_ ho (f1.tr f2).rfr hc.nx.nx k2 (hD.tf (f1.tr f2))
          unfold rd1
          rw [if_pos ho, if_neg n5, if_pos hr]
        have hb1 := hc.nx.b
        have two : (tok T c.2.2.2).2.1 = 1 ∧ 97 ≤ (tok T c.2.2.2).2.2.1 ∨ (tok T c.2.2.2).2.1 = 2 := by
          rcases (show knd c = 0 ∨ knd c = 1 ∨ knd c = 2 ∨ knd c = 3 ∨ knd c = 4 ∨ knd c = 6 by omega) with q | q | q | q | q | q
          all_goals
            rw [q] at hr
            simp [rri] at hr
            omega
        unfold rnum at at152
        rw [k1.2.1]
        refine ⟨fun g1 => ?_, fun g1 => ?_⟩
        · have n1 : (tok T c.2.2.2).2.1 ≠ 1 := fun q => g1 (by rw [q]; rfl)
          rw [if_neg n1] at at152
          rw [k1.2.2.2 (Or.inr (by omega))]
          exact at152
        · have e1 : (tok T c.2.2.2).2.1 = 1 := nI_inj (by omega) (by decide) g1
          rw [if_pos e1] at at152
          rw [k1.2.2.2 (Or.inl e1), show (97 : Int32) = nI 97 from rfl, pk_sub (by omega)]
          exact at152
      · have hr := jBI_0.mp g
        refine hf _ M1 ?_ f1.rfr k1.1
        unfold rd1
        rw [if_pos ho, if_neg n5, if_neg (by rw [hr]; decide)]
  have no : rok (knd c) first D = false → Q (some (.int 0)) M := fun ho => hf _ M (rd1_no ho) mRd.rf hk.1
  obtain ⟨kI, ekI⟩ : ∃ kI : Int32, kI = (if knd c = 7 then -9 else nI (knd c)) := ⟨_, rfl⟩
  have kI_ne : ∀ j, j ≤ 6 → (kI = nI j ↔ knd c = j) := by
    intro j hj
    rw [ekI]
    by_cases e7 : knd c = 7
    · rw [if_pos e7]
      refine ⟨fun q => absurd q ?_, fun q => by omega⟩
      rcases (show j = 0 ∨ j = 1 ∨ j = 2 ∨ j = 3 ∨ j = 4 ∨ j = 5 ∨ j = 6 by omega) with rfl | rfl | rfl | rfl | rfl | rfl | rfl <;> decide
    · rw [if_neg e7]
      exact ⟨fun q => nI_inj (by omega) (by omega) q, fun q => by rw [q]⟩
  have kI_9 : kI = -9 ↔ knd c = 7 := by
    rw [ekI]
    by_cases e7 : knd c = 7
    · rw [if_pos e7]; exact ⟨fun _ => e7, fun _ => rfl⟩
    · rw [if_neg e7]
      refine ⟨fun q => absurd q ?_, fun q => absurd q e7⟩
      rcases (show knd c = 0 ∨ knd c = 1 ∨ knd c = 2 ∨ knd c = 3 ∨ knd c = 4 ∨ knd c = 5 ∨ knd c = 6 by omega) with q | q | q | q | q | q | q <;> rw [q] <;> decide
  have at91 : (knd c ≠ 7) → (knd c = 6 → first = true) → (D.2.2.1 < 32 → knd c ≠ 6 → rok (knd c) first D = true) → jRun X T0 (d + 2) q_X8_readOne (91, [.ref 54, .int (jBI first), .int kI, .int 0, .null], [], M) Q := by
    intro n7 h6 hr
    have ek : kI = nI (knd c) := by rw [ekI, if_neg n7]
    refine v_X8_readOne_91 _ _ _ _ _ ⟨fun g => ?_, fun g => ?_⟩
    · have e6 := (kI_ne 6 (by decide)).mp g
      rw [ek]
      exact at108 0 (by rw [e6]; exact h6 e6)
    · have n6 : knd c ≠ 6 := fun q => g ((kI_ne 6 (by decide)).mpr q)
      rw [hD.1]
      refine ⟨fun g2 => ?_, fun g2 => ?_⟩
      · rw [ek]
        refine at108 0 (hr ?_ n6)
        have : D.2.2.1 ≠ 32 := fun q => g2 (by rw [q]; rfl)
        omega
      · have : D.2.2.1 = 32 := nI_inj (by omega) (by decide) g2
        refine no ?_
        unfold rok
        rw [if_neg n7, if_neg n6]
        exact decide_eq_false (fun q => by have := q.1; omega)
  have at65 : rok (knd c) first D = false → jRun X T0 (d + 2) q_X8_readOne (65, [.ref 54, .int (jBI first), .int kI, .null, .null], [], M) Q := by
    intro ho
    exact v_X8_readOne_65 _ _ _ _ (v_X8_readOne_70 _ _ _ _ _ ⟨fun _ => no ho, fun _ => ⟨fun _ => no ho, fun g => absurd g (by decide)⟩⟩)
  have at69 : (knd c = 2 → pct D.1 2 D.2.2.1 < 10) → (knd c = 4 → pct D.1 4 D.2.2.1 < 6) → (knd c = 5 → pct D.1 5 D.2.2.1 < 3) → jRun X T0 (d + 2) q_X8_readOne (69, [.ref 54, .int (jBI first), .int kI, .null, .null], [], M) Q := by
    intro h2 h4 h5
    have hr : knd c ≠ 7 → D.2.2.1 < 32 → knd c ≠ 6 → rok (knd c) first D = true := by
      intro n7 h32 n6
      unfold rok
      rw [if_neg n7, if_neg n6]
      exact decide_eq_true ⟨h32, h2, h4, h5⟩
    refine v_X8_readOne_69 _ _ _ _ (v_X8_readOne_70 _ _ _ _ _ ⟨fun g => no (rok_7 (kI_9.mp g)), fun g => ⟨fun g => absurd rfl g, fun _ => ⟨fun g6 => ?_, fun g6 => ⟨fun g1 => ?_, fun g1 => ?_⟩⟩⟩⟩)
    · exact at91 (fun q => g (kI_9.mpr q)) (fun q => absurd ((kI_ne 6 (by decide)).mpr q) g6) (hr (fun q => g (kI_9.mpr q)))
    · refine no ?_
      rw [(kI_ne 6 (by decide)).mp g6]
      exact jBI_0.mp g1
    · exact at91 (fun q => g (kI_9.mpr q)) (fun _ => jnb g1) (hr (fun q => g (kI_9.mpr q)))
  have full : ∀ s, rroom s D = false → s ≤ 5 → knd c = s → rok (knd c) first D = false := by
    intro s hs h5 e
    unfold rok
    rw [if_neg (by omega), if_neg (by omega), e]
    exact hs
  have at51 : (knd c = 2 → pct D.1 2 D.2.2.1 < 10) → (knd c = 4 → pct D.1 4 D.2.2.1 < 6) → jRun X T0 (d + 2) q_X8_readOne (51, [.ref 54, .int (jBI first), .int kI, .null, .null], [], M) Q := by
    intro h2 h4
    refine v_X8_readOne_51 _ _ _ _ ⟨fun g => at69 h2 h4 (fun q => absurd ((kI_ne 5 (by decide)).mpr q) g), fun g => sp_tellOf (s := 5) hI (by decide) hD hw ⟨_, rfl, fun g2 => ?_, fun g2 => ?_⟩⟩
    · refine at69 h2 h4 (fun _ => ?_)
      have : pct D.1 5 D.2.2.1 ≠ 3 := fun q => g2 (by rw [q]; rfl)
      omega
    · have : pct D.1 5 D.2.2.1 = 3 := nI_inj (by omega) (by decide) g2
      exact at65 (full 5 (decide_eq_false (fun q => by have := q.2.2.2 rfl; omega)) (by decide) ((kI_ne 5 (by decide)).mp g))
  have at36 : (knd c = 2 → pct D.1 2 D.2.2.1 < 10) → jRun X T0 (d + 2) q_X8_readOne (36, [.ref 54, .int (jBI first), .int kI, .null, .null], [], M) Q := by
    intro h2
    refine v_X8_readOne_36 _ _ _ _ ⟨fun g => at51 h2 (fun q => absurd ((kI_ne 4 (by decide)).mpr q) g), fun g => sp_tellOf (s := 4) hI (by decide) hD hw ⟨_, rfl, fun g2 => ?_, fun g2 => ?_⟩⟩
    · have : pct D.1 4 D.2.2.1 = 6 := nI_inj (by omega) (by decide) g2
      exact at65 (full 4 (decide_eq_false (fun q => by have := q.2.2.1 rfl; omega)) (by decide) ((kI_ne 4 (by decide)).mp g))
    · refine at51 h2 (fun _ => ?_)
      have : pct D.1 4 D.2.2.1 ≠ 6 := fun q => g2 (by rw [q]; rfl)
      omega
  have at20 : jRun X T0 (d + 2) q_X8_readOne (20, [.ref 54, .int (jBI first), .null, .null, .null], [.int kI], M) Q := by
    refine v_X8_readOne_20 _ _ _ _ ⟨fun g => at36 (fun q => absurd ((kI_ne 2 (by decide)).mpr q) g), fun g => sp_tellOf (s := 2) hI (by decide) hD hw ⟨_, rfl, fun g2 => ?_, fun g2 => ?_⟩⟩
    · have : pct D.1 2 D.2.2.1 = 10 := nI_inj (by omega) (by decide) g2
      exact at65 (full 2 (decide_eq_false (fun q => by have := q.2.1 rfl; omega)) (by decide) ((kI_ne 2 (by decide)).mp g))
    · refine at36 (fun _ => ?_)
      have : pct D.1 2 D.2.2.1 ≠ 10 := fun q => g2 (by rw [q]; rfl)
      omega
  refine v_X8_readOne hI _ _ _ ?_
  rw [hk.2.1]
  refine ⟨fun g => ?_, fun g => ?_⟩
  · rw [ekI, if_pos (knd_7 (fun q => g (by rw [q]; rfl)))] at at20
    exact at20
  · have e1 : c.2.1 = 1 := nI_inj (by omega) (by decide) g
    have hv := hb.2.2.2.2.1 e1
    rw [hk.2.2.2 (Or.inl e1)]
    refine sp_sortBy hI (by omega) ⟨_, rfl, ?_⟩
    rw [ekI, show knd c = ksort c.2.2.1 from if_pos e1] at at20
    exact at20
theorem sp_areL (hI : jInj X T0) (hD : mDr M D) (hw : rDw D) (hf : ¬ rlab D → Q (some (.int 0)) M) (hs : rlab D → Q (some (.int 1)) M) : jOk X T0 (d + 1) q_X8_areLabelsThere [.ref 54] M Q := by
  have hn := hw.1.1
  refine v_X8_areLabelsThere hI _ _ ?_
  have key : ∀ i, i ≤ D.2.2.1 → (∀ k, k < i → (D.1 k = 2 ∨ D.1 k = 4) → 0 < pli D.1 D.2.1 (D.2.1 k) D.2.2.1) → jRun X T0 (d + 1) q_X8_areLabelsThere (2, [.ref 54, .int (nI i)], [], M) Q := by
    refine jUp ?_ ?_
    · intro hh
      refine v_X8_areLabelsThere_2 _ _ _ ?_
      rw [hD.1]
      exact ⟨fun _ => hs hh, fun g => absurd (sp_le (Nat.le_refl _) (by omega)) g⟩
    · intro i hi ih hh
      have h5 := hw.2.1 i hi
      refine v_X8_areLabelsThere_2 _ _ _ ?_
      rw [hD.1, nI_cl (by omega), hD.2.2.1 i hi, hD.2.2.2 i hi]
      have go : (D.1 i = 2 ∨ D.1 i = 4) → jOk X T0 d q_X8_isLabelTold [.ref 54, .int (nI (D.2.1 i))] M (fun v M1 => ∃ r1, v = some (.int r1) ∧ ((¬ r1 = 0 → jRun X T0 (d + 1) q_X8_areLabelsThere (2, [.ref 54, .int (nI i + 1)], [], M1) Q) ∧ (r1 = 0 → Q (some (.int 0)) M1))) := by
        intro q
        have h8 := hw.2.2.2.2 i hi (by omega)
        refine sp_toldL hI (by omega) hD hw ⟨_, rfl, fun g => ?_, fun g => ?_⟩
        · rw [nI_1]
          refine ih (fun k hk qk => ?_)
          by_cases r : k = i
          · subst r; exact of_decide_eq_true (jnb g)
          · exact hh k (by omega) qk
        · exact hf (fun r => of_decide_eq_false (jBI_0.mp g) (r i hi q))
      refine ⟨fun g => absurd g (sp_nle hi (by omega)), fun _ => ⟨vp_in_nI (by omega) (by decide), fun g => go (Or.inl (nI_inj (by omega) (by decide) g)), fun g => ⟨fun g4 => ?_, fun g4 => go (Or.inr (nI_inj (by omega) (by decide) g4))⟩⟩⟩
      rw [nI_1]
      refine ih (fun k hk qk => ?_)
      by_cases r : k = i
      · subst r
        exact absurd qk (fun q => q.elim (fun q => g (by rw [q]; rfl)) (fun q => g4 (by rw [q]; rfl)))
      · exact hh k (by omega) qk
  exact key 0 (Nat.zero_le _) (fun k hk => absurd hk (Nat.not_lt_zero k))
end JMS
