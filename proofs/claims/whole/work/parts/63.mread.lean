section JMR
variable {X : jX} {d : Nat} {M M' : jMem} {Q : Option Value → jMem → Prop} {T : Nat × (Nat → Nat)} {so P : Nat → Nat} {n rc k v : Nat} {D : jPg} {c t : Nat × Nat × Nat × Nat}
def mRd (M M' : jMem) : Prop := (∀ c, c ≠ 54 → c ≠ 67 → c ≠ 68 → M' c = M c) ∧ ∀ k, k < 3 ∨ (6 < k ∧ k ≠ 27 ∧ k ≠ 28) → M' 54 k = M 54 k
theorem mRd.rf : mRd M M := ⟨fun _ _ _ _ => rfl, fun _ _ => rfl⟩
theorem mRd.tr {M1 M2 : jMem} (h : mRd M M1) (h2 : mRd M1 M2) : mRd M M2 := ⟨fun c a b e => (h2.1 c a b e).trans (h.1 c a b e), fun k a => (h2.2 k a).trans (h.2 k a)⟩
theorem mTf.rfr (h : mTf M M') : mRd M M' := ⟨fun c a _ _ => h.1 c a, fun k hk => h.2 k (by omega)⟩
theorem jTxt.mrd (h : jTxt (M 54 2) (M 55) T) (hf : mRd M M') : jTxt (M' 54 2) (M' 55) T := by rw [hf.1 55 (by decide) (by decide) (by decide), hf.2 2 (by decide)]; exact h
theorem mDr.tf (h : mDr M D) (hf : mTf M M') : mDr M' D := by
  unfold mDr at h ⊢
  rw [hf.1 67 (by decide), hf.1 68 (by decide), hf.2 27 (by decide), hf.2 28 (by decide)]
  exact h
theorem pct_1 {s i : Nat} : pct so s (i + 1) = pct so s i + (if so i = s then 1 else 0) := by
  unfold pct
  rw [fb_ct_succ]
  by_cases e : so i = s
  · rw [if_pos e, if_pos (by rw [e]; exact beq_self_eq_true s)]
  · rw [if_neg e, if_neg (fun q => e (beq_iff_eq.mp q))]
theorem pct_le {s : Nat} : ∀ i, pct so s i ≤ i
  | 0 => Nat.le_refl _
  | i + 1 => by
    have : pct so s i ≤ i := pct_le i
    rw [pct_1]
    split <;> omega
theorem pli_pos {x : Nat} : ∀ n, k < n → so k = 1 → P k = x → 0 < pli so P x n
  | 0, h, _, _ => absurd h (Nat.not_lt_zero _)
  | n + 1, h, h1, h2 => by
    simp only [pli]
    split
    · exact Nat.succ_pos _
    · rename_i g
      refine pli_pos n ?_ h1 h2
      rcases Nat.lt_or_ge k n with q | q
      · exact q
      · rw [show n = k by omega] at g
        exact absurd ⟨h1, h2⟩ g
theorem sp_sortBy (hI : jInj X T0) (hv : v < 2 ^ 20) (h : Q (some (.int (if ksort v = 7 then -9 else nI (ksort v)))) M) : jOk X T0 d q_X8_sortBy [.int (nI v)] M Q := by
  refine v_X8_sortBy hI _ _ _ ?_
  have e : ∀ j, j < 2 ^ 20 → (nI v = nI j ↔ v = j) := fun j hj => ⟨fun q => nI_inj (by omega) (by omega) q, fun q => by rw [q]⟩
  have o : ∀ j, ∀ r, v = j → (if ksort j = 7 then -9 else nI (ksort j)) = r → Q (some (.int r)) M := fun j r hj hr => by rw [hj, hr] at h; exact h
  refine ⟨fun g0 => ⟨fun g1 => ⟨fun g2 => ⟨fun g3 => ⟨fun g4 => ⟨fun g5 => ⟨fun g6 => ?_, fun g => o 114 _ ((e 114 (by decide)).mp g) (by decide)⟩, fun g => o 105 _ ((e 105 (by decide)).mp g) (by decide)⟩, fun g => o 99 _ ((e 99 (by decide)).mp g) (by decide)⟩, fun g => o 97 _ ((e 97 (by decide)).mp g) (by decide)⟩, fun g => o 106 _ ((e 106 (by decide)).mp g) (by decide)⟩, fun g => o 108 _ ((e 108 (by decide)).mp g) (by decide)⟩, fun g => o 111 _ ((e 111 (by decide)).mp g) (by decide)⟩
  have : ksort v = 7 := by
    unfold ksort
    rw [if_neg (fun q => g0 ((e 111 (by decide)).mpr q)), if_neg (fun q => g1 ((e 108 (by decide)).mpr q)), if_neg (fun q => g2 ((e 106 (by decide)).mpr q)), if_neg (fun q => g3 ((e 97 (by decide)).mpr q)), if_neg (fun q => g4 ((e 99 (by decide)).mpr q)), if_neg (fun q => g5 ((e 105 (by decide)).mpr q)), if_neg (fun q => g6 ((e 114 (by decide)).mpr q))]
  rw [if_pos this] at h
  exact h
theorem sp_tellOf (hI : jInj X T0) {s : Nat} (hs : s ≤ 5) (hD : mDr M D) (hw : rDw D) (h : Q (some (.int (nI (pct D.1 s D.2.2.1)))) M) : jOk X T0 d q_X8_tellOf [.ref 54, .int (nI s)] M Q := by
  have hn := hw.1.1
  refine v_X8_tellOf hI _ _ _ ?_
  have key : ∀ i, i ≤ D.2.2.1 → jRun X T0 d q_X8_tellOf (4, [.ref 54, .int (nI s), .int (nI (pct D.1 s i)), .int (nI i)], [], M) Q := by
    refine jUp ?_ ?_
    · refine v_X8_tellOf_4 _ _ _ _ _ ?_
      rw [hD.1]
      exact ⟨fun _ => h, fun g => absurd (sp_le (Nat.le_refl _) (by omega)) g⟩
    · intro i hi ih
      have h5 := hw.2.1 i hi
      refine v_X8_tellOf_4 _ _ _ _ _ ?_
      rw [hD.1, nI_cl (by omega), hD.2.2.1 i hi]
      refine ⟨fun g => absurd g (sp_nle hi (by omega)), fun _ => ⟨vp_in_nI (by omega) (by decide), fun g => ?_, fun g => ?_⟩⟩
      · rw [pct_1, if_neg (fun q => g (by rw [q]))] at ih
        rw [nI_1, show (0 : Int32) = nI 0 from rfl, nI_add]
        exact ih
      · rw [pct_1, if_pos (nI_inj (by omega) (by omega) g)] at ih
        rw [nI_1, nI_1]
        exact ih
  exact key 0 (Nat.zero_le _)
theorem sp_toldL (hI : jInj X T0) {x : Nat} (hx : x < 2 ^ 20) (hD : mDr M D) (hw : rDw D) (h : Q (some (.int (jBI (decide (0 < pli D.1 D.2.1 x D.2.2.1))))) M) : jOk X T0 d q_X8_isLabelTold [.ref 54, .int (nI x)] M Q := by
  have hn := hw.1.1
  refine v_X8_isLabelTold hI _ _ _ ?_
  have key : ∀ i, i ≤ D.2.2.1 → pli D.1 D.2.1 x i = 0 → jRun X T0 d q_X8_isLabelTold (2, [.ref 54, .int (nI x), .int (nI i)], [], M) Q := by
    refine jUp ?_ ?_
    · intro h0
      refine v_X8_isLabelTold_2 _ _ _ _ ?_
      rw [hD.1]
      rw [decide_eq_false (by omega)] at h
      exact ⟨fun _ => h, fun g => absurd (sp_le (Nat.le_refl _) (by omega)) g⟩
    · intro i hi ih h0
      have h5 := hw.2.1 i hi
      simp only [pli] at ih
      refine v_X8_isLabelTold_2 _ _ _ _ ?_
      rw [hD.1, nI_cl (by omega), hD.2.2.1 i hi, hD.2.2.2 i hi]
      refine ⟨fun g => absurd g (sp_nle hi (by omega)), fun _ => ⟨vp_in_nI (by omega) (by decide), fun g => ?_, fun g => ?_⟩⟩
      · rw [nI_1]
        exact ih (by rw [if_neg (fun q => g (by rw [q.1]; rfl))]; exact h0)
      · have g1 : D.1 i = 1 := nI_inj (by omega) (by decide) g
        have h8 := hw.2.2.2.2 i hi (Or.inl g1)
        refine ⟨fun g2 => ?_, fun g2 => ?_⟩
        · rw [nI_1]
          exact ih (by rw [if_neg (fun q => g2 (by rw [q.2]))]; exact h0)
        · have g3 : D.2.1 i = x := nI_inj (by omega) (by omega) g2
          rw [decide_eq_true (pli_pos _ hi g1 g3)] at h
          exact h
  exact key 0 (Nat.zero_le _) rfl
theorem sp_isRight (hI : jInj X T0) (hk6 : k ≤ 6) (hk5 : k ≠ 5) (hk : mTk M t) (ht : tTok T t) (hD : mDr M D) (hw : rDw D) (h : Q (some (.int (jBI (rri k t D)))) M) : jOk X T0 (d + 1) q_X8_isRight [.ref 54, .int (nI k)] M Q := by
  have hb := ht.b
  refine v_X8_isRight hI _ _ _ ?_
  have hv : t.2.1 = 1 ∨ t.2.1 = 2 → t.2.2.1 ≤ 999 := fun q => q.elim (fun q => by have := hb.2.2.2.2.1 q; omega) hb.2.2.2.2.2
  have num : ∀ lo hi : Nat, ∀ l u : Int64, l = (nI lo).toInt64 → u = (nI hi).toInt64 → lo < 2 ^ 20 → hi < 2 ^ 20 → rri k t D = decide (t.2.1 = 2 ∧ lo ≤ t.2.2.1 ∧ t.2.2.1 ≤ hi) → ((¬ (M 54 5) = 2 → Q (some (.int 0)) M) ∧ ((M 54 5) = 2 → jOk X T0 d q_X8_in [.long ((M 54 6).toInt64), .long l, .long u] M (fun v M1 => ∃ r1, v = some (.int r1) ∧ ((r1 = 0 → Q (some (.int 0)) M1) ∧ (¬ r1 = 0 → Q (some (.int 1)) M1))))) := by
    intro lo hi l u el eu hlo hhi er
    rw [er] at h
    rw [hk.2.1]
    refine ⟨fun g => ?_, fun g => sp_in hI ⟨_, rfl, ?_⟩⟩
    · rw [decide_eq_false (fun q => g (by rw [q.1]; rfl))] at h; exact h
    · have e2 : t.2.1 = 2 := nI_inj (by omega) (by decide) g
      have h9 := hv (Or.inr e2)
      rw [jin_i el eu, hk.2.2.2 (Or.inr e2), jin_nI (by omega) (by omega) (by omega)]
      refine ⟨fun g2 => ?_, fun g2 => ?_⟩
      · have g2 := of_decide_eq_false (jBI_0.mp g2)
        rw [decide_eq_false (fun q => g2 q.2)] at h; exact h
      · have g2 := of_decide_eq_true (jnb g2)
        rw [decide_eq_true ⟨e2, g2⟩] at h; exact h
  have at197 : k = 2 ∨ k = 4 → jRun X T0 (d + 1) q_X8_isRight (197, [.ref 54, .int (nI k)], [], M) Q := by
    intro hk2
    rw [show rri k t D = decide (t.2.1 = 1 ∧ 97 ≤ t.2.2.1 ∧ t.2.2.1 ≤ 104) by unfold rri; rw [if_neg (by omega), if_neg (by omega), if_neg (by omega), if_neg (by omega)]] at h
    refine v_X8_isRight_197 _ _ _ ?_
    rw [hk.2.1]
    refine ⟨fun g => ?_, fun g => sp_in hI ⟨_, rfl, ?_⟩⟩
    · rw [decide_eq_false (fun q => g (by rw [q.1]; rfl))] at h; exact h
    · have e1 : t.2.1 = 1 := nI_inj (by omega) (by decide) g
      have h9 := hv (Or.inl e1)
      rw [jin_i (l := 97) (u := 104) (lo := nI 97) (hi := nI 104) rfl rfl, hk.2.2.2 (Or.inl e1), jin_nI (by omega) (by decide) (by decide)]
      refine ⟨fun g2 => ?_, fun g2 => ?_⟩
      · have g2 := of_decide_eq_false (jBI_0.mp g2)
        rw [decide_eq_false (fun q => g2 q.2)] at h; exact h
      · have g2 := of_decide_eq_true (jnb g2)
        rw [decide_eq_true ⟨e1, g2⟩] at h; exact h
  rcases (show k = 0 ∨ k = 1 ∨ k = 2 ∨ k = 3 ∨ k = 4 ∨ k = 6 by omega) with rfl | rfl | rfl | rfl | rfl | rfl
  · exact ⟨fun _ => num 1 60 1 60 rfl rfl (by decide) (by decide) rfl, fun g => absurd rfl g⟩
  · refine ⟨fun g => absurd g (by decide), fun _ => ⟨fun _ => ?_, fun g => absurd rfl g⟩⟩
    rw [hk.2.1]
    refine ⟨fun g => ?_, fun g => sp_in hI ⟨_, rfl, ?_⟩⟩
    · rw [show rri 1 t D = false from decide_eq_false (fun q => g (by rw [q.1]; rfl))] at h; exact h
    · have e1 : t.2.1 = 1 := nI_inj (by omega) (by decide) g
      have h9 := hv (Or.inl e1)
      rw [jin_i (l := 97) (u := 104) (lo := nI 97) (hi := nI 104) rfl rfl, hk.2.2.2 (Or.inl e1), jin_nI (by omega) (by decide) (by decide)]
      refine ⟨fun g2 => ?_, fun g2 => ?_⟩
      · have g2 := of_decide_eq_false (jBI_0.mp g2)
        rw [show rri 1 t D = false from decide_eq_false (fun q => g2 ⟨q.2.1, q.2.2.1⟩)] at h; exact h
      · have g2 := of_decide_eq_true (jnb g2)
        rw [show (97 : Int32) = nI 97 from rfl, pk_sub g2.1]
        refine sp_toldL hI (by omega) hD hw ⟨_, rfl, fun g3 => ?_, fun g3 => ?_⟩
        · have g3 := of_decide_eq_true (jnb g3)
          rw [show rri 1 t D = false from decide_eq_false (fun q => by have := q.2.2.2; omega)] at h; exact h
        · have g3 := of_decide_eq_false (jBI_0.mp g3)
          rw [show rri 1 t D = true from decide_eq_true ⟨e1, g2.1, g2.2, by omega⟩] at h; exact h
  · exact ⟨fun g => absurd g (by decide), fun _ => ⟨fun g => absurd g (by decide), fun _ => ⟨fun _ => at197 (Or.inl rfl), fun g => absurd rfl g⟩⟩⟩
  · refine ⟨fun g => absurd g (by decide), fun _ => ⟨fun g => absurd g (by decide), fun _ => ⟨fun g => absurd g (by decide), fun _ => ⟨fun _ => ?_, fun g => absurd rfl g⟩⟩⟩⟩
    rw [hk.2.1]
    refine ⟨fun g => ?_, fun g => ?_⟩
    · rw [show rri 3 t D = false from decide_eq_false (fun q => g (by rw [q.1]; rfl))] at h; exact h
    · have e2 : t.2.1 = 2 := nI_inj (by omega) (by decide) g
      have h9 := hv (Or.inr e2)
      rw [hk.2.2.2 (Or.inr e2)]
      have yes : (t.2.2.1 = 2 ∨ t.2.2.1 = 4 ∨ t.2.2.1 = 8 ∨ t.2.2.1 = 16) → Q (some (.int 1)) M := fun q => by
        rw [show rri 3 t D = true from decide_eq_true ⟨e2, q⟩] at h; exact h
      have ie : ∀ j, j < 2 ^ 20 → nI t.2.2.1 = nI j → t.2.2.1 = j := fun j hj q => nI_inj (by omega) (by omega) q
      refine ⟨fun g2 => yes (Or.inl (ie 2 (by decide) g2)), fun n2 => ⟨fun g2 => yes (Or.inr (Or.inl (ie 4 (by decide) g2))), fun n4 => ⟨fun g2 => yes (Or.inr (Or.inr (Or.inl (ie 8 (by decide) g2)))), fun n8 => ⟨fun n16 => ?_, fun g2 => yes (Or.inr (Or.inr (Or.inr (ie 16 (by decide) g2))))⟩⟩⟩⟩
      rw [show rri 3 t D = false from decide_eq_false (fun q => by
        rcases q.2 with q | q | q | q
        · exact n2 (by rw [q]; rfl)
        · exact n4 (by rw [q]; rfl)
        · exact n8 (by rw [q]; rfl)
        · exact n16 (by rw [q]; rfl))] at h
      exact h
  · exact ⟨fun g => absurd g (by decide), fun _ => ⟨fun g => absurd g (by decide), fun _ => ⟨fun g => absurd g (by decide), fun _ => ⟨fun g => absurd g (by decide), fun _ => ⟨fun _ => at197 (Or.inr rfl), fun g => absurd rfl g⟩⟩⟩⟩⟩
  · exact ⟨fun g => absurd g (by decide), fun _ => ⟨fun g => absurd g (by decide), fun _ => ⟨fun g => absurd g (by decide), fun _ => ⟨fun g => absurd g (by decide), fun _ => ⟨fun g => absurd g (by decide), fun _ => ⟨fun g => absurd g (by decide), fun _ => ⟨fun _ => num 4 127 4 127 rfl rfl (by decide) (by decide) rfl, fun g => absurd rfl g⟩⟩⟩⟩⟩⟩⟩
end JMR
