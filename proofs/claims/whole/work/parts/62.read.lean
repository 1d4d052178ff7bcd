section JRG
variable {X : jX} {d : Nat} {M M' : jMem} {Q : Option Value → jMem → Prop} {T : Nat × (Nat → Nat)} {so P : Nat → Nat} {n rc k v : Nat} {D : jPg} {c t : Nat × Nat × Nat × Nat}
def rD0 : jPg := (fun _ => 0, fun _ => 0, 0, 20)
def rdl (T : Nat × (Nat → Nat)) : Nat → Bool → (Nat × Nat × Nat × Nat) → jPg → Nat ⊕ jPg
  | 0, _, _, D => .inr D
  | f + 1, first, c, D => if c.2.1 = 0 then .inr D else match rd1 T c first D with
    | .inl e => .inl e
    | .inr q => rdl T f false q.1 q.2
def rall (T : Nat × (Nat → Nat)) : Nat ⊕ jPg := rdl T 150 true (tok T 0) rD0
def rlab (D : jPg) : Prop := ∀ k, k < D.2.2.1 → (D.1 k = 2 ∨ D.1 k = 4) → 0 < pli D.1 D.2.1 (D.2.1 k) D.2.2.1
theorem rDw0 : rDw rD0 := by
  refine ⟨⟨by decide, by decide, by decide, by decide, by decide⟩, fun k hk => absurd hk (Nat.not_lt_zero k), fun k hk => absurd hk (Nat.not_lt_zero k), fun k hk => absurd hk (Nat.not_lt_zero k), fun k hk => absurd hk (Nat.not_lt_zero k)⟩
theorem radd_ok (hD : rDw D) {f : Bool} (hr : rok k f D = true) (hk : k ≤ 7) (h0 : k = 0 → 1 ≤ v ∧ v ≤ 60) (h1 : (k = 1 ∨ k = 2 ∨ k = 4) → v < 8) (h3 : k = 3 → v = 2 ∨ v = 4 ∨ v = 8 ∨ v = 16) (h6 : k = 6 → v ≤ 127) : rDw (radd k v D) := by
  have k6 := rok_le hr hk
  unfold radd
  by_cases e : k = 6
  · rw [if_pos e]
    exact ⟨⟨hD.1.1, h6 e, hD.1.2.2⟩, hD.2⟩
  · rw [if_neg e]
    unfold rok at hr
    rw [if_neg (by omega), if_neg e] at hr
    exact rDw_add hD (by omega) hr h0 h1 h3
theorem rd1_ok {f : Bool} (hc : tTok T c) (hD : rDw D) {c' : Nat × Nat × Nat × Nat} {D' : jPg} (h : rd1 T c f D = .inr (c', D')) : tTok T c' ∧ rDw D' ∧ c.1 < c'.1 := by
  have hb := hc.b
  have hk7 : knd c ≤ 7 := by
    unfold knd
    split
    · exact ksort_le _
    · exact Nat.le_refl _
  unfold rd1 at h
  by_cases ho : rok (knd c) f D = true
  · rw [if_pos ho] at h
    have k6 := rok_le ho hk7
    have k1 : c.2.1 = 1 := by
      by_cases q : c.2.1 = 1
      · exact q
      · rw [knd_7 q] at k6
        exact absurd k6 (by decide)
    have lt := hb.2.2.2.1 (by omega)
    have g1 := hc.gt
    have g2 := hc.nx.gt
    have g3 := hc.nx.nx.gt
    have b1 := hc.nx.b
    have b2 := hc.nx.nx.b
    by_cases e5 : knd c = 5
    · rw [if_pos e5] at h
      unfold rdm at h
      by_cases e3 : (tok T c.2.2.2).2.1 = 3
      · rw [if_pos e3] at h
        cases h
        have := b1.2.2.2.1 (by omega)
        refine ⟨hc.nx.nx, ?_, by omega⟩
        rw [e5] at ho
        exact radd_ok hD ho (by decide) (fun q => absurd q (by decide)) (fun q => absurd q (by decide)) (fun q => absurd q (by decide)) (fun q => absurd q (by decide))
      · rw [if_neg e3] at h
        cases h
    · rw [if_neg e5] at h
      by_cases er : rri (knd c) (tok T c.2.2.2) D = true
      · rw [if_pos er] at h
        have hx := rri_num er k6 e5 b1.2.2.2.2.2
        unfold rdm at h
        by_cases e3 : (tok T (tok T c.2.2.2).2.2.2).2.1 = 3
        · rw [if_pos e3] at h
          cases h
          have z2 := b2.2.2.2.1 (by omega)
          have z1 : (tok T c.2.2.2).1 ≤ (tok T c.2.2.2).2.2.2 := by
            by_cases q : (tok T c.2.2.2).2.1 = 0
            · exfalso
              rcases (show knd c = 0 ∨ knd c = 1 ∨ knd c = 2 ∨ knd c = 3 ∨ knd c = 4 ∨ knd c = 6 by omega) with r | r | r | r | r | r
              all_goals
                rw [r] at er
                simp [rri] at er
                omega
            · exact Nat.le_of_lt (b1.2.2.2.1 q).2
          exact ⟨hc.nx.nx.nx, radd_ok hD ho hk7 hx.1 hx.2.1 hx.2.2.1 hx.2.2.2.1, by omega⟩
        · rw [if_neg e3] at h
          cases h
      · rw [if_neg er] at h
        cases h
  · rw [if_neg ho] at h
    cases h
theorem rdl_ok (hT : T.1 ≤ 150) : ∀ (f : Nat) (first : Bool) (c : Nat × Nat × Nat × Nat) (D D' : jPg), tTok T c → rDw D → rdl T f first c D = .inr D' → rDw D'
  | 0, _, _, D, D', _, hD, h => by cases h; exact hD
  | f + 1, first, c, D, D', hc, hD, h => by
    simp only [rdl] at h
    split at h
    · cases h; exact hD
    · split at h
      · cases h
      · rename_i q hq
        obtain ⟨c2, D2⟩ := q
        have := rd1_ok hc hD hq
        exact rdl_ok hT f false c2 D2 D' this.1 this.2.1 h
theorem rdm_le (ht : tTok T t) {e : Nat} (h : rdm T k v t D = .inl e) : e ≤ T.1 := by
  unfold rdm at h
  split at h
  · cases h
  · cases h; exact ht.b.1
theorem rd1_le {f : Bool} (hc : tTok T c) {e : Nat} (h : rd1 T c f D = .inl e) : e ≤ T.1 := by
  unfold rd1 at h
  split at h
  · split at h
    · exact rdm_le hc.nx h
    · split at h
      · exact rdm_le hc.nx.nx h
      · cases h; exact hc.nx.b.1
  · cases h; exact hc.b.1
theorem rdl_le : ∀ (f : Nat) (first : Bool) (c : Nat × Nat × Nat × Nat) (D : jPg) (e : Nat), tTok T c → rDw D → rdl T f first c D = .inl e → e ≤ T.1
  | 0, _, _, D, e, _, _, h => by cases h
  | f + 1, first, c, D, e, hc, hD, h => by
    simp only [rdl] at h
    split at h
    · cases h
    · split at h
      · rename_i hq
        cases h
        exact rd1_le hc hq
      · rename_i q hq
        obtain ⟨c2, D2⟩ := q
        have := rd1_ok hc hD hq
        exact rdl_le f false c2 D2 e this.1 this.2.1 h
theorem tTok0 : tTok T (tok T 0) := ⟨0, Nat.zero_le _, rfl⟩
theorem sp_empty3 (hI : jInj X T0) (h : ∀ M', (∀ c, c ≠ 3 → c ≠ 8 → M' c = M c) → jDr M' rD0 → Q none M') : jOk X T0 d q_X3_empty [.ref 3] M Q := by
  refine v_X3_empty hI _ _ ?_
  have key : ∀ i, i ≤ 8 → ∀ M2 : jMem, (∀ c, c ≠ 8 → M2 c = M c) → (∀ k, k < i → M2 8 k = -1) → jRun X T0 d q_X3_empty (2, [.ref 3, .int (nI i)], [], M2) Q := by
    refine jUp ?_ ?_
    · intro M2 m1 m2
      refine v_X3_empty_2 _ _ _ ⟨fun _ M3 e3 M4 e4 M5 e5 M6 e6 M7 e7 M8 e8 => ?_, fun g => absurd (by decide) g⟩
      have o : ∀ c, c ≠ 3 → M8 c = M2 c := fun c hc => by subst e8; subst e7; subst e6; subst e5; subst e4; subst e3; rw [jP_n hc, jP_n hc, jP_n hc, jP_n hc, jP_n hc, jP_n hc]
      refine h M8 (fun c a b => by rw [o c a]; exact m1 c b) ⟨⟨?_, ?_, ?_, ?_, ?_, ?_⟩, ⟨fun k hk => absurd hk (Nat.not_lt_zero k), fun k hk => absurd hk (Nat.not_lt_zero k), fun k hk => absurd hk (Nat.not_lt_zero k)⟩, fun x hx => ?_, fun k hk => absurd hk (Nat.not_lt_zero k), fun k hk => absurd hk (Nat.not_lt_zero k), fun k hk => absurd hk (Nat.not_lt_zero k)⟩
      · subst e8; subst e7; subst e6; subst e5; subst e4; subst e3; simp [jP_s, upd]; rfl
      · subst e8; subst e7; subst e6; subst e5; subst e4; subst e3; simp [jP_s, upd]; rfl
      · subst e8; subst e7; subst e6; subst e5; subst e4; subst e3; simp [jP_s, upd]; rfl
      · subst e8; subst e7; subst e6; subst e5; subst e4; subst e3; simp [jP_s, upd]; rfl
      · subst e8; subst e7; subst e6; subst e5; subst e4; subst e3; simp [jP_s, upd]; rfl
      · subst e8; subst e7; subst e6; subst e5; subst e4; subst e3; simp [jP_s, upd]; rfl
      · rw [o 8 (by decide), m2 x hx]; rfl
    · intro i hi ih M2 m1 m2
      refine v_X3_empty_2 _ _ _ ⟨fun g => absurd g (nI_ge (b := 8) hi (by decide)), fun _ => ⟨vp_in_nI hi (by decide), fun M3 e3 => ?_⟩⟩
      rw [nI_1]
      rw [nI_cl (by omega)] at e3
      refine ih M3 (fun c hc => by subst e3; rw [jP_n hc]; exact m1 c hc) (fun k hk => ?_)
      subst e3
      rw [jP_s]
      simp only [upd]
      by_cases q : k = i
      · rw [if_pos q]
      · rw [if_neg q]; exact m2 k (by omega)
  exact key 0 (by decide) M (fun _ _ => rfl) (fun k hk => absurd hk (Nat.not_lt_zero k))
theorem sp_isOf3 (hI : jInj X T0) {s : Nat} (hD : jDr M D) (hw : rDw D) (hk : k < D.2.2.1) (hs : s ≤ 5) (h : Q (some (.int (jBI (decide (D.1 k = s))))) M) : jOk X T0 (d + 1) q_X3_isOf [.ref 3, .int (nI k), .int (nI s)] M Q := by
  have hn := hw.1.1
  have h5 := hw.2.1 k hk
  refine v_X3_isOf hI _ _ _ _ (v_X3_hasItem hI _ _ _ ?_)
  rw [hD.1.1]
  refine ⟨fun g => absurd g (nI_pos (by omega)), fun _ => ⟨fun g => absurd g (sp_nle hk (by omega)), fun _ => ⟨_, rfl, fun g => absurd g (by decide), fun _ => ⟨vp_in_nI (by omega) (by decide), ?_⟩⟩⟩⟩
  rw [nI_cl (by omega), hD.2.1.1 k hk]
  refine ⟨fun g => ?_, fun g => ?_⟩
  · rw [decide_eq_false (fun q => g (by rw [q]))] at h; exact h
  · rw [decide_eq_true (nI_inj (by omega) (by omega) g)] at h; exact h
theorem sp_goes3 (hI : jInj X T0) (hD : jDr M D) (hw : rDw D) (hk : k < D.2.2.1) (h : Q (some (.int (jBI (decide (D.1 k = 2 ∨ D.1 k = 4))))) M) : jOk X T0 (d + 2) q_X3_goesToLabel [.ref 3, .int (nI k)] M Q := by
  refine v_X3_goesToLabel hI _ _ _ (sp_isOf3 (s := 2) hI hD hw hk (by decide) ⟨_, rfl, fun g => ?_, fun g => ?_⟩)
  · have := of_decide_eq_true (jnb g)
    rw [decide_eq_true (Or.inl this)] at h; exact h
  · have g1 := of_decide_eq_false (jBI_0.mp g)
    refine sp_isOf3 (s := 4) hI hD hw hk (by decide) ⟨_, rfl, fun g => ?_, fun g => ?_⟩
    · have g2 := of_decide_eq_false (jBI_0.mp g)
      rw [decide_eq_false (fun q => q.elim g1 g2)] at h; exact h
    · have := of_decide_eq_true (jnb g)
      rw [decide_eq_true (Or.inr this)] at h; exact h
theorem jDr.o7 (h : jDr M D) (e : ∀ c, c ≠ 7 → M' c = M c) : jDr M' D := by
  unfold jDr at h ⊢
  rw [e 3 (by decide), e 4 (by decide), e 5 (by decide), e 6 (by decide), e 8 (by decide), e 9 (by decide), e 10 (by decide), e 11 (by decide)]
  exact h
theorem sp_find (hI : jInj X T0) (hD : jDr M D) (hw : rDw D) (hf : ¬ rlab D → ∀ M', jRd M M' → Q (some (.int 0)) M')
    (hs : rlab D → ∀ M', jRd M M' → jDr M' D → (∀ k, k < D.2.2.1 → (D.1 k = 2 ∨ D.1 k = 4) → M' 7 k = nI (ptg D.1 D.2.1 D.2.2.1 k)) → Q (some (.int 1)) M') : jOk X T0 (d + 3) q_X3_findTargets [.ref 3] M Q := by
  have hn := hw.1.1
  refine v_X3_findTargets hI _ _ ?_
  have rd : ∀ M2 : jMem, (∀ c, c ≠ 7 → M2 c = M c) → jRd M M2 := fun M2 e => ⟨fun c hc => e c (by omega), by rw [e 1 (by decide)]⟩
  have key : ∀ i, i ≤ D.2.2.1 → ∀ M2 : jMem, (∀ c, c ≠ 7 → M2 c = M c) → (∀ k, k < i → (D.1 k = 2 ∨ D.1 k = 4) → 0 < pli D.1 D.2.1 (D.2.1 k) D.2.2.1 ∧ M2 7 k = nI (ptg D.1 D.2.1 D.2.2.1 k)) → jRun X T0 (d + 3) q_X3_findTargets (2, [.ref 3, .int (nI i)], [], M2) Q := by
    refine jUp ?_ ?_
    · intro M2 m1 m2
      refine v_X3_findTargets_2 _ _ _ ?_
      rw [(hD.o7 m1).1.1]
      exact ⟨fun _ => hs (fun k hk q => (m2 k hk q).1) M2 (rd M2 m1) (hD.o7 m1) (fun k hk q => (m2 k hk q).2), fun g => absurd (sp_le (Nat.le_refl _) (by omega)) g⟩
    · intro i hi ih M2 m1 m2
      have hD2 := hD.o7 m1
      refine v_X3_findTargets_2 _ _ _ ?_
      rw [hD2.1.1]
      refine ⟨fun g => absurd g (sp_nle hi (by omega)), fun _ => sp_goes3 hI hD2 hw hi ⟨_, rfl, fun g => ?_, fun g => ?_⟩⟩
      · have g := of_decide_eq_true (jnb g)
        have h8 := hw.2.2.2.2 i hi (by omega)
        have hp := pli_le (so := D.1) (V := D.2.1) (x := D.2.1 i) D.2.2.1
        refine ⟨vp_in_nI (by omega) (by decide), ?_⟩
        rw [nI_cl (by omega), hD2.2.1.2.1 i hi]
        refine sp_hasLabel3 (so := D.1) (P := D.2.1) (n := D.2.2.1) hI h8 (hD2.2.2.1 _ h8) hn ⟨_, rfl, fun g2 => ?_, fun g2 => ?_⟩
        · have g2 := of_decide_eq_true (jnb g2)
          rw [hD2.2.1.2.1 i hi]
          refine ⟨vp_in_nI h8 (by decide), fun M3 e3 => ?_⟩
          rw [nI_cl (by omega), hD2.2.2.1 _ h8, show (1 : Int32) = nI 1 from rfl, pk_sub (by omega)] at e3
          rw [nI_1]
          refine ih M3 (fun c hc => by subst e3; rw [jP_n hc]; exact m1 c hc) (fun k hk q => ?_)
          subst e3
          rw [jP_s]
          simp only [upd]
          by_cases r : k = i
          · subst r
            rw [if_pos rfl]
            exact ⟨g2, rfl⟩
          · rw [if_neg r]; exact m2 k (by omega) q
        · have g2 := of_decide_eq_false (jBI_0.mp g2)
          exact hf (fun q => g2 (q i hi g)) M2 (rd M2 m1)
      · have g := of_decide_eq_false (jBI_0.mp g)
        rw [nI_1]
        refine ih M2 m1 (fun k hk q => ?_)
        by_cases r : k = i
        · subst r; exact absurd q g
        · exact m2 k (by omega) q
  exact key 0 (Nat.zero_le _) M (fun _ _ => rfl) (fun k hk => absurd hk (Nat.not_lt_zero k))
theorem sp_readFrom (hI : jInj X T0) (hT : T.1 ≤ 150) (hB : ∀ k, k < T.1 → T.2 k < 256) (ht : jTxt (M 1 1) (M 2) T)
    (hf : ∀ e M', rall T = .inl e → jRd M M' → Q (some (.int (nI e))) M') (hl : ∀ D M', rall T = .inr D → ¬ rlab D → jRd M M' → Q (some (.int (nI T.1))) M')
    (hs : ∀ D M', rall T = .inr D → rlab D → jRd M M' → jDr M' D → (∀ k, k < D.2.2.1 → (D.1 k = 2 ∨ D.1 k = 4) → M' 7 k = nI (ptg D.1 D.2.1 D.2.2.1 k)) → Q (some (.int (-1))) M') : jOk X T0 (d + 4) q_X3_readFrom [.ref 3, .ref 1] M Q := by
  refine v_X3_readFrom hI _ _ (sp_empty3 hI (fun M1 o1 D1 => ⟨rfl, v_X6_begin hI _ _ (fun M2 e2 => ?_)⟩))
  have f1 : jRd M M1 := ⟨fun c hc => o1 c (by omega) (by omega), by rw [o1 1 (by decide) (by decide)]⟩
  have t1 : jTf M1 M2 := by subst e2; exact jTf.rf.put (by decide)
  have f2 : jRd M M2 := f1.tr t1.rfr
  refine sp_next (p0 := 0) hI hT hB (Nat.zero_le _) (ht.rf f2) (by subst e2; rw [jP_s]; rfl) (fun M3 t3 k3 => ⟨rfl, rfl, ?_⟩)
  have fin : ∀ (M4 : jMem) (D : jPg), rall T = .inr D → jRd M M4 → jDr M4 D → rDw D → jOk X T0 (d + 3) q_X3_findTargets [.ref 3] M4 (fun v M1 => ∃ r1, v = some (.int r1) ∧ ((r1 = 0 → Q (some (.int (M1 1 1))) M1) ∧ (¬ r1 = 0 → Q (some (.int (-1))) M1))) := by
    intro M4 D er f4 D4 w4
    refine sp_find hI D4 w4 (fun hn M5 f5 => ⟨_, rfl, fun _ => ?_, fun g => absurd rfl g⟩) (fun hy M5 f5 D5 e7 => ⟨_, rfl, fun g => absurd g (by decide), fun _ => hs D M5 er hy (f4.tr f5) D5 e7⟩)
    rw [(ht.rf (f4.tr f5)).1]
    exact hl D M5 er hn (f4.tr f5)
  have key : ∀ (f told : Nat) (c : Nat × Nat × Nat × Nat) (D : jPg) (M4 : jMem), told + f = 150 → tTok T c → (c.2.1 ≠ 0 → told ≤ c.1) → rDw D → rdl T f (decide (told = 0)) c D = rall T → jRd M M4 → jTk M4 c → jDr M4 D → jRun X T0 (d + 4) q_X3_readFrom (10, [.ref 3, .ref 1, .int (nI told)], [], M4) Q := by
    intro f
    induction f with
    | zero =>
      intro told c D M4 ef hc hle hw er f4 k4 D4
      refine v_X3_readFrom_10 _ _ _ ⟨fun _ => fin M4 D er.symm f4 D4 hw, fun g => absurd ?_ g⟩
      rw [show told = 150 by omega]
      decide
    | succ f ih =>
      intro told c D M4 ef hc hle hw er f4 k4 D4
      have hb := hc.b
      refine v_X3_readFrom_10 _ _ _ ⟨fun g => absurd g (nI_ge (b := 150) (by omega) (by decide)), fun _ => ?_⟩
      rw [k4.2.1]
      simp only [rdl] at er
      refine ⟨fun g => ?_, fun g => ?_⟩
      · have e0 : c.2.1 = 0 := nI_inj (by omega) (by decide) g
        rw [if_pos e0] at er
        exact fin M4 D er.symm f4 D4 hw
      · have e0 : c.2.1 ≠ 0 := fun q => g (by rw [q]; rfl)
        rw [if_neg e0] at er
        have lt := hle e0
        have rt : ∀ b : Bool, b = decide (told = 0) → jOk X T0 (d + 3) q_X3_readTold [.ref 3, .ref 1, .int (jBI b)] M4 (fun v M3 => ∃ r3, v = some (.int r3) ∧ ((¬ r3 = 0 → jRun X T0 (d + 4) q_X3_readFrom (10, [.ref 3, .ref 1, .int (nI told + 1)], [], M3) Q) ∧ (r3 = 0 → Q (some (.int (M3 1 2))) M3))) := by
          intro b hbb
          refine sp_readTold hI hT hB hc (ht.rf f4) k4 D4 hw (fun e M5 h5 f5 z5 => ⟨_, rfl, fun g => absurd rfl g, fun _ => ?_⟩) (fun c' D' M5 h5 f5 k5 D5 => ⟨_, rfl, fun _ => ?_, fun g => absurd g (by decide)⟩)
          · rw [hbb] at h5
            rw [h5] at er
            rw [z5]
            exact hf e M5 er.symm (f4.tr f5)
          · rw [hbb] at h5
            rw [h5] at er
            have ok := rd1_ok hc hw h5
            rw [nI_1]
            refine ih (told + 1) c' D' M5 (by omega) ok.1 (fun _ => by omega) ok.2.1 ?_ (f4.tr f5) k5 D5
            rw [decide_eq_false (by omega)]
            exact er
        refine ⟨fun g2 => ?_, fun g2 => ?_⟩
        · exact rt false (decide_eq_false (fun q => g2 (by rw [q]; rfl))).symm
        · exact rt true (decide_eq_true (nI_inj (b := 0) (by omega) (by decide) g2)).symm
  refine key 150 0 (tok T 0) rD0 M3 rfl tTok0 (fun _ => Nat.zero_le _) rDw0 rfl (f2.tr t3.rfr) k3 ((?_ : jDr M2 rD0).tf t3)
  exact D1.tf t1
end JRG
