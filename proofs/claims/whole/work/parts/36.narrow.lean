section JN2
variable {X : jX} {d : Nat} {M M0 : jMem} {Q : Option Value → jMem → Prop} {so V V' : Nat → Nat} {n rc rc' : Nat} {fw : Int32}
/-- nothing changed but the search's own cells -/
def jFs (M M' : jMem) : Prop := ∀ c, (c < 48 ∨ 53 < c) → M' c = M c
theorem jFs.rf : jFs M M := fun _ _ => rfl
theorem jFs.tr {M1 M2 : jMem} (h : jFs M M1) (h2 : jFs M1 M2) : jFs M M2 := fun c a => (h2 c a).trans (h c a)
theorem jFs.fz (h : jFs M0 M) : jFz M0 M := ⟨fun c a b => h c (by omega), fun k _ _ => by rw [h 0 (by decide)]⟩
theorem jFs.ca (h : jFs M0 M) (hc : jCa M0 so V n rc fw) : jCa M so V n rc fw := by
  obtain ⟨fd, a, b, c, e⟩ := hc
  refine ⟨fd, a, by rw [h 0 (by decide)]; exact b, fun w hw hb => ?_, fun hb => by rw [h 0 (by decide)]; exact e hb⟩
  obtain ⟨c1, c2⟩ := c w hw hb
  refine ⟨⟨?_, fun k hk => ?_⟩, ?_⟩
  · rw [h _ (by omega)]; exact c1.1
  · rw [h _ (by omega)]; exact c1.2 k hk
  · rw [h _ (by omega)]; exact c2
theorem jFs.put {c k : Nat} {v : Int32} (h : jFs M0 M) (hc : 48 ≤ c ∧ c ≤ 53) : jFs M0 (jP M c k v) := fun c' a => by rw [jP_n (by omega)]; exact h c' a
theorem jFs.sc {c : Nat} {f : Nat → Int32} (h : jFs M0 M) (hc : 48 ≤ c ∧ c ≤ 53) : jFs M0 (jSC M c f) := fun c' a => by rw [jSC_n (by omega)]; exact h c' a
theorem jFs.fr (h : jFs M0 M) {M2 : jMem} (h2 : jFr 51 52 M M2) : jFs M0 M2 := fun c a => by rw [h2.other (by omega) (by omega)]; exact h c a
theorem pli_cong (hV : ∀ k, k < n → so k ≠ 0 → V' k = V k) (x : Nat) : ∀ m, m ≤ n → pli so V' x m = pli so V x m
  | 0, _ => rfl
  | m + 1, hm => by
    simp only [pli]
    rw [pli_cong hV x m (by omega)]
    by_cases h1 : so m = 1
    · rw [hV m (by omega) (by omega)]
    · simp [h1]
theorem jCtx.tried (hc : jCtx M0 so V n rc 22 23) (hf : jFs M0 M) (hV : ∀ k, k < n → so k ≠ 0 → V' k = V k) (hz : ∀ k, k < n → so k = 0 → M 50 k = nI (V' k)) (h1 : M 49 1 = nI (V' 32)) (h2 : M 49 2 = nI (pis V')) (h3 : M 49 3 = nI rc') : jCtx M so V' n rc' 49 50 := by
  have pc := fun x => pli_cong (so := so) hV x n (Nat.le_refl _)
  obtain ⟨a, ⟨b1, b2, b3, b4⟩, ⟨c1, c2, c3, c4⟩, -⟩ := hc
  refine ⟨?_, ⟨?_, ?_, ?_, ?_⟩, ⟨?_, ?_, ?_, ?_⟩, hz, h1, h2, h3⟩
  · rw [hf 12 (by decide)]; exact a
  · rw [hf 13 (by decide)]; exact b1
  · rw [hf 14 (by decide)]; exact fun k hk hs => by rw [hV k hk hs]; exact b2 k hk hs
  · rw [hf 15 (by decide)]; exact b3
  · rw [hf 16 (by decide)]
    intro k hk hs
    rw [b4 k hk hs]
    unfold ptg
    rw [hV k hk (by omega), pc]
  · rw [hf 17 (by decide)]; exact fun x hx => by rw [pc]; exact c1 x hx
  · rw [hf 18 (by decide)]; exact c2
  · rw [hf 19 (by decide)]; exact c3
  · rw [hf 20 (by decide)]; exact c4
theorem jWf.rch (h : jWf so V n rc) (h2 : rc' ≤ 127) : jWf so V n rc' := ⟨⟨h.1.1, h2, h.1.2.2⟩, h.2⟩
/-- the search's shape becomes as that which is now -/
theorem sp_tried (hI : jInj X T0) (hc : jCtx M so V n rc 22 23) (hn : n ≤ 32)
    (h : ∀ M', jFs M M' → (∀ k, k < 32 → M' 50 k = M 23 k) → M' 49 1 = nI (V 32) → M' 49 2 = nI (pis V) → M' 49 3 = nI rc → Q none M') : jOk X T0 d q_X5_becomeAs [.ref 49, .ref 22] M Q := by
  refine v49_22_X5_becomeAs hI _ _ (fun M1 e1 M2 e2 M3 e3 M4 e4 => ?_)
  have f1 : jFs M M1 := by subst e1; exact jFs.rf.sc (by decide)
  have f2 : jFs M M2 := by subst e2; exact f1.put (by decide)
  have f3 : jFs M M3 := by subst e3; exact f2.put (by decide)
  have f4 : jFs M M4 := by subst e4; exact f3.put (by decide)
  refine h M4 f4 (fun k hk => ?_) ?_ ?_ ?_
  · rw [e4, jP_n (by decide), e3, jP_n (by decide), e2, jP_n (by decide), e1, jSC_s]
    rw [pk_cpy_in (Nat.zero_le _) (by omega)]
    simp
  · rw [e4, jP_s, e3, jP_s, e2, jP_s]
    simp [upd]
    rw [f1 22 (by decide)]
    exact hc.2.2.2.2.1
  · rw [e4, jP_s, e3, jP_s]
    simp [upd]
    rw [f2 22 (by decide)]
    exact hc.2.2.2.2.2.1
  · rw [e4, jP_s]
    simp [upd]
    rw [f3 22 (by decide)]
    exact hc.2.2.2.2.2.2
def pnw (so V : Nat → Nat) (n v : Nat) : Bool := decide ((pgrow (pstr so V n v) 10 (V 32)).1 = V 32)
def pnar (so V : Nat → Nat) (n : Nat) : Nat → Nat → Int32
  | 0, _ => -9
  | m + 1, v => if pnw so V n v = true then nI v else pnar so V n m (v + 1)
theorem pnar_t {m v : Nat} (h : pnw so V n v = true) : pnar so V n (m + 1) v = nI v := by simp only [pnar, if_pos h]
theorem pnar_f {m v : Nat} (h : pnw so V n v = false) : pnar so V n (m + 1) v = pnar so V n m (v + 1) := by simp only [pnar, h]; rfl
theorem cq_narrow (hI : jInj X T0) (hc : jCtx M so V n rc 22 23) (hw : jWf so V n rc) (hca : jCa M so V n rc fw)
    (h : ∀ M', jFz M M' → jCa M' so V n rc fw → Q (some (.int (pnar so V n 124 4))) M') : jOk X T0 (d + 5) q_X7_narrow [.ref 0] M Q := by
  have hp : 2 ^ pct so 2 n ≤ 2 ^ 10 := Nat.pow_le_pow_right (by decide) hw.1.2.2.1
  have hV := hw.2.2.1.1
  have hv : jLS 51 52 49 50 := Or.inr (Or.inr (Or.inr ⟨rfl, rfl, rfl, rfl⟩))
  refine v_X7_narrow hI _ _ (v_X4_leastReach hI _ _ (sp_tried hI hc hw.1.1 (fun M1 f1 z1 p1 i1 _ => ⟨rfl, ?_⟩)))
  obtain ⟨R, hR⟩ : ∃ R, R = pnar so V n 124 4 := ⟨_, rfl⟩
  rw [← hR] at h
  have key : ∀ v, v ≤ 128 → ∀ M1, 4 ≤ v → jFs M M1 → (∀ k, k < 32 → M1 50 k = M 23 k) → M1 49 1 = nI (V 32) → M1 49 2 = nI (pis V) → R = pnar so V n (128 - v) v →
      jRun X T0 (d + 4) q_X4_leastReach (10, [.ref 48, .ref 22, .int (nI v)], [], M1) (fun v M1 => ∃ r1, v = some (.int r1) ∧ Q (some (.int r1)) M1) := by
    refine jUp ?_ ?_
    · intro M1 _ f1 _ _ _ e
      refine v_X4_leastReach_10 _ _ _ ⟨fun _ => ⟨_, rfl, ?_⟩, fun g => absurd (by decide) g⟩
      have := h M1 f1.fz (f1.ca hca)
      rw [e] at this
      exact this
    · intro v hv128 ih M1 hv4 f1 z1 p1 i1 e
      refine v_X4_leastReach_10 _ _ _ ⟨fun g => absurd g (fun q => by rw [show (127 : Int32) = nI 127 from rfl, nI_ltI (by decide) (by omega)] at q; omega), fun _ M2 e2 => ?_⟩
      have f2 : jFs M M2 := by subst e2; exact f1.put (by decide)
      have z2 : ∀ k, k < 32 → M2 50 k = M 23 k := fun k hk => by subst e2; rw [jP_n (by decide)]; exact z1 k hk
      have p2 : M2 49 1 = nI (V 32) := by subst e2; rw [jP_s]; simp [upd]; exact p1
      have i2 : M2 49 2 = nI (pis V) := by subst e2; rw [jP_s]; simp [upd]; exact i1
      have r2 : M2 49 3 = nI v := by subst e2; rw [jP_s]; simp [upd]
      have hn := hw.1.1
      have hx : jCtx M2 so V n v 49 50 := hc.tried f2 (fun _ _ _ => rfl) (fun k hk hs => by rw [z2 k (by omega)]; exact hc.2.2.2.1 k hk hs) p2 i2 r2
      have hwv : jWf so V n v := hw.rch (by omega)
      rw [p2]
      have hstep : 128 - v = (128 - (v + 1)) + 1 := by omega
      rw [hstep] at e
      have hgl := pgrow_lt2 (so := so) (V := V) (n := n) (rc := v) (f := 10) hV
      refine sp_grow2 hI hv hx hwv hV (fun M3 fr3 l3 _ => ⟨rfl, ?_⟩)
      have f3 := f2.fr fr3
      rw [l3.1, f3 22 (by decide), hc.2.2.2.2.1]
      refine ⟨fun g => ?_, fun g => ⟨_, rfl, ?_⟩⟩
      · have hf : pnw so V n v = false := decide_eq_false (fun q => g (by rw [q]))
        rw [pnar_f hf] at e
        rw [nI_1]
        refine ih M3 (by omega) f3 (fun k hk => ?_) ?_ ?_ e
        · rw [fr3.other (by decide) (by decide)]; exact z2 k hk
        · rw [fr3.other (by decide) (by decide)]; exact p2
        · rw [fr3.other (by decide) (by decide)]; exact i2
      · have ht : pnw so V n v = true := decide_eq_true (nI_inj (by omega) (by omega) g)
        rw [pnar_t ht] at e
        have := h M3 f3.fz (f3.ca hca)
        rw [e] at this
        exact this
  exact key 4 (by decide) M1 (by decide) f1 z1 p1 i1 (by rw [hR])
theorem mCtx.reach {v : Nat} (hc : mCtx M so V n rc) : mCtx (jP M 54 8 (nI v)) so V n v := by
  have o : ∀ c, c ≠ 54 → jP M 54 8 (nI v) c = M c := fun c h => jP_n h
  have s : ∀ k, k ≠ 8 → jP M 54 8 (nI v) 54 k = M 54 k := fun k h => by rw [jP_s]; simp [upd, h]
  unfold mCtx
  simp only [o 56 (by decide), o 57 (by decide), o 58 (by decide), o 59 (by decide), o 60 (by decide), o 61 (by decide), s 7 (by decide), s 12 (by decide), s 14 (by decide), s 16 (by decide), s 18 (by decide)]
  exact ⟨⟨hc.1.1, by rw [jP_s]; simp [upd], hc.1.2.2⟩, hc.2⟩
theorem mq_narrow (hI : jInj X T0) (hc : mCtx M so V n rc) (hw : jWf so V n rc)
    (h : ∀ M', mFz M M' → Q (some (.int (pnar so V n 124 4))) M') : jOk X T0 (d + 4) q_X8_narrow [.ref 54] M Q := by
  have hp : 2 ^ pct so 2 n ≤ 2 ^ 10 := Nat.pow_le_pow_right (by decide) hw.1.2.2.1
  have hV := hw.2.2.1.1
  refine v_X8_narrow hI _ _ (fun M1 e1 => ?_)
  have hz1 : mFz M M1 := by subst e1; exact mFz.t0
  have hc1 := hz1.ctx hc
  rw [hc1.1.2.1]
  -- all but the reach is as it was
  have key : ∀ m, m ≤ 124 → ∀ (M2 : jMem) (r : Nat), mCtx M2 so V n r → (∀ c, c ≠ 54 → c ≠ 69 → c ≠ 70 → M2 c = M c) → (∀ k, k ≠ 0 → k ≠ 8 → k ≠ 30 → k ≠ 31 → M2 54 k = M 54 k) →
      jRun X T0 (d + 4) q_X8_narrow (16, [.ref 54, .int (nI rc), .int (pnar so V n (124 - m) (m + 4)), .int (nI (m + 3))], [], M2) Q := by
    intro m
    induction m with
    | zero =>
      intro _ M2 r hc2 o2 s2
      refine v_X8_narrow_16 _ _ _ _ _ ⟨fun _ M3 e3 => h M3 ⟨fun c a b e => ?_, fun k a b e => ?_⟩, fun g => absurd (by decide) g⟩
      · rw [e3, jP_n a]; exact o2 c a b e
      · rw [e3, jP_s]
        by_cases e8 : k = 8
        · subst e8; simp [upd]; exact hc.1.2.1.symm
        · simp [upd, e8]; exact s2 k a e8 b e
    | succ m ih =>
      intro hm M2 r hc2 o2 s2
      refine v_X8_narrow_16 _ _ _ _ _ ⟨fun g => absurd g (nI_ge (a := 3) (by omega) (by omega)), fun _ M3 e3 => ?_⟩
      have hc3 : mCtx M3 so V n (m + 4) := by subst e3; exact hc2.reach
      have o3 : ∀ c, c ≠ 54 → c ≠ 69 → c ≠ 70 → M3 c = M c := fun c a b e => by rw [e3, jP_n a]; exact o2 c a b e
      have s3 : ∀ k, k ≠ 0 → k ≠ 8 → k ≠ 30 → k ≠ 31 → M3 54 k = M 54 k := fun k a b e f => by rw [e3, jP_s]; simp [upd, b]; exact s2 k a b e f
      have hgl := pgrow_lt2 (so := so) (V := V) (n := n) (rc := m + 4) (f := 10) hV
      refine sp_mgrow2 hI hc3 (hw.rch (by omega)) (fun M4 fr4 l4 _ => ⟨rfl, ?_⟩)
      have hc4 := fr4.ctx hc3
      have o4 : ∀ c, c ≠ 54 → c ≠ 69 → c ≠ 70 → M4 c = M c := fun c a b e => by rw [fr4.other a b]; exact o3 c a b e
      have s4 : ∀ k, k ≠ 0 → k ≠ 8 → k ≠ 30 → k ≠ 31 → M4 54 k = M 54 k := fun k a b e f => by rw [fr4.fld e f]; exact s3 k a b e f
      rw [l4.1, hc4.2.1.2 32 (by decide), jdiff, show nI (m + 1 + 3) + -1 = nI (m + 3) from pk_m1 (m + 3)]
      have hstep : 124 - m = (124 - (m + 1)) + 1 := by omega
      have hd := pdiff_lt (b := V 32) hgl
      have iff0 : pdiff (pgrow (pstr so V n (m + 4)) 10 (V 32)).1 (V 32) = 0 ↔ pnw so V n (m + 4) = true := by
        unfold pnw
        rw [decide_eq_true_eq]
        refine ⟨fun z => Nat.eq_of_testBit_eq (fun j => ?_), fun z => by rw [z]; exact pdiff_self _⟩
        have h1 := congrArg (fun y => y.testBit j) z
        simp only [pdiff_bit, Nat.zero_testBit] at h1
        have h2 := pgrow_sup (so := so) (V := V) (n := n) (rc := m + 4) 10 (V 32) j
        revert h1 h2
        cases (pgrow (pstr so V n (m + 4)) 10 (V 32)).1.testBit j <;> cases (V 32).testBit j <;> simp
      refine ⟨fun g => ?_, fun g => ?_⟩
      · have hf : pnw so V n (m + 4) = false := by
          cases hz : pnw so V n (m + 4)
          · rfl
          · exact absurd (by rw [iff0.mpr hz]; rfl) g
        have := ih (by omega) M4 (m + 4) hc4 o4 s4
        rw [hstep, pnar_f hf] at this
        exact this
      · have ht := iff0.mp (nI_inj (by omega) (by decide) g)
        have := ih (by omega) M4 (m + 4) hc4 o4 s4
        rw [hstep, pnar_t ht] at this
        exact this
  have := key 124 (Nat.le_refl _) M1 rc hc1 (fun c a b e => hz1.1 c a b e) (fun k a _ b e => hz1.2 k a b e)
  exact this
end JN2
