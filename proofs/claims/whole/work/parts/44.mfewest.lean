section JFZ
variable {X : jX} {d : Nat} {M M0 : jMem} {Q : Option Value → jMem → Prop} {so V : Nat → Nat} {n rc : Nat} {fw : Int32}
theorem sp_mayBe (hI : jInj X T0) {b : Nat} (hb : b < 24) (hc : mCtx M0 so V n rc) (hw : jWf so V n rc) (hS : mSS M0 M V) (h : Q (some (.int (jBI (pal so V n b)))) M) : jOk X T0 (d + 2) q_X8_mayBe [.ref 54, .int (nI b)] M Q := by
  have h5 := hw.1.2.2.2.2
  refine v_X8_mayBe hI _ _ _ ?_
  have e5 : nI b / 8 = nI (b / 8) := by rw [show (8 : Int32) = nI 8 from rfl]; exact pk_div (by omega) (by decide) (by decide)
  have e6 : nI b - nI b / 8 * 8 = nI (b % 8) := by rw [show (8 : Int32) = nI 8 from rfl]; exact pk_rem (by omega) (by decide) (by decide)
  rw [e6, e5]
  refine sp_isIsle (so := so) (V := V) (n := n) hI (by rw [hS.2.1 16 (by decide) (by decide)]; exact hc.1.2.2.2.2.1) (by rw [hS.1 61 (by decide) (by decide) (by decide)]; exact hc.2.2.1) hw.1.1 h5 ⟨_, rfl, jbz _, ?_⟩
  have h8 : b % 8 < 8 := Nat.mod_lt _ (by decide)
  rw [nI_cl (by omega)]
  have d1 : decide (0 ≤ nI (b / 8) ∧ nI (b / 8) < nI (pct so 5 n)) = decide (b / 8 < pct so 5 n) := decide_eq_decide.mpr ⟨fun q => (nI_ltI (by omega) (by omega)).mp q.2, fun q => ⟨nI_pos' (by omega), nI_lt q (by omega)⟩⟩
  have d2 : decide (0 ≤ nI (b % 8) ∧ nI (b % 8) < 8) = true := decide_eq_true ⟨nI_pos' (by omega), nI_lt (b := 8) h8 (by decide)⟩
  rw [d1, d2, Bool.true_and]
  exact h
/-- one try: all three may be, and they serve -/
def pt1 (ok al : Nat → Bool) (a : Nat) : Option Nat := if al a && ok (2 ^ a) then some (2 ^ a) else none
def pt2 (ok al : Nat → Bool) (a b : Nat) : Option Nat := if (al a && al b) && ok (2 ^ a ||| 2 ^ b) then some (2 ^ a ||| 2 ^ b) else none
def pt3 (ok al : Nat → Bool) (a b c : Nat) : Option Nat := if (al a && al b && al c) && ok (2 ^ a ||| 2 ^ b ||| 2 ^ c) then some (2 ^ a ||| 2 ^ b ||| 2 ^ c) else none
theorem pfind_none {f : Nat → Option Nat} : ∀ c b, (∀ i, b ≤ i → i < b + c → f i = none) → pfind f c b = none
  | 0, _, _ => rfl
  | c + 1, b, h => by rw [pfind_n (h b (Nat.le_refl _) (by omega))]; exact pfind_none c (b + 1) (fun i h1 h2 => h i (by omega) (by omega))
theorem pfind_cut {f : Nat → Option Nat} (N : Nat) (h : ∀ i, N ≤ i → f i = none) : ∀ c b, b + c = N → ∀ e, pfind f (c + e) b = pfind f c b
  | 0, b, hb, e => by rw [Nat.zero_add]; exact pfind_none e b (fun i h1 _ => h i (by omega))
  | c + 1, b, hb, e => by
    rw [show c + 1 + e = (c + e) + 1 by omega]
    cases hf : f b with
    | some r => rw [pfind_s hf, pfind_s hf]
    | none => rw [pfind_n hf, pfind_n hf]; exact pfind_cut N h c (b + 1) (by omega) e
theorem pfl_24 (h5 : pct so 5 n ≤ 3) (ok : Nat → Bool) (m isl : Nat) : pfl ok (pal so V n) (m + 1) isl 24 = pfl ok (pal so V n) (m + 1) isl (8 * pct so 5 n) := by
  simp only [pfl]
  have := pfind_cut (f := fun b => if pal so V n b then pfl ok (pal so V n) m (isl ||| 2 ^ b) b else none) (8 * pct so 5 n) (fun i hi => by
    have : pal so V n i = false := by
      simp only [pal]
      rw [decide_eq_false (by omega)]
      rfl
    simp [this]) (8 * pct so 5 n) 0 (by omega) (24 - 8 * pct so 5 n)
  rw [show 8 * pct so 5 n + (24 - 8 * pct so 5 n) = 24 by omega] at this
  exact this
theorem pfl_1 (ok al : Nat → Bool) : pfl ok al 1 0 24 = pfind (pt1 ok al) 24 0 := by
  simp only [pfl]
  refine pfind_cong _ _ (fun a _ _ => ?_)
  unfold pt1
  rw [Nat.zero_or]
  cases al a <;> cases ok (2 ^ a) <;> rfl
theorem pfl_2 (ok al : Nat → Bool) : pfl ok al 2 0 24 = pfind (fun a => pfind (pt2 ok al a) a 0) 24 0 := by
  simp only [pfl]
  refine pfind_cong _ _ (fun a _ _ => ?_)
  cases ha : al a
  · simp
    rw [pfind_none _ _ (fun b _ _ => by simp [pt2, ha])]
  · simp
    refine pfind_cong _ _ (fun b _ _ => ?_)
    unfold pt2
    rw [ha]
    cases al b <;> cases ok (2 ^ a ||| 2 ^ b) <;> rfl
theorem pfl_3 (ok al : Nat → Bool) : pfl ok al 3 0 24 = pfind (fun a => pfind (fun b => pfind (pt3 ok al a b) b 0) a 0) 24 0 := by
  simp only [pfl]
  refine pfind_cong _ _ (fun a _ _ => ?_)
  cases ha : al a
  · simp
    rw [pfind_none _ _ (fun b _ _ => pfind_none _ _ (fun c _ _ => by simp [pt3, ha]))]
  · simp
    refine pfind_cong _ _ (fun b _ _ => ?_)
    cases hb : al b
    · simp
      rw [pfind_none _ _ (fun c _ _ => by simp [pt3, ha, hb])]
    · simp
      refine pfind_cong _ _ (fun c _ _ => ?_)
      unfold pt3
      rw [ha, hb]
      cases al c <;> cases ok (2 ^ a ||| 2 ^ b ||| 2 ^ c) <;> rfl
def piB (o : Option Nat) : Int32 := match o with
  | none => -1
  | some b => nI b
def pbs (o : Option Nat) : Nat := match o with
  | none => 0
  | some b => 2 ^ b
def pbl (al : Nat → Bool) (o : Option Nat) : Bool := match o with
  | none => true
  | some b => al b
theorem pbs_i {o : Option Nat} (h : ∀ b, o = some b → b < 24) : (0 ≤ piB o → (1 : Int32) <<< (piB o &&& 31) = nI (pbs o)) ∧ (¬ 0 ≤ piB o → o = none) := by
  cases o with
  | none => exact ⟨fun q => absurd q (by decide), fun _ => rfl⟩
  | some b => exact ⟨fun _ => jshl1 b (by have := h b rfl; omega), fun q => absurd (nI_pos' (by have := h b rfl; omega)) q⟩
/-- the try itself, from where its may-be's are asked -/
theorem sp_try (hI : jInj X T0) {m a : Nat} {b c : Option Nat} (ha : a < 24) (hb : ∀ i, b = some i → i < 24) (hc3 : ∀ i, c = some i → i < 24) (hc : mCtx M0 so V n rc) (hw : jWf so V n rc) (hS : mSS M0 M V) {s0 s1 : Int32} (hlt : ¬ s0 ≤ s1)
    (hy : ((pal so V n a && pbl (pal so V n) b && pbl (pal so V n) c) && pok so V n rc (2 ^ a ||| pbs b ||| pbs c)) = true → ∀ M', mSS M0 M' V → Q (some (.int (nI (2 ^ a ||| pbs b ||| pbs c)))) M')
    (hno : ((pal so V n a && pbl (pal so V n) b && pbl (pal so V n) c) && pok so V n rc (2 ^ a ||| pbs b ||| pbs c)) = false → ∀ M', mSS M0 M' V → jRun X T0 (d + 5) q_X8_serving (64, [.ref 54, .int (nI m), .int (nI a), .int (piB b), .int (piB c + 1), .null, .null], [], M') Q) :
    jRun X T0 (d + 5) q_X8_serving (76, [.ref 54, .int (nI m), .int (nI a), .int (piB b), .int (piB c), .null, .null], [.int s0, .int s1], M) Q := by
  have sb := pbs_i hb
  have sc := pbs_i hc3
  -- from 118 on
  have at118 : ∀ q : Bool, q = (pal so V n a && pbl (pal so V n) b && pbl (pal so V n) c) → jRun X T0 (d + 5) q_X8_serving (118, [.ref 54, .int (nI m), .int (nI a), .int (piB b), .int (piB c), .null, .null], [.int (jBI q)], M) Q := by
    intro q hq
    have at148 : jRun X T0 (d + 5) q_X8_serving (148, [.ref 54, .int (nI m), .int (nI a), .int (piB b), .int (piB c), .int (jBI q), .null], [.int (nI (pbs c)), .int (nI (2 ^ a ||| pbs b))], M) Q := by
      refine v_X8_serving_148 _ _ _ _ _ _ _ _ _ ?_
      rw [fa_or]
      refine ⟨fun g => v_X8_serving_168 _ _ _ _ _ _ _ _ (hno (by rw [← hq, jBI_0.mp g]; rfl) M hS), fun g => ?_⟩
      have hq1 := jnb g
      rw [hq1] at hq
      have hq2 := hq.symm
      simp only [Bool.and_eq_true] at hq2
      have hpa : psk so V n (2 ^ a) := by have := psk_or (so := so) (V := V) (n := n) psk0 ha hq2.1.1; rw [Nat.zero_or] at this; exact this
      have hpb : psk so V n (2 ^ a ||| pbs b) := by
        cases b with
        | none => rw [show pbs none = 0 from rfl, Nat.or_zero]; exact hpa
        | some i => exact psk_or hpa (hb i rfl) hq2.1.2
      have hpc : psk so V n (2 ^ a ||| pbs b ||| pbs c) := by
        cases c with
        | none => rw [show pbs none = 0 from rfl, Nat.or_zero]; exact hpb
        | some i => exact psk_or hpb (hc3 i rfl) hq2.2
      refine sp_doServe hI hc hw hpc hS (fun M2 hS2 => ⟨_, rfl, fun g2 => v_X8_serving_168 _ _ _ _ _ _ _ _ (hno (by rw [jBI_0.mp g2, Bool.and_false]) M2 hS2), fun g2 => hy (by rw [← hq, jnb g2]; rfl) M2 hS2⟩)
    have at134 : jRun X T0 (d + 5) q_X8_serving (134, [.ref 54, .int (nI m), .int (nI a), .int (piB b), .int (piB c), .int (jBI q), .null], [.int (nI (pbs b)), .int (nI (2 ^ a))], M) Q := by
      refine v_X8_serving_134 _ _ _ _ _ _ _ _ _ ?_
      rw [fa_or]
      refine ⟨fun g => ?_, fun g => ?_⟩
      · rw [sc.1 g]; exact at148
      · have := sc.2 g
        rw [show (0 : Int32) = nI (pbs c) by rw [this]; rfl]
        exact at148
    refine v_X8_serving_118 _ _ _ _ _ _ _ ?_
    rw [jshl1 a (by omega)]
    refine ⟨fun g => ?_, fun g => ?_⟩
    · rw [sb.1 g]; exact at134
    · have := sb.2 g
      rw [show (0 : Int32) = nI (pbs b) by rw [this]; rfl]
      exact at134
  have out : (pal so V n a && pbl (pal so V n) b && pbl (pal so V n) c) = false → jRun X T0 (d + 5) q_X8_serving (117, [.ref 54, .int (nI m), .int (nI a), .int (piB b), .int (piB c), .null, .null], [], M) Q := fun hz => v_X8_serving_117 _ _ _ _ _ _ (at118 false hz.symm)
  have at99 : pal so V n a = true → pbl (pal so V n) b = true → jRun X T0 (d + 5) q_X8_serving (99, [.ref 54, .int (nI m), .int (nI a), .int (piB b), .int (piB c), .null, .null], [], M) Q := by
    intro h1 h2
    have ok113 : pbl (pal so V n) c = true → jRun X T0 (d + 5) q_X8_serving (113, [.ref 54, .int (nI m), .int (nI a), .int (piB b), .int (piB c), .null, .null], [], M) Q := fun h3 => v_X8_serving_113 _ _ _ _ _ _ (at118 true (by rw [h1, h2, h3]; rfl))
    refine v_X8_serving_99 _ _ _ _ _ _ ?_
    cases c with
    | none => exact ⟨fun _ => ok113 rfl, fun g => absurd (by decide) g⟩
    | some i =>
      refine ⟨fun g => absurd g (nI_pos (by have := hc3 i rfl; omega)), fun _ => ?_⟩
      exact sp_mayBe hI (hc3 i rfl) hc hw hS ⟨_, rfl, fun g => out (by rw [show pbl (pal so V n) (some i) = false from jBI_0.mp g, Bool.and_false]), fun g => ok113 (jnb g)⟩
  refine v_X8_serving_76 _ _ _ _ _ _ _ _ ⟨fun g => absurd g hlt, fun _ => ?_⟩
  refine sp_mayBe hI ha hc hw hS ⟨_, rfl, fun g => out (by rw [jBI_0.mp g]; rfl), fun g => ?_⟩
  have h1 := jnb g
  cases b with
  | none => exact ⟨fun _ => at99 h1 rfl, fun g => absurd (by decide) g⟩
  | some i =>
    refine ⟨fun g => absurd g (nI_pos (by have := hb i rfl; omega)), fun _ => ?_⟩
    exact sp_mayBe hI (hb i rfl) hc hw hS ⟨_, rfl, fun g => out (by rw [show pbl (pal so V n) (some i) = false from jBI_0.mp g, Bool.and_false, Bool.false_and]), fun g => at99 h1 (jnb g)⟩
end JFZ
