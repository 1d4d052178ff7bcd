section JL2
variable {X : jX} {d : Nat} {M : jMem} {Q : Option Value → jMem → Prop} {L A S Z : Nat} {so V : Nat → Nat} {n rc lo : Nat}
/-- a layout's cells changed: what it reads is as it was -/
theorem jCtx.lay (hv : jLS L A S Z) (f g : Nat → Int32) (hc : jCtx M so V n rc S Z) : jCtx (jSC (jSC M L g) A f) so V n rc S Z := by
  have e : ∀ c, c ≠ L → c ≠ A → jSC (jSC M L g) A f c = M c := fun c h1 h2 => by rw [jSC_n h2, jSC_n h1]
  rcases hv with ⟨rfl, rfl, rfl, rfl⟩ | ⟨rfl, rfl, rfl, rfl⟩ | ⟨rfl, rfl, rfl, rfl⟩ | ⟨rfl, rfl, rfl, rfl⟩ <;>
  · unfold jCtx
    simp only [e 12 (by decide) (by decide), e 13 (by decide) (by decide), e 14 (by decide) (by decide), e 15 (by decide) (by decide), e 16 (by decide) (by decide), e 17 (by decide) (by decide), e 18 (by decide) (by decide), e 19 (by decide) (by decide), e 20 (by decide) (by decide), e 22 (by decide) (by decide), e 23 (by decide) (by decide), e 49 (by decide) (by decide), e 50 (by decide) (by decide)]
    exact hc
theorem jLS.ne (hv : jLS L A S Z) : L ≠ A ∧ L ≠ 12 ∧ A ≠ 12 := by
  rcases hv with ⟨rfl, rfl, rfl, rfl⟩ | ⟨rfl, rfl, rfl, rfl⟩ | ⟨rfl, rfl, rfl, rfl⟩ | ⟨rfl, rfl, rfl, rfl⟩ <;> decide
theorem jSC_two {i : Nat} {f g : Nat → Int32} : jSC (jSC M i f) i g = jSC M i g := by
  funext c
  by_cases h : c = i <;> simp [jSC, h]
theorem jP_sc {i k : Nat} {f : Nat → Int32} {v : Int32} : jP (jSC M i f) i k v = jSC M i (upd f k v) := by
  unfold jP
  rw [jSC_s, jSC_two]
theorem sp_lay (hI : jInj X T0) (hv : jLS L A S Z) (hc : jCtx M so V n rc S Z) (hw : jWf so V n rc) (h1 : lo < 2 ^ 31)
    (h : ∀ f : Nat → Int32, (∀ k, k ≤ n → f k = nI (ppos so V lo k)) → Q none (jSC (jSC M L (upd (M L) 2 (nI lo))) A f)) : jOk X T0 (d + 2) q_X1_lay [.ref L, .ref S, .int (nI lo)] M Q := by
  obtain ⟨hLA, hL12, hA12⟩ := hv.ne
  have hn := hw.1.1
  refine v_X1_lay hI hv _ _ _ (fun M1 e1 => ?_)
  have key : ∀ i, i ≤ n → ∀ f : Nat → Int32, (∀ k, k < i → f k = nI (ppos so V lo k)) →
      jRun X T0 (d + 2) q_X1_lay (10, [.ref L, .ref S, .int (nI lo), .int (nI (ppos so V lo i)), .int (nI i)], [], jSC (jSC M L (upd (M L) 2 (nI lo))) A f) Q := by
    refine jUp ?_ ?_
    · intro f hf
      have hc' := hc.lay hv f (upd (M L) 2 (nI lo))
      refine v_X1_lay_10 hv _ _ _ _ _ ⟨fun _ => ⟨?_, fun M2 e2 => ?_⟩, fun g => absurd ?_ g⟩
      · rw [hc'.1.1]; exact vp_in_nI (by omega) (by decide)
      · subst e2
        rw [hc'.1.1, nI_cl (by omega), jP_sc]
        refine h _ (fun k hk => ?_)
        by_cases e : k = n
        · subst e; simp [upd]
        · rw [show upd f n (nI (ppos so V lo n)) k = f k by simp [upd, e]]
          exact hf k (by omega)
      · rw [hc'.1.1]; exact nI_le (Nat.le_refl _) (by omega)
    · intro i hi ih f hf
      have hc' := hc.lay hv f (upd (M L) 2 (nI lo))
      refine v_X1_lay_10 hv _ _ _ _ _ ⟨fun g => absurd g ?_, fun _ => ⟨vp_in_nI (by omega) (by decide), fun M2 e2 => ?_⟩⟩
      · rw [hc'.1.1]; exact nI_ge hi (by omega)
      · subst e2
        rw [nI_cl (by omega), jP_sc]
        refine sp_bytesOf hI hv (hc.lay hv _ _) hw ?_ h1 hi (by have := ppos_lt (lo := lo) hw (show i ≤ n by omega); omega) ⟨_, rfl, ?_⟩
        · rw [jSC_n hLA, jSC_s]; simp [upd]
        · have := ih (upd f i (nI (ppos so V lo i))) (fun k hk => ?_)
          · rw [nI_add, nI_1]
            exact this
          · by_cases e : k = i
            · subst e; simp [upd]
            · rw [show upd f i (nI (ppos so V lo i)) k = f k by simp [upd, e]]
              exact hf k (by omega)
  have h0 := key 0 (Nat.zero_le _) (M A) (fun k hk => absurd hk (Nat.not_lt_zero k))
  have e2 : M1 = jSC (jSC M L (upd (M L) 2 (nI lo))) A (M A) := by
    subst e1
    funext c
    by_cases e : c = A
    · subst e
      rw [jSC_s, jP_n (fun q => hLA q.symm)]
    · rw [jSC_n e]
      rfl
  rw [e2]
  exact h0
end JL2
