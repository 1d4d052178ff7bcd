/-! a layout's cells against a memory that stays, in words that need no cells -/
section JF
variable {X : jX} {d : Nat} {M M0 : jMem} {Q : Option Value → jMem → Prop} {L A S Z : Nat} {so V : Nat → Nat} {n rc lo : Nat}
def jFr (L A : Nat) (M0 M : jMem) : Prop := ∃ g f : Nat → Int32, M = jSC (jSC M0 L g) A f ∧ ∀ k, k ≠ 2 → k ≠ 3 → g k = M0 L k
def mFr (M0 M : jMem) : Prop := ∃ g f : Nat → Int32, M = jSC (jSC M0 54 g) 69 f ∧ ∀ k, k ≠ 30 → k ≠ 31 → g k = M0 54 k
theorem jSC_self {a b : Nat} : jSC (jSC M a (M a)) b (M b) = M := by
  funext c
  by_cases h1 : c = b
  · subst h1; rw [jSC_s]
  · rw [jSC_n h1]
    by_cases h2 : c = a
    · subst h2; rw [jSC_s]
    · rw [jSC_n h2]
theorem jFr.rf : jFr L A M M := ⟨M L, M A, jSC_self.symm, fun _ _ _ => rfl⟩
theorem mFr.rf : mFr M M := ⟨M 54, M 69, jSC_self.symm, fun _ _ _ => rfl⟩
theorem jSC_four {a b : Nat} (h : a ≠ b) {g f g2 f2 : Nat → Int32} : jSC (jSC (jSC (jSC M a g) b f) a g2) b f2 = jSC (jSC M a g2) b f2 := by
  rw [jSC_swap (M := jSC M a g) (fun q => h q.symm), jSC_two, jSC_two]
theorem jFr.step (hLA : L ≠ A) (h : jFr L A M0 M) {g2 f2 : Nat → Int32} (hg : ∀ k, k ≠ 2 → k ≠ 3 → g2 k = M L k) : jFr L A M0 (jSC (jSC M L g2) A f2) := by
  obtain ⟨g, f, rfl, h1⟩ := h
  refine ⟨g2, f2, jSC_four hLA, fun k a b => ?_⟩
  rw [hg k a b, jSC_n hLA, jSC_s, h1 k a b]
theorem mFr.step (h : mFr M0 M) {g2 f2 : Nat → Int32} (hg : ∀ k, k ≠ 30 → k ≠ 31 → g2 k = M 54 k) : mFr M0 (jSC (jSC M 54 g2) 69 f2) := by
  obtain ⟨g, f, rfl, h1⟩ := h
  refine ⟨g2, f2, jSC_four (by decide), fun k a b => ?_⟩
  rw [hg k a b, jSC_n (by decide), jSC_s, h1 k a b]
theorem jP_self {L A : Nat} (hLA : L ≠ A) {k : Nat} {v : Int32} : jP M L k v = jSC (jSC M L (upd (M L) k v)) A (M A) := by
  unfold jP
  funext c
  by_cases h1 : c = A
  · subst h1; rw [jSC_s, jSC_n (fun q => hLA q.symm)]
  · rw [jSC_n h1]
theorem jFr.put (hLA : L ≠ A) (h : jFr L A M0 M) {k : Nat} {v : Int32} (hk : k = 2 ∨ k = 3) : jFr L A M0 (jP M L k v) := by
  rw [jP_self hLA]
  exact h.step hLA (fun j a b => by rcases hk with rfl | rfl <;> simp [upd, a, b])
theorem mFr.put (h : mFr M0 M) {k : Nat} {v : Int32} (hk : k = 30 ∨ k = 31) : mFr M0 (jP M 54 k v) := by
  rw [jP_self (A := 69) (by decide)]
  exact h.step (fun j a b => by rcases hk with rfl | rfl <;> simp [upd, a, b])
theorem jFr.other (h : jFr L A M0 M) {c : Nat} (h1 : c ≠ L) (h2 : c ≠ A) : M c = M0 c := by
  obtain ⟨g, f, rfl, -⟩ := h
  rw [jSC_n h2, jSC_n h1]
theorem mFr.other (h : mFr M0 M) {c : Nat} (h1 : c ≠ 54) (h2 : c ≠ 69) : M c = M0 c := by
  obtain ⟨g, f, rfl, -⟩ := h
  rw [jSC_n h2, jSC_n h1]
theorem mFr.fld (h : mFr M0 M) {k : Nat} (h1 : k ≠ 30) (h2 : k ≠ 31) : M 54 k = M0 54 k := by
  obtain ⟨g, f, rfl, h3⟩ := h
  rw [jSC_n (by decide), jSC_s, h3 k h1 h2]
theorem jFr.ctx (hv : jLS L A S Z) (h : jFr L A M0 M) (hc : jCtx M0 so V n rc S Z) : jCtx M so V n rc S Z := by
  obtain ⟨g, f, rfl, -⟩ := h
  exact hc.lay hv f g
theorem mFr.ctx (h : mFr M0 M) (hc : mCtx M0 so V n rc) : mCtx M so V n rc := by
  obtain ⟨g, f, rfl, h1⟩ := h
  exact hc.lay h1
theorem jFr.tr {M2 : jMem} (hLA : L ≠ A) (h : jFr L A M0 M) (h2 : jFr L A M M2) : jFr L A M0 M2 := by
  obtain ⟨g, f, rfl, h3⟩ := h2
  exact h.step hLA h3
theorem mFr.tr {M2 : jMem} (h : mFr M0 M) (h2 : mFr M M2) : mFr M0 M2 := by
  obtain ⟨g, f, rfl, h3⟩ := h2
  exact h.step h3
theorem jLaid.put (hLA : L ≠ A) (h : jLaid M L A so V n lo) {v : Int32} : jLaid (jP M L 3 v) L A so V n lo := by
  refine ⟨?_, fun k hk => ?_⟩
  · rw [jP_s]; simp [upd]; exact h.1
  · rw [jP_n (fun q => hLA q.symm)]; exact h.2 k hk
theorem mLaid.put (h : mLaid M so V n lo) {v : Int32} : mLaid (jP M 54 31 v) so V n lo := by
  refine ⟨?_, fun k hk => ?_⟩
  · rw [jP_s]; simp [upd]; exact h.1
  · rw [jP_n (by decide)]; exact h.2 k hk
theorem sp_lay2 (hI : jInj X T0) (hv : jLS L A S Z) (hc : jCtx M so V n rc S Z) (hw : jWf so V n rc) (h1 : lo < 2 ^ 31)
    (h : ∀ M', jFr L A M M' → jLaid M' L A so V n lo → M' L 3 = M L 3 → Q none M') : jOk X T0 (d + 2) q_X1_lay [.ref L, .ref S, .int (nI lo)] M Q := by
  obtain ⟨hLA, -, -⟩ := hv.ne
  refine sp_lay hI hv hc hw h1 (fun f hf => h _ (jFr.rf.step hLA (fun k a b => by simp [upd, a])) (jLaid.mk hLA (by simp [upd]) hf) ?_)
  rw [jSC_n hLA, jSC_s]; simp [upd]
theorem sp_grow2 (hI : jInj X T0) (hv : jLS L A S Z) (hc : jCtx M so V n rc S Z) (hw : jWf so V n rc) (h1 : lo < 2 ^ pct so 2 n)
    (h : ∀ M', jFr L A M M' → jLaid M' L A so V n (pgrow (pstr so V n rc) 10 lo).1 → M' L 3 = nI (pgrow (pstr so V n rc) 10 lo).2 → Q none M') : jOk X T0 (d + 3) q_X1_growFrom [.ref L, .ref S, .int (nI lo)] M Q := by
  obtain ⟨hLA, -, -⟩ := hv.ne
  refine sp_growFrom hI hv hc hw h1 (fun f g hg h2 h3 hf => h _ (jFr.rf.step hLA hg) (jLaid.mk hLA h2 hf) ?_)
  rw [jSC_n hLA, jSC_s]; exact h3
theorem sp_layOut2 (hI : jInj X T0) (hc : mCtx M so V n rc) (hw : jWf so V n rc) (h1 : lo < 2 ^ 31)
    (h : ∀ M', mFr M M' → mLaid M' so V n lo → M' 54 31 = M 54 31 → Q none M') : jOk X T0 (d + 1) q_X8_layOut [.ref 54, .int (nI lo)] M Q := by
  refine sp_layOut hI hc hw h1 (fun f hf => h _ (mFr.rf.step (fun k a b => by simp [upd, a])) (mLaid.mk (by simp [upd]) hf) ?_)
  rw [jSC_n (by decide), jSC_s]; simp [upd]
theorem sp_mgrow2 (hI : jInj X T0) (hc : mCtx M so V n rc) (hw : jWf so V n rc)
    (h : ∀ M', mFr M M' → mLaid M' so V n (pgrow (pstr so V n rc) 10 (V 32)).1 → M' 54 31 = nI (pgrow (pstr so V n rc) 10 (V 32)).2 → Q none M') : jOk X T0 (d + 3) q_X8_grow [.ref 54] M Q := by
  refine sp_mgrow hI hc hw (fun f g hg h2 h3 hf => h _ (mFr.rf.step hg) (mLaid.mk h2 hf) ?_)
  rw [jSC_n (by decide), jSC_s]; exact h3
/-- all jumps -/
theorem jall {m : Nat} (h : m ≤ 10) : (1 : Int32) <<< (nI m &&& 31) - 1 = nI (2 ^ m - 1) := by
  rw [jshl1 m (by omega), show (1 : Int32) = nI 1 from rfl, pk_sub (Nat.one_le_two_pow)]
theorem sp_allJumps (hI : jInj X T0) (hj : M 12 10 = nI (pct so 2 n)) (hm : pct so 2 n ≤ 10) (h : Q (some (.int (nI (2 ^ pct so 2 n - 1)))) M) : jOk X T0 d q_X3_allJumps [.ref 12] M Q := by
  refine v12_X3_allJumps hI _ _ ?_
  rw [hj, jall hm]
  exact h
def pwr (so V : Nat → Nat) (n rc lo : Nat) : Nat := pset (fun j => lo.testBit j && pnear rc (pfar so V n lo (pit so 2 j n) + (if ptg so V n (pit so 2 j n) < pit so 2 j n then 3 else 0))) (pct so 2 n)
def pmade (so V : Nat → Nat) (n rc lo held : Nat) : Nat := pdiff (pdiff (pwr so V n rc lo) (V 32)) held
def pshr (so V : Nat → Nat) (n rc : Nat) : Nat → Nat → Nat → Nat × Nat
  | 0, lo, _ => (lo, 0)
  | f + 1, lo, held => if pmade so V n rc lo held = 0 then (lo, 0) else
    ((pshr so V n rc f (pgrow (pstr so V n rc) 10 (pdiff lo (pmade so V n rc lo held))).1 (held ||| pdiff (pgrow (pstr so V n rc) 10 (pdiff lo (pmade so V n rc lo held))).1 (pdiff lo (pmade so V n rc lo held)))).1,
     (pshr so V n rc f (pgrow (pstr so V n rc) 10 (pdiff lo (pmade so V n rc lo held))).1 (held ||| pdiff (pgrow (pstr so V n rc) 10 (pdiff lo (pmade so V n rc lo held))).1 (pdiff lo (pmade so V n rc lo held)))).2 + 1)
theorem pshr_z {f held : Nat} (h : pmade so V n rc lo held = 0) : pshr so V n rc (f + 1) lo held = (lo, 0) := by simp only [pshr, if_pos h]
theorem pshr_s {f held : Nat} (h : pmade so V n rc lo held ≠ 0) : pshr so V n rc (f + 1) lo held = ((pshr so V n rc f (pgrow (pstr so V n rc) 10 (pdiff lo (pmade so V n rc lo held))).1 (held ||| pdiff (pgrow (pstr so V n rc) 10 (pdiff lo (pmade so V n rc lo held))).1 (pdiff lo (pmade so V n rc lo held)))).1,
     (pshr so V n rc f (pgrow (pstr so V n rc) 10 (pdiff lo (pmade so V n rc lo held))).1 (held ||| pdiff (pgrow (pstr so V n rc) 10 (pdiff lo (pmade so V n rc lo held))).1 (pdiff lo (pmade so V n rc lo held)))).2 + 1) := by simp only [pshr, if_neg h]
/-- a way back is less than nothing, a way on isn't -/
theorem pfar_sign (hw : jWf so V n rc) {k : Nat} (hk : k < n) (hs : so k = 2) : (ptg so V n k < k → pfar so V n lo k < 0) ∧ (¬ ptg so V n k < k → 0 ≤ pfar so V n lo k) := by
  obtain ⟨h1, h2⟩ := ptg_lt hw hk (Or.inl hs)
  unfold pfar
  refine ⟨fun h => ?_, fun h => ?_⟩
  · have e1 := ppos_mono (so := so) (V := V) (lo := lo) (j := ptg so V n k) k (by omega)
    have e2 : ppos so V lo (k + 1) = ppos so V lo k + plen so V lo k (ppos so V lo k) := rfl
    have e3 : 2 ≤ plen so V lo k (ppos so V lo k) := by
      unfold plen
      simp [hs]
      split <;> omega
    omega
  · have h3 : ptg so V n k ≠ k := fun q => by rw [q] at h2; omega
    have e1 := ppos_mono (so := so) (V := V) (lo := lo) (j := k + 1) (ptg so V n k) (by omega)
    omega
theorem pfar_rng (hw : jWf so V n rc) {k : Nat} (hk : k < n) (hs : so k = 2 ∨ so k = 4) : -2000 < pfar so V n lo k ∧ pfar so V n lo k < 2000 := by
  have h1 := ppos_lt (lo := lo) hw (show ptg so V n k ≤ n by have := (ptg_lt hw hk hs).1; omega)
  have h2 := ppos_lt (lo := lo) hw (show k + 1 ≤ n by omega)
  unfold pfar
  omega
end JF
