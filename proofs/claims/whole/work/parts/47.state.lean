/-- a history: what was before each act that may be undone, and how many; behind the last one what is now -/
abbrev jHi : Type := (Nat → Nat → Nat) × Nat
/-- the text; the program (sorts, numbers, how many, the reach); what is now and was; the images -/
abbrev jSt : Type := (Nat × (Nat → Nat)) × ((Nat → Nat) × (Nat → Nat) × Nat × Nat) × jHi × (Nat → Option jHi)
def jShp (S Z : Nat → Int32) (so : Nat → Nat) (n rc : Nat) (V : Nat → Nat) : Prop := (∀ k, k < n → so k = 0 → Z k = nI (V k)) ∧ S 1 = nI (V 32) ∧ S 2 = nI (pis V) ∧ S 3 = nI rc
def jDeed (so : Nat → Nat) (n : Nat) (e w b : Int32) (U V : Nat → Nat) : Prop :=
  (e = 0 ∧ ∃ k, k < n ∧ so k = 0 ∧ w = nI k ∧ b = nI (U k) ∧ ∀ j, j < 36 → j ≠ k → U j = V j) ∨ (e = 1 ∧ b = nI (U 32) ∧ ∀ j, j < 36 → j ≠ 32 → U j = V j) ∨ (e = 2 ∧ b = nI (pis U) ∧ ∀ j, j < 33 → U j = V j)
def jPst (K E Wh B : Nat → Int32) (so : Nat → Nat) (n : Nat) (H : jHi) : Prop := K 3 = nI H.2 ∧ ∀ a, a < H.2 → jDeed so n (E a) (Wh a) (B a) (H.1 a) (H.1 (a + 1))
def jSnp (M : jMem) (B : Nat) (so : Nat → Nat) (n rc : Nat) (H : jHi) : Prop := jShp (M (B + 1)) (M (B + 2)) so n rc (H.1 H.2) ∧ jPst (M (B + 3)) (M (B + 4)) (M (B + 5)) (M (B + 6)) so n H
def jImg (M : jMem) (B : Nat) (so : Nat → Nat) (n rc : Nat) (o : Option jHi) : Prop := match o with
  | none => M B 2 = 0
  | some G => M B 2 = 1 ∧ jSnp M B so n rc G
def jPr (M : jMem) (B : Nat) (so P : Nat → Nat) (n rc : Nat) : Prop :=
  (M B 8 = nI n ∧ M B 9 = nI (pct so 0 n) ∧ M B 10 = nI (pct so 2 n) ∧ M B 11 = nI (pct so 4 n) ∧ M B 12 = nI (pct so 5 n) ∧ M B 13 = nI rc) ∧
  ((∀ k, k < n → M (B + 1) k = nI (so k)) ∧ (∀ k, k < n → M (B + 2) k = nI (P k)) ∧ (∀ k, k < n → M (B + 3) k = nI (pnum so k)) ∧ (∀ k, k < n → (so k = 2 ∨ so k = 4) → M (B + 4) k = nI (ptg so P n k))) ∧
  ((∀ x, x < 8 → M (B + 5) x = nI (pli so P x n) - 1) ∧ (∀ k, k < n → so k = 2 → M (B + 6) (pct so 2 k) = nI k) ∧ (∀ k, k < n → so k = 4 → M (B + 7) (pct so 4 k) = nI k) ∧ (∀ k, k < n → so k = 5 → M (B + 8) (pct so 5 k) = nI k))
def mPr (M : jMem) (so P : Nat → Nat) (n rc : Nat) : Prop :=
  (M 54 7 = nI n ∧ M 54 8 = nI rc ∧ M 54 12 = nI (pct so 2 n) ∧ M 54 14 = nI (pct so 4 n) ∧ M 54 16 = nI (pct so 5 n) ∧ M 54 18 = nI (pct so 0 n)) ∧
  (∀ k, k < n → M 56 k = nI (so k)) ∧
  ((∀ x, x < 8 → 0 < n → M 61 x = nI (pli so P x n) - 1) ∧ (∀ k, k < n → so k = 2 → M 58 (pct so 2 k) = nI k) ∧ (∀ k, k < n → so k = 4 → M 59 (pct so 4 k) = nI k) ∧ (∀ k, k < n → so k = 5 → M 60 (pct so 5 k) = nI k))
def mSnp (f g : Nat → Int32) (z : Int32) (H : jHi) : Prop := (∀ k, k < 36 → f k = nI (H.1 H.2 k)) ∧ z = nI H.2 ∧ ∀ a, a < H.2 → ∀ k, k < 36 → g (36 * a + k) = nI (H.1 a k)
def mImg (M : jMem) (i : Nat) (o : Option jHi) : Prop := match o with
  | none => M 63 i = 0
  | some G => M 63 i = 1 ∧ mSnp (fun k => M 64 (36 * i + k)) (fun k => M 65 (360 * i + k)) (M 66 i) G
def jVok (so P : Nat → Nat) (n rc : Nat) (V : Nat → Nat) : Prop := jWf so V n rc ∧ (∀ k, k < n → so k = 0 → V k ≤ 60) ∧ pbc (V 33) + pbc (V 34) + pbc (V 35) ≤ 6 ∧ (∀ k, k < n → so k ≠ 0 → V k = P k)
def jWok (so P : Nat → Nat) (n rc : Nat) (H : jHi) : Prop := H.2 ≤ 10 ∧ ∀ a, a ≤ H.2 → jVok so P n rc (H.1 a)
def jTxt (z : Int32) (f : Nat → Int32) (T : Nat × (Nat → Nat)) : Prop := z = nI T.1 ∧ ∀ k, k < T.1 → f k = nI (T.2 k)
def jInC (M : jMem) (s : jSt) : Prop := jTxt (M 1 1) (M 2) s.1 ∧ jPr M 12 s.2.1.1 s.2.1.2.1 s.2.1.2.2.1 s.2.1.2.2.2 ∧ jSnp M 21 s.2.1.1 s.2.1.2.2.1 s.2.1.2.2.2 s.2.2.1 ∧ (∀ i, i < 2 → jImg M (28 + 7 * i) s.2.1.1 s.2.1.2.2.1 s.2.1.2.2.2 (s.2.2.2 i)) ∧
  jCa M s.2.1.1 (s.2.2.1.1 s.2.2.1.2) s.2.1.2.2.1 s.2.1.2.2.2 (pmi (pfew s.2.1.1 (s.2.2.1.1 s.2.2.1.2) s.2.1.2.2.1 s.2.1.2.2.2))
def jInM (M : jMem) (s : jSt) : Prop := jTxt (M 54 2) (M 55) s.1 ∧ mPr M s.2.1.1 s.2.1.2.1 s.2.1.2.2.1 s.2.1.2.2.2 ∧ mSnp (M 57) (M 62) (M 54 20) s.2.2.1 ∧ (∀ i, i < 2 → mImg M i (s.2.2.2 i))
def jInW (s : jSt) : Prop := (s.1.1 ≤ 150 ∧ ∀ k, k < s.1.1 → s.1.2 k < 256) ∧ jWok s.2.1.1 s.2.1.2.1 s.2.1.2.2.1 s.2.1.2.2.2 s.2.2.1 ∧ ∀ i G, i < 2 → s.2.2.2 i = some G → jWok s.2.1.1 s.2.1.2.1 s.2.1.2.2.1 s.2.1.2.2.2 G
def jPair (X : jX) (m m' : Nat) (args : List Value) (s : jSt) : Prop := ∃ (r : Int32) (s' : jSt), jInW s' ∧
  (∀ M Q, jInC M s → (∀ M', jInC M' s' → (∀ c, 54 ≤ c → M' c = M c) → Q (some (.int r)) M') → jOk X T0 12 m (.ref 0 :: args) M Q) ∧
  (∀ M Q, jInM M s → (∀ M', jInM M' s' → (∀ c, c < 54 → M' c = M c) → Q (some (.int r)) M') → jOk X T0 12 m' (.ref 54 :: args) M Q)
section JST
variable {X : jX} {M M' : jMem} {Q : Option Value → jMem → Prop} {so P V : Nat → Nat} {n rc : Nat} {fw : Int32} {s : jSt} {T : Nat × (Nat → Nat)} {H : jHi} {K : Nat → Option jHi}
theorem jVok.pl (h : jVok so P n rc V) {x : Nat} : pli so V x n = pli so P x n := pli_cong h.2.2.2 x n (Nat.le_refl _)
theorem jPr.ctx (h : jPr M 12 so P n rc) (h2 : jShp (M 22) (M 23) so n rc V) (h3 : jVok so P n rc V) : jCtx M so V n rc 22 23 := by
  refine ⟨⟨h.1.1, h.1.2.2.1, h.1.2.2.2.1, h.1.2.2.2.2.1⟩, ⟨h.2.1.1, fun k hk hs => by rw [h3.2.2.2 k hk hs]; exact h.2.1.2.1 k hk, h.2.1.2.2.1, fun k hk hs => ?_⟩, ⟨fun x hx => by rw [h3.pl]; exact h.2.2.1 x hx, h.2.2.2⟩, h2⟩
  rw [show ptg so V n k = ptg so P n k by unfold ptg; rw [h3.pl, h3.2.2.2 k hk (by rcases hs with e | e <;> rw [e] <;> decide)]]
  exact h.2.1.2.2.2 k hk hs
theorem mPr.ctx (h : mPr M so P n rc) (h2 : ∀ k, k < 36 → M 57 k = nI (V k)) (h3 : jVok so P n rc V) : mCtx M so V n rc :=
  ⟨h.1, ⟨h.2.1, h2⟩, ⟨fun x hx h0 => by rw [h3.pl]; exact h.2.2.1 x hx h0, h.2.2.2⟩⟩
theorem jInC.ctx (h : jInC M (T, (so, P, n, rc), H, K)) (hW : jInW (T, (so, P, n, rc), H, K)) : jCtx M so (H.1 H.2) n rc 22 23 := h.2.1.ctx h.2.2.1.1 (hW.2.1.2 _ (Nat.le_refl _))
theorem jInM.ctx (h : jInM M (T, (so, P, n, rc), H, K)) (hW : jInW (T, (so, P, n, rc), H, K)) : mCtx M so (H.1 H.2) n rc := h.2.1.ctx h.2.2.1.1 (hW.2.1.2 _ (Nat.le_refl _))
/-- what a question leaves -/
theorem jInC.fz (h : jInC M (T, (so, P, n, rc), H, K)) (hf : jFz M M') (hca : jCa M' so (H.1 H.2) n rc (pmi (pfew so (H.1 H.2) n rc))) : jInC M' (T, (so, P, n, rc), H, K) := by
  have e : ∀ c, c ≠ 0 → c < 42 → M' c = M c := fun c a b => hf.1 c a (Or.inl b)
  refine ⟨?_, ?_, ?_, fun i hi => ?_, hca⟩
  · rw [e 1 (by decide) (by decide), e 2 (by decide) (by decide)]; exact h.1
  · have h2 := h.2.1
    unfold jPr at h2 ⊢
    rw [e 12 (by decide) (by decide), e (12 + 1) (by decide) (by decide), e (12 + 2) (by decide) (by decide), e (12 + 3) (by decide) (by decide), e (12 + 4) (by decide) (by decide), e (12 + 5) (by decide) (by decide), e (12 + 6) (by decide) (by decide), e (12 + 7) (by decide) (by decide), e (12 + 8) (by decide) (by decide)]
    exact h2
  · have h2 := h.2.2.1
    unfold jSnp at h2 ⊢
    rw [e (21 + 1) (by decide) (by decide), e (21 + 2) (by decide) (by decide), e (21 + 3) (by decide) (by decide), e (21 + 4) (by decide) (by decide), e (21 + 5) (by decide) (by decide), e (21 + 6) (by decide) (by decide)]
    exact h2
  · have h2 := h.2.2.2.1 i hi
    unfold jImg jSnp at h2 ⊢
    rw [e (28 + 7 * i) (by omega) (by omega), e (28 + 7 * i + 1) (by omega) (by omega), e (28 + 7 * i + 2) (by omega) (by omega), e (28 + 7 * i + 3) (by omega) (by omega), e (28 + 7 * i + 4) (by omega) (by omega), e (28 + 7 * i + 5) (by omega) (by omega), e (28 + 7 * i + 6) (by omega) (by omega)]
    exact h2
theorem jInM.fz (h : jInM M s) (hf : mFz M M') : jInM M' s := by
  have e : ∀ c, c ≠ 54 → c < 69 → M' c = M c := fun c a b => hf.1 c a (by omega) (by omega)
  have f : ∀ k, k ≠ 0 → k ≠ 30 → k ≠ 31 → M' 54 k = M 54 k := hf.2
  unfold jInM mPr mImg at h ⊢
  rw [e 55 (by decide) (by decide), e 56 (by decide) (by decide), e 57 (by decide) (by decide), e 58 (by decide) (by decide), e 59 (by decide) (by decide), e 60 (by decide) (by decide), e 61 (by decide) (by decide), e 62 (by decide) (by decide), e 63 (by decide) (by decide), e 64 (by decide) (by decide), e 65 (by decide) (by decide), e 66 (by decide) (by decide),
    f 2 (by decide) (by decide) (by decide), f 7 (by decide) (by decide) (by decide), f 8 (by decide) (by decide) (by decide), f 12 (by decide) (by decide) (by decide), f 14 (by decide) (by decide) (by decide), f 16 (by decide) (by decide) (by decide), f 18 (by decide) (by decide) (by decide), f 20 (by decide) (by decide) (by decide)]
  exact h
theorem jFz.hi (h : jFz M M') : ∀ c, 54 ≤ c → M' c = M c := fun c hc => h.1 c (by omega) (by omega)
theorem mFz.lo (h : mFz M M') : ∀ c, c < 54 → M' c = M c := fun c hc => h.1 c (by omega) (by omega) (by omega)
/-- a question: both sides answer alike and nothing changes -/
theorem jAsk {m m' : Nat} {args : List Value} (hW : jInW (T, (so, P, n, rc), H, K)) {r : Int32}
    (hc : ∀ M Q, jCtx M so (H.1 H.2) n rc 22 23 → jInC M (T, (so, P, n, rc), H, K) → jCa M so (H.1 H.2) n rc (pmi (pfew so (H.1 H.2) n rc)) → (∀ M', jFz M M' → jCa M' so (H.1 H.2) n rc (pmi (pfew so (H.1 H.2) n rc)) → Q (some (.int r)) M') → jOk X T0 12 m (.ref 0 :: args) M Q)
    (hm : ∀ M Q, mCtx M so (H.1 H.2) n rc → jInM M (T, (so, P, n, rc), H, K) → (∀ M', mFz M M' → Q (some (.int r)) M') → jOk X T0 12 m' (.ref 54 :: args) M Q) : jPair X m m' args (T, (so, P, n, rc), H, K) :=
  ⟨r, _, hW, fun M Q h k => hc M Q (h.ctx hW) h h.2.2.2.2 (fun M' f c => k M' (h.fz f c) f.hi), fun M Q h k => hm M Q (h.ctx hW) h (fun M' f => k M' (h.fz f) f.lo)⟩
theorem p_way (hI : jInj X T0) (hW : jInW s) (a b : Int32) : jPair X q_X7_way q_X8_way [.int a, .int b] s := by
  obtain ⟨T, ⟨so, P, n, rc⟩, H, K⟩ := s
  have hw := (hW.2.1.2 _ (Nat.le_refl _)).1
  exact jAsk hW (fun M Q hc _ ca k => cq_way (d := 6) hI hc hw ca k) (fun M Q hc _ k => mq_way (d := 7) hI hc hw k)
theorem p_lies (hI : jInj X T0) (hW : jInW s) (a b c : Int32) : jPair X q_X7_lies q_X8_lies [.int a, .int b, .int c] s := by
  obtain ⟨T, ⟨so, P, n, rc⟩, H, K⟩ := s
  have hw := (hW.2.1.2 _ (Nat.le_refl _)).1
  exact jAsk hW (fun M Q hc _ ca k => cq_lies (d := 6) hI hc hw ca k) (fun M Q hc _ k => mq_lies (d := 7) hI hc hw k)
theorem p_code (hI : jInj X T0) (hW : jInW s) (a b : Int32) : jPair X q_X7_code q_X8_code [.int a, .int b] s := by
  obtain ⟨T, ⟨so, P, n, rc⟩, H, K⟩ := s
  have hw := (hW.2.1.2 _ (Nat.le_refl _)).1
  exact jAsk hW (fun M Q hc _ ca k => cq_code (d := 6) hI hc hw ca k) (fun M Q hc _ k => mq_code (d := 7) hI hc hw k)
theorem p_origin (hI : jInj X T0) (hW : jInW s) (a b : Int32) : jPair X q_X7_origin q_X8_origin [.int a, .int b] s := by
  obtain ⟨T, ⟨so, P, n, rc⟩, H, K⟩ := s
  have hw := (hW.2.1.2 _ (Nat.le_refl _)).1
  exact jAsk hW (fun M Q hc _ ca k => cq_origin (d := 6) hI hc hw ca k) (fun M Q hc _ k => mq_origin (d := 7) hI hc hw k)
theorem p_narrow (hI : jInj X T0) (hW : jInW s) : jPair X q_X7_narrow q_X8_narrow [] s := by
  obtain ⟨T, ⟨so, P, n, rc⟩, H, K⟩ := s
  have hw := (hW.2.1.2 _ (Nat.le_refl _)).1
  exact jAsk hW (fun M Q hc _ ca k => cq_narrow (d := 7) hI hc hw ca k) (fun M Q hc _ k => mq_narrow (d := 8) hI hc hw k)
theorem p_fewest (hI : jInj X T0) (hW : jInW s) (a : Int32) : jPair X q_X7_fewest q_X8_fewest [.int a] s := by
  obtain ⟨T, ⟨so, P, n, rc⟩, H, K⟩ := s
  have hw := (hW.2.1.2 _ (Nat.le_refl _)).1
  exact jAsk hW (fun M Q hc _ ca k => cq_fewest (d := 2) hI hc hw ca k) (fun M Q hc _ k => mq_fewest (d := 6) hI hc hw k)
theorem p_odds (hI : jInj X T0) (hW : jInW s) (a b c : Int32) : jPair X q_X7_odds q_X8_odds [.int a, .int b, .int c] s := by
  obtain ⟨T, ⟨so, P, n, rc⟩, H, K⟩ := s
  have hv := hW.2.1.2 _ (Nat.le_refl _)
  exact jAsk hW (fun M Q hc h ca k => cq_odds (d := 6) hI hc hv.1 hv.2.1 h.2.1.1.2.1 ca k) (fun M Q hc _ k => mq_odds (d := 8) hI hc hv.1 hv.2.1 k)
end JST
