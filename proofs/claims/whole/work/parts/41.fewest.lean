section JFW
variable {X : jX} {d : Nat} {M M0 : jMem} {Q : Option Value → jMem → Prop} {so V : Nat → Nat} {n rc : Nat} {fw : Int32}
/-- the vector with other islands -/
def pvi (V : Nat → Nat) (s k : Nat) : Nat := if k = 33 then s % 256 else if k = 34 then s / 256 % 256 else if k = 35 then s / 65536 % 256 else V k
theorem pvi_o {s k : Nat} (h : k ≤ 32) : pvi V s k = V k := by simp [pvi, show k ≠ 33 by omega, show k ≠ 34 by omega, show k ≠ 35 by omega]
theorem pvi_t {s t : Nat} (h : t < 3) : pvi V s (33 + t) = s / 2 ^ (8 * t) % 256 := by
  rcases (show t = 0 ∨ t = 1 ∨ t = 2 by omega) with rfl | rfl | rfl <;> simp [pvi]
theorem pvi_bit {s t x : Nat} (ht : t < 3) (hx : x < 8) : (pvi V s (33 + t)).testBit x = s.testBit (8 * t + x) := by
  rw [pvi_t ht, show (256 : Nat) = 2 ^ 8 from rfl, Nat.testBit_mod_two_pow, Nat.testBit_div_two_pow]
  simp [hx, Nat.add_comm]
theorem pvi_pis {s : Nat} (h : s < 2 ^ 24) : pis (pvi V s) = s := by
  simp only [pis, pvi]
  simp
  omega
def pal (so V : Nat → Nat) (n b : Nat) : Bool := decide (b / 8 < pct so 5 n) && decide (0 < pli so V (b % 8) n)
def psk (so V : Nat → Nat) (n s : Nat) : Prop := s < 2 ^ 24 ∧ ∀ b, s.testBit b = true → pal so V n b = true
theorem psk0 : psk so V n 0 := ⟨by decide, fun b h => by simp at h⟩
theorem psk_or {s b : Nat} (h : psk so V n s) (hb : b < 24) (ha : pal so V n b = true) : psk so V n (s ||| 2 ^ b) := by
  refine ⟨Nat.or_lt_two_pow h.1 (Nat.pow_lt_pow_right (by decide) hb), fun c hc => ?_⟩
  rw [Nat.testBit_or, Nat.testBit_two_pow] at hc
  by_cases e : b = c
  · subst e; exact ha
  · rw [decide_eq_false e, Bool.or_false] at hc
    exact h.2 c hc
theorem jWf.isls (hw : jWf so V n rc) {s : Nat} (hs : psk so V n s) : jWf so (pvi V s) n rc := by
  have hn := hw.1.1
  have hV : ∀ k, k < n → pvi V s k = V k := fun k hk => pvi_o (by omega)
  have pc := fun x => pli_cong (so := so) (V' := pvi V s) (fun k hk _ => hV k hk) x n (Nat.le_refl _)
  obtain ⟨a, ⟨b1, b2, b3, b4, b5⟩, ⟨c1, -, -, -⟩, -⟩ := hw
  refine ⟨a, ⟨b1, fun k hk h0 => ?_, fun k hk h3 => ?_, fun k hk h1 => ?_, fun k hk h2 => ?_⟩, ⟨?_, ?_, ?_, ?_⟩, fun t x ht hx hb => ?_⟩
  · rw [hV k hk]; exact b2 k hk h0
  · rw [hV k hk]; exact b3 k hk h3
  · rw [hV k hk]; exact b4 k hk h1
  · rw [hV k hk, pc]; exact b5 k hk h2
  · rw [pvi_o (Nat.le_refl _)]; exact c1
  · rw [pvi_t (t := 0) (by decide)]; exact Nat.mod_lt _ (by decide)
  · rw [pvi_t (t := 1) (by decide)]; exact Nat.mod_lt _ (by decide)
  · rw [pvi_t (t := 2) (by decide)]; exact Nat.mod_lt _ (by decide)
  · rw [pvi_bit ht hx] at hb
    have := hs.2 _ hb
    simp only [pal, Bool.and_eq_true, decide_eq_true_eq] at this
    rw [pc]
    have e1 : (8 * t + x) / 8 = t := by omega
    have e2 : (8 * t + x) % 8 = x := by omega
    rw [e1, e2] at this
    exact this
def pG (so V : Nat → Nat) (n rc s : Nat) : Nat := (pgrow (pstr so (pvi V s) n rc) 10 (V 32)).1
def pok (so V : Nat → Nat) (n rc s : Nat) : Bool := decide (psvd so (pvi V s) n rc (pG so V n rc s) = 2 ^ pct so 4 n - 1)
def pcn (s : Nat) : Nat := 256 * pbc (s / 65536 % 256) + (16 * pbc (s / 256 % 256) + pbc (s % 256))
theorem ppos_isl (hn : n ≤ 32) (h5 : pct so 5 n ≤ 3) {s s' lo : Nat} (h : ∀ t, t < 3 → pbc (pvi V s (33 + t)) = pbc (pvi V s' (33 + t))) : ∀ k, k ≤ n → ppos so (pvi V s) lo k = ppos so (pvi V s') lo k
  | 0, _ => rfl
  | k + 1, hk => by
    simp only [ppos]
    rw [ppos_isl hn h5 h k (by omega)]
    congr 1
    unfold plen
    rw [pvi_o (V := V) (s := s) (show k ≤ 32 by omega), pvi_o (V := V) (s := s') (show k ≤ 32 by omega)]
    by_cases e : so k = 5
    · have := pct_lt (n := n) (show k < n by omega) e
      rw [h _ (by omega)]
    · simp [e]
theorem ptg_isl (hn : n ≤ 32) {s s' k : Nat} (hk : k < n) : ptg so (pvi V s) n k = ptg so (pvi V s') n k := by
  have hV : ∀ k, k < n → so k ≠ 0 → pvi V s k = pvi V s' k := fun k hk _ => by rw [pvi_o (by omega), pvi_o (by omega)]
  unfold ptg
  rw [pli_cong (so := so) hV _ n (Nat.le_refl _), pvi_o (by omega), pvi_o (by omega)]
theorem pstr_isl (hw : jWf so V n rc) {s s' : Nat} (hs : psk so V n s) (h : ∀ t, t < 3 → pbc (pvi V s (33 + t)) = pbc (pvi V s' (33 + t))) (lo : Nat) : pstr so (pvi V s) n rc lo = pstr so (pvi V s') n rc lo := by
  have hn := hw.1.1
  have h5 := hw.1.2.2.2.2
  unfold pstr
  refine pset_cong (fun j hj => ?_)
  obtain ⟨i1, i2, i3⟩ := pit_spec n hj
  have ht := (ptg_lt (hw.isls hs) i3 (Or.inl i1)).1
  unfold pfar
  rw [ppos_isl hn h5 h _ (by omega), ppos_isl hn h5 h (pit so 2 j n + 1) (by omega), ptg_isl hn i3]
theorem pgrow_st {st st' : Nat → Nat} (h : ∀ l, st l = st' l) : ∀ f lo, pgrow st f lo = pgrow st' f lo
  | 0, lo => rfl
  | f + 1, lo => by
    simp only [pgrow]
    rw [h lo, pgrow_st h f]
theorem pcn_inj {s s' : Nat} (h : pcn s = pcn s') : ∀ t, t < 3 → pbc (pvi V s (33 + t)) = pbc (pvi V s' (33 + t)) := by
  have b : ∀ x, pbc (x % 256) ≤ 8 := fun x => pbc8 (Nat.mod_lt _ (by decide))
  have b0 := b s
  have b1 := b (s / 256)
  have b2 := b (s / 65536)
  have c0 := b s'
  have c1 := b (s' / 256)
  have c2 := b (s' / 65536)
  unfold pcn at h
  intro t ht
  rcases (show t = 0 ∨ t = 1 ∨ t = 2 by omega) with rfl | rfl | rfl
  · simp only [pvi]; simp; omega
  · simp only [pvi]; simp; omega
  · simp only [pvi]; simp; omega
/-- the search's cells between two tries -/
def jSS (M0 M : jMem) (so V : Nat → Nat) (n rc : Nat) : Prop := jFs M0 M ∧ (∀ k, k < n → so k = 0 → M 50 k = nI (V k)) ∧ M 49 1 = nI (V 32) ∧ M 49 3 = nI rc ∧
  (M 48 4 = -1 ∨ ∃ s0, psk so V n s0 ∧ M 48 4 = nI (pcn s0) ∧ jLaid M 51 52 so (pvi V s0) n (pG so V n rc s0))
theorem pcn_lt (s : Nat) : pcn s < 4096 := by
  have b : ∀ x, pbc (x % 256) ≤ 8 := fun x => pbc8 (Nat.mod_lt _ (by decide))
  have b0 := b s
  have b1 := b (s / 256)
  have b2 := b (s / 65536)
  unfold pcn
  omega
theorem jcnt (s : Nat) : (nI (pbc (s % 256)) ||| (nI (pbc (s / 256 % 256)) <<< ((4 : Int32) &&& 31))) ||| (nI (pbc (s / 65536 % 256)) <<< ((8 : Int32) &&& 31)) = nI (pcn s) := by
  have b : ∀ x, pbc (x % 256) ≤ 8 := fun x => pbc8 (Nat.mod_lt _ (by decide))
  have b0 := b s
  have b1 := b (s / 256)
  have b2 := b (s / 65536)
  rw [pk_shlN _ 4 (by decide +kernel) (by omega), pk_shlN _ 8 (by decide +kernel) (by omega)]
  rw [Int32.or_comm (nI (pbc (s % 256))), Nat.mul_comm, fa_or_sum (k := 4) _ (by omega), Int32.or_comm, Nat.mul_comm (pbc (s / 65536 % 256)), fa_or_sum (k := 8) _ (by omega)]
  rfl
theorem sp_servesAllBy (hI : jInj X T0) {s : Nat} (hc : jCtx M0 so V n rc 22 23) (hw : jWf so V n rc) (hs : psk so V n s) (hS : jSS M0 M so V n rc)
    (h : ∀ M', jSS M0 M' so V n rc → Q (some (.int (jBI (pok so V n rc s)))) M') : jOk X T0 (d + 4) q_X4_servesAllBy [.ref 48, .int (nI s)] M Q := by
  have hn := hw.1.1
  have hV := hw.2.2.1.1
  have hv : jLS 51 52 49 50 := Or.inr (Or.inr (Or.inr ⟨rfl, rfl, rfl, rfl⟩))
  have hp : 2 ^ pct so 2 n ≤ 2 ^ 10 := Nat.pow_le_pow_right (by decide) hw.1.2.2.1
  obtain ⟨f0, z0, p0, r0, l0⟩ := hS
  refine v_X4_servesAllBy hI _ _ _ (fun M1 e1 => ?_)
  have f1 : jFs M0 M1 := by subst e1; exact f0.put (by decide)
  have n1 : ∀ c, c ≠ 49 → M1 c = M c := fun c hc => by subst e1; exact jP_n hc
  have u1 : ∀ k, k ≠ 2 → M1 49 k = M 49 k := fun k hk => by subst e1; rw [jP_s]; simp [upd, hk]
  have i1 : M1 49 2 = nI s := by subst e1; rw [jP_s]; simp [upd]
  have z1 : ∀ k, k < n → so k = 0 → M1 50 k = nI (V k) := by rw [n1 50 (by decide)]; exact z0
  have hx : ∀ M2, jFs M0 M2 → (∀ k, k < n → so k = 0 → M2 50 k = nI (V k)) → M2 49 1 = nI (V 32) → M2 49 2 = nI s → M2 49 3 = nI rc → jCtx M2 so (pvi V s) n rc 49 50 := fun M2 f2 z2 p2 i2 r2 =>
    hc.tried f2 (fun k hk _ => pvi_o (by omega)) (fun k hk h0 => by rw [pvi_o (by omega)]; exact z2 k hk h0) (by rw [pvi_o (Nat.le_refl _)]; exact p2) (by rw [pvi_pis hs.1]; exact i2) r2
  have x1 := hx M1 f1 z1 (by rw [u1 1 (by decide)]; exact p0) i1 (by rw [u1 3 (by decide)]; exact r0)
  have hwi := hw.isls hs
  obtain ⟨-, -, ⟨-, w1, w2, w3⟩, -⟩ := id hwi
  have isl : ∀ t, t < 3 → ∀ {Q' : Option Value → jMem → Prop}, Q' (some (.int (nI (pbc (pvi V s (33 + t)))))) M1 → jOk X T0 (d + 3) q_X5_islandsIn [.ref 49, .int (nI t)] M1 Q' := fun t ht {Q'} hq => sp_islandsIn (V := pvi V s) hI hv.sz ht x1.2.2.2.2.2.1 w1 w2 w3 hq
  refine isl 0 (by decide) ⟨_, rfl, isl 1 (by decide) ⟨_, rfl, isl 2 (by decide) ⟨_, rfl, ?_⟩⟩⟩
  have ecn : (nI (pbc (pvi V s (33 + 0))) ||| (nI (pbc (pvi V s (33 + 1))) <<< ((4 : Int32) &&& 31))) ||| (nI (pbc (pvi V s (33 + 2))) <<< ((8 : Int32) &&& 31)) = nI (pcn s) := by
    rw [pvi_t (by decide), pvi_t (by decide), pvi_t (by decide), ← jcnt]
    simp
  rw [ecn, n1 48 (by decide)]
  have hcl := pcn_lt s
  have fin : ∀ M2, jFs M0 M2 → (∀ k, k < n → so k = 0 → M2 50 k = nI (V k)) → M2 49 1 = nI (V 32) → M2 49 2 = nI s → M2 49 3 = nI rc → M2 48 4 = nI (pcn s) → jLaid M2 51 52 so (pvi V s) n (pG so V n rc s) →
      jOk X T0 (d + 3) q_X1_servesAll [.ref 51, .ref 49] M2 (fun v M5 => ∃ r4, v = some (.int r4) ∧ (r4 = 0 ∨ r4 = 1) ∧ Q (some (.int r4)) M5) := by
    intro M2 f2 z2 p2 i2 r2 c2 l2
    refine sp_servesAll hI hv (hx M2 f2 z2 p2 i2 r2) hwi l2 ⟨_, rfl, jbz _, h M2 ⟨f2, z2, p2, r2, Or.inr ⟨s, hs, c2, l2⟩⟩⟩
  refine ⟨fun g => ?_, fun g => ?_⟩
  · rcases l0 with e | ⟨s0, hs0, c0, l0⟩
    · rw [e] at g
      have := congrArg Int32.toInt g
      rw [nI_toInt (by omega)] at this
      have h9 : (-1 : Int32).toInt = -1 := by decide
      omega
    · have hc0 := pcn_lt s0
      rw [c0] at g
      have es : pcn s = pcn s0 := nI_inj (by omega) (by omega) g
      have hcong := pcn_inj (V := V) es
      refine fin M1 f1 z1 (by rw [u1 1 (by decide)]; exact p0) i1 (by rw [u1 3 (by decide)]; exact r0) (by rw [n1 48 (by decide), c0, es]) ?_
      have eG : pG so V n rc s = pG so V n rc s0 := by
        unfold pG
        rw [pgrow_st (pstr_isl hw hs hcong)]
      rw [eG]
      refine ⟨by rw [n1 51 (by decide)]; exact l0.1, fun k hk => ?_⟩
      rw [n1 52 (by decide), l0.2 k hk, ppos_isl hn hw.1.2.2.2.2 hcong k hk]
  · rw [u1 1 (by decide), p0]
    have e32 : pvi V s 32 = V 32 := pvi_o (Nat.le_refl _)
    refine sp_grow2 hI hv x1 hwi hV (fun M6 fr6 l6 _ => ⟨rfl, fun M7 e7 => ?_⟩)
    have f6 := f1.fr fr6
    have n7 : ∀ c, c ≠ 48 → M7 c = M6 c := fun c hc => by subst e7; exact jP_n hc
    refine fin M7 (by subst e7; exact f6.put (by decide)) ?_ ?_ ?_ ?_ (by subst e7; rw [jP_s]; simp [upd]) ⟨by rw [n7 51 (by decide)]; exact l6.1, fun k hk => by rw [n7 52 (by decide)]; exact l6.2 k hk⟩
    · rw [n7 50 (by decide), fr6.other (by decide) (by decide)]; exact z1
    · rw [n7 49 (by decide), fr6.other (by decide) (by decide), u1 1 (by decide)]; exact p0
    · rw [n7 49 (by decide), fr6.other (by decide) (by decide)]; exact i1
    · rw [n7 49 (by decide), fr6.other (by decide) (by decide), u1 3 (by decide)]; exact r0
end JFW
