section JB2
variable {X : jX} {d : Nat} {M M0 : jMem} {Q : Option Value → jMem → Prop} {L A S Z : Nat} {so V : Nat → Nat} {n rc lo : Nat}
theorem sp_farOfIsland (hI : jInj X T0) (hv : jLS L A S Z) {k m x : Nat} (hc : jCtx M so V n rc S Z) (hw : jWf so V n rc) (hl : jLaid M L A so V n lo) (hk : k < n) (hs : so k = 5) (hx : pnth V (pct so 5 k) m x)
    (h : Q (some (.int (pilf so V n lo k x m))) M) : jOk X T0 (d + 1) q_X1_farOfIsland [.ref L, .ref S, .int (nI k), .int (nI m)] M Q := by
  have hn := hw.1.1
  have hj := pct_lt (n := n) hk hs
  have hs3 := hw.1.2.2.2.2
  obtain ⟨-, -, ⟨-, w1, w2, w3⟩, wi⟩ := id hw
  obtain ⟨x8, xb, xm⟩ := hx
  have h256 := hw.isl (s := pct so 5 k) (by omega)
  have hpx := (wi (pct so 5 k) x (by omega) x8 xb).2
  have hpl := pli_le (so := so) (V := V) (x := x) n
  have hm8 : m ≤ 8 := by have := fb_ct_le (fun i => (V (33 + pct so 5 k)).testBit i) x; omega
  refine v_X1_farOfIsland hI hv _ _ _ _ ⟨vp_in_nI (by omega) (by decide), ?_⟩
  rw [nI_cl (by omega), show M 15 k = nI (pct so 5 k) by rw [hc.2.1.2.2.1 k hk]; simp [pnum, hs]]
  refine sp_labelsIn (V := V) hI hv.sz (by omega) hc.2.2.2.2.2.1 w1 w2 w3 ⟨_, rfl, ?_⟩
  have key : ∀ y, y ≤ x → jRun X T0 (d + 1) q_X1_farOfIsland (21, [.ref L, .ref S, .int (nI k), .int (nI m), .int (nI (V (33 + pct so 5 k))), .int (nI (fb_ct (fun i => (V (33 + pct so 5 k)).testBit i) y)), .int (nI y)], [], M) Q := by
    refine jUp ?_ ?_
    · refine v_X1_farOfIsland_21 hv _ _ _ _ _ _ _ ⟨fun g => absurd g (nI_ge (b := 8) x8 (by decide)), fun _ => ?_⟩
      rw [jbit (by omega) (by omega), jBI_n, xb, xm]
      refine ⟨fun _ => ⟨fun g => absurd rfl g, fun _ => ?_⟩, fun g => absurd g (by decide)⟩
      refine sp_hasLabel (so := so) (V := V) (n := n) hI x8 (hc.2.2.1.1 x x8) hn ⟨_, rfl, fun g => ?_, fun _ => ?_⟩
      · exact absurd (jBI_0.mp g) (by simp [hpx])
      · have e1 : nI (pli so V x n) - 1 = nI (pli so V x n - 1) := by rw [show (1 : Int32) = nI 1 from rfl, pk_sub (by omega)]
        rw [nI_cl (by omega), hc.2.2.1.1 x x8, e1, nI_cl (by omega), nI_cl (by omega), hl.2 _ (by omega), hl.2 _ (by omega), nI_1]
        exact ⟨vp_in_nI x8 (by decide), vp_in_nI (by omega) (by decide), vp_in_nI (by omega) (by decide), h⟩
    · intro y hy ih
      rw [fb_ct_succ] at ih
      refine v_X1_farOfIsland_21 hv _ _ _ _ _ _ _ ⟨fun g => absurd g (nI_ge (b := 8) (show y < 8 by omega) (by decide)), fun _ => ?_⟩
      rw [jbit (by omega) (by omega), jBI_n]
      cases hb : (V (33 + pct so 5 k)).testBit y
      · rw [hb] at ih
        refine ⟨fun g => absurd rfl g, fun _ => ?_⟩
        rw [nI_1]
        exact ih
      · rw [hb] at ih
        have hlt := pnth_lt hy hb
        refine ⟨fun _ => ⟨fun _ => ?_, fun g => ?_⟩, fun g => absurd g (by decide)⟩
        · rw [nI_1, nI_1]
          exact ih
        · exact absurd (nI_inj (by omega) (by omega) g) (by omega)
  exact key 0 (Nat.zero_le _)
/-- byte i of the item k -/
def pbyte (so V : Nat → Nat) (n rc lo k i : Nat) (x : Nat) : Int32 :=
  if so k = 0 then 16 else if so k = 2 then (if i = 0 then (if lo.testBit (pct so 2 k) then 2 else 1) else ppart (nI (ppos so V lo (ptg so V n k)) - nI (ppos so V lo (k + 1))) (i - 1))
  else if so k = 4 then (if i = 0 then 3 else if pserv so V n rc lo k = -1000000 then 0 else ppart (Int32.ofInt (pserv so V n rc lo k)) 0)
  else if so k = 5 then (if i % 5 = 0 then 4 else ppart (pilf so V n lo k x (i / 5)) (i % 5 - 1)) else 0
def pxth (V : Nat → Nat) (s m : Nat) : Nat → Nat
  | 0 => 0
  | x + 1 => if (V (33 + s)).testBit x = true ∧ fb_ct (fun i => (V (33 + s)).testBit i) x = m then x else pxth V s m x
theorem pxth_is {s m : Nat} : ∀ b, m < fb_ct (fun i => (V (33 + s)).testBit i) b → (V (33 + s)).testBit (pxth V s m b) = true ∧ fb_ct (fun i => (V (33 + s)).testBit i) (pxth V s m b) = m ∧ pxth V s m b < b
  | 0, h => absurd h (Nat.not_lt_zero _)
  | b + 1, h => by
    simp only [pxth]
    split
    · rename_i g
      exact ⟨g.1, g.2, by omega⟩
    · rename_i g
      have h1 : m < fb_ct (fun i => (V (33 + s)).testBit i) b := by
        rw [fb_ct_succ] at h
        by_cases e : (V (33 + s)).testBit b = true
        · have : fb_ct (fun i => (V (33 + s)).testBit i) b ≠ m := fun q => g ⟨e, q⟩
          rw [if_pos e] at h
          omega
        · rw [if_neg e] at h
          omega
      have := pxth_is b h1
      exact ⟨this.1, this.2.1, by omega⟩
def pby (so V : Nat → Nat) (n rc lo k i : Nat) : Int32 := pbyte so V n rc lo k i (pxth V (pct so 5 k) (i / 5) 8)
theorem pxth_nth {s m : Nat} (h8 : V (33 + s) < 256) (h : m < pbc (V (33 + s))) : pnth V s m (pxth V s m 8) := by
  have h1 : pbc (V (33 + s)) = fb_ct (fun i => (V (33 + s)).testBit i) 8 := by
    unfold pbc
    rw [show (24 : Nat) = 8 + 16 from rfl, fb_ct_split]
    have h2 : fb_ct (fun k => (V (33 + s)).testBit (8 + k)) 16 = 0 := fb_ct_zero.mpr (fun k _ => jbit_hi (m := 8) h8 (by omega))
    omega
  have := pxth_is (V := V) (s := s) (m := m) 8 (by omega)
  exact ⟨this.2.2, this.1, this.2.1⟩
theorem sp_byteOf (hI : jInj X T0) (hv : jLS L A S Z) {k i : Nat} (hc : jCtx M so V n rc S Z) (hw : jWf so V n rc) (hl : jLaid M L A so V n lo) (h1 : lo < 2 ^ 31) (hk : k < n) (hi : ppos so V lo k + i < ppos so V lo (k + 1))
    (h : Q (some (.int (pby so V n rc lo k i))) M) : jOk X T0 (d + 2) q_X1_byteOf [.ref L, .ref S, .int (nI k), .int (nI i)] M Q := by
  have hn := hw.1.1
  have hs5 := hw.2.1.1 k hk
  have pk := ppos_lt (lo := lo) hw (show k + 1 ≤ n by omega)
  have epl : ppos so V lo (k + 1) = ppos so V lo k + plen so V lo k (ppos so V lo k) := rfl
  have hil : i < plen so V lo k (ppos so V lo k) := by omega
  refine v_X1_byteOf hI hv _ _ _ _ ⟨vp_in_nI (by omega) (by decide), ?_⟩
  rw [nI_cl (by omega), hc.2.1.1 k hk]
  have hb : ∀ b : Nat, b ≤ 5 → (nI (so k) = nI b ↔ so k = b) := fun b hb => ⟨fun q => nI_inj (by omega) (by omega) q, fun q => by rw [q]⟩
  have hi0 : nI i = 0 ↔ i = 0 := ⟨fun q => nI_inj (by omega) (by decide) q, fun q => by rw [q]; rfl⟩
  refine ⟨fun g => ?_, fun g0 => ⟨fun g => ?_, fun g1 => ⟨fun g => ?_, fun g2 => ⟨fun g => ?_, fun g3 => ⟨fun g => ?_, fun g4 => ⟨fun g => ?_, fun g5 => ?_⟩⟩⟩⟩⟩⟩
  · have e := (hb 0 (by omega)).mp g
    rw [show pby so V n rc lo k i = 16 by simp [pby, pbyte, e]] at h
    exact h
  · have e := (hb 1 (by omega)).mp g
    rw [show plen so V lo k (ppos so V lo k) = 0 by simp [plen, e]] at hil
    omega
  · have e := (hb 2 (by omega)).mp g
    have hj := pct_lt (n := n) hk e
    have := hw.1.2.2.1
    refine ⟨fun gi => ?_, fun gi => ?_⟩
    · have hi1 : i ≠ 0 := fun q => gi (hi0.mpr q)
      refine sp_farOf hI hv hc hw hl hk (Or.inl e) (fun r hr _ => ⟨_, rfl, ?_⟩)
      refine v_X1_byteOfNumber hI _ _ _ _ ⟨_, rfl, ?_⟩
      rw [show pby so V n rc lo k i = ppart (nI (ppos so V lo (ptg so V n k)) - nI (ppos so V lo (k + 1))) (i - 1) by simp [pby, pbyte, e, hi1]] at h
      rw [show (1 : Int32) = nI 1 from rfl, pk_sub (by omega), hr]
      exact h
    · have hi1 := hi0.mp gi
      rw [show M 15 k = nI (pct so 2 k) by rw [hc.2.1.2.2.1 k hk]; simp [pnum, e]]
      refine sp_isLong hI hv hl.1 h1 (by omega) ⟨_, rfl, fun g => ?_, fun g => ?_⟩
      · rw [show pby so V n rc lo k i = 1 by simp [pby, pbyte, e, hi1, jBI_0.mp g]] at h
        exact h
      · rw [show pby so V n rc lo k i = 2 by simp [pby, pbyte, e, hi1, jnb g]] at h
        exact h
  · have e := (hb 3 (by omega)).mp g
    rw [show pby so V n rc lo k i = 0 by simp [pby, pbyte, e]] at h
    exact h
  · have e := (hb 4 (by omega)).mp g
    refine ⟨fun gi => ?_, fun gi => ?_⟩
    · have hi1 : i ≠ 0 := fun q => gi (hi0.mpr q)
      refine sp_farServed hI hv hc hw hl hk e (fun r hr => ⟨_, rfl, fun g => ?_, fun g => ?_⟩)
      · rw [jToI hr] at g
        refine v_X1_byteOfNumber hI _ _ _ _ ⟨_, rfl, ?_⟩
        rw [show pby so V n rc lo k i = ppart (Int32.ofInt (pserv so V n rc lo k)) 0 by simp [pby, pbyte, e, hi1, g]] at h
        rw [← hr, fb_asI] at h
        exact h
      · rw [jToI hr] at g
        rw [show pby so V n rc lo k i = 0 by simp [pby, pbyte, e, g, hi1]] at h
        exact h
    · rw [show pby so V n rc lo k i = 3 by simp [pby, pbyte, e, hi0.mp gi]] at h
      exact h
  · have e := (hb 5 (by omega)).mp g
    have hj := pct_lt (n := n) hk e
    have hs3 := hw.1.2.2.2.2
    have h256 := hw.isl (s := pct so 5 k) (by omega)
    rw [show plen so V lo k (ppos so V lo k) = 5 * pbc (V (33 + pct so 5 k)) by simp [plen, e]] at hil
    have hnth := pxth_nth (V := V) (s := pct so 5 k) (m := i / 5) h256 (by omega)
    have e5 : nI i / 5 = nI (i / 5) := by rw [show (5 : Int32) = nI 5 from rfl]; exact pk_div (by omega) (by decide) (by decide)
    have e6 : nI i - nI i / 5 * 5 = nI (i % 5) := by rw [show (5 : Int32) = nI 5 from rfl]; exact pk_rem (by omega) (by decide) (by decide)
    rw [e6, e5]
    refine ⟨fun gi => ?_, fun gi => ?_⟩
    · have hi1 : i % 5 ≠ 0 := fun q => gi (by rw [q]; rfl)
      refine sp_farOfIsland hI hv hc hw hl hk e hnth ⟨_, rfl, ?_⟩
      refine v_X1_byteOfNumber hI _ _ _ _ ⟨_, rfl, ?_⟩
      rw [show pby so V n rc lo k i = ppart (pilf so V n lo k (pxth V (pct so 5 k) (i / 5) 8) (i / 5)) (i % 5 - 1) by simp [pby, pbyte, e, hi1]] at h
      rw [show (1 : Int32) = nI 1 from rfl, pk_sub (by omega)]
      exact h
    · have hi1 : i % 5 = 0 := nI_inj (by omega) (by decide) gi
      rw [show pby so V n rc lo k i = 4 by simp [pby, pbyte, e, hi1]] at h
      exact h
  · exfalso
    have g0' : ¬ so k = 0 := fun q => g0 ((hb 0 (by omega)).mpr q)
    have g1' : ¬ so k = 1 := fun q => g1 ((hb 1 (by omega)).mpr q)
    have g2' : ¬ so k = 2 := fun q => g2 ((hb 2 (by omega)).mpr q)
    have g3' : ¬ so k = 3 := fun q => g3 ((hb 3 (by omega)).mpr q)
    have g4' : ¬ so k = 4 := fun q => g4 ((hb 4 (by omega)).mpr q)
    have g5' : ¬ so k = 5 := fun q => g5 ((hb 5 (by omega)).mpr q)
    omega
/-- byte i of all -/
def pgb (so V : Nat → Nat) (n rc lo i : Nat) : Int32 := pby so V n rc lo (pitm so V lo i n) (i - ppos so V lo (pitm so V lo i n))
theorem pgb_it {i k : Nat} (h : pIt so V n lo i k) : pgb so V n rc lo i = pby so V n rc lo k (i - ppos so V lo k) := by
  have h2 := ppos_mono (so := so) (V := V) (lo := lo) (j := k + 1) n h.1
  have := pIt_one (pitm_is n (show i < ppos so V lo n by have := h.2.2; omega)) h
  unfold pgb
  rw [this]
theorem sp_sumOfBytes (hI : jInj X T0) (hv : jLS L A S Z) (hc : jCtx M so V n rc S Z) (hw : jWf so V n rc) (hl : jLaid M L A so V n lo) (h1 : lo < 2 ^ 31)
    (h : Q (some (.int (bx_sum (pgb so V n rc lo) (ppos so V lo n)))) M) : jOk X T0 (d + 3) q_X1_sumOfBytes [.ref L, .ref S] M Q := by
  have hn := hw.1.1
  refine v_X1_sumOfBytes hI hv _ _ ?_
  have key : ∀ k, k ≤ n → jRun X T0 (d + 3) q_X1_sumOfBytes (4, [.ref L, .ref S, .int (bx_sum (pgb so V n rc lo) (ppos so V lo k)), .int (nI k), .null, .null], [], M) Q := by
    refine jUp ?_ ?_
    · refine v_X1_sumOfBytes_4 hv _ _ _ _ ⟨fun _ => h, fun g => absurd ?_ g⟩
      rw [hc.1.1]; exact nI_le (Nat.le_refl _) (by omega)
    · intro k hk ih
      have p0 := ppos_lt (lo := lo) hw (show k ≤ n by omega)
      have p1 := ppos_lt (lo := lo) hw (show k + 1 ≤ n by omega)
      have pm := ppos_mono (so := so) (V := V) (lo := lo) (j := k) (k + 1) (by omega)
      refine v_X1_sumOfBytes_4 hv _ _ _ _ ⟨fun g => absurd g ?_, fun _ => ?_⟩
      · rw [hc.1.1]; exact nI_ge hk (by omega)
      · rw [nI_1, nI_cl (by omega), nI_cl (by omega), hl.2 _ (by omega), hl.2 _ (by omega), pk_sub pm]
        refine ⟨vp_in_nI (by omega) (by decide), vp_in_nI (by omega) (by decide), ?_⟩
        have inner : ∀ i, i ≤ ppos so V lo (k + 1) - ppos so V lo k → jRun X T0 (d + 3) q_X1_sumOfBytes (35, [.ref L, .ref S, .int (bx_sum (pgb so V n rc lo) (ppos so V lo k + i)), .int (nI k), .int (nI (ppos so V lo (k + 1) - ppos so V lo k)), .int (nI i)], [], M) Q := by
          refine jUp ?_ ?_
          · refine v_X1_sumOfBytes_35 hv _ _ _ _ _ _ ⟨fun _ => ?_, fun g => absurd (nI_le (Nat.le_refl _) (by omega)) g⟩
            rw [show ppos so V lo k + (ppos so V lo (k + 1) - ppos so V lo k) = ppos so V lo (k + 1) by omega, nI_1]
            exact ih
          · intro i hi ih2
            refine v_X1_sumOfBytes_35 hv _ _ _ _ _ _ ⟨fun g => absurd g (nI_ge hi (by omega)), fun _ => ?_⟩
            refine sp_byteOf hI hv hc hw hl h1 hk (by omega) ⟨_, rfl, ?_⟩
            have e : pgb so V n rc lo (ppos so V lo k + i) = pby so V n rc lo k i := by
              rw [pgb_it (k := k) ⟨hk, by omega, by omega⟩, show ppos so V lo k + i - ppos so V lo k = i by omega]
            rw [nI_1, ← e]
            exact ih2
        exact inner 0 (Nat.zero_le _)
  exact key 0 (Nat.zero_le _)
end JB2
