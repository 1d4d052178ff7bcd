section JMB
variable {X : jX} {d : Nat} {M M0 : jMem} {Q : Option Value → jMem → Prop} {so V : Nat → Nat} {n rc lo : Nat}
theorem pit_eq {s k : Nat} (hk : k < n) (hs : so k = s) : pit so s (pct so s k) n = k := by
  have h := pit_spec n (pct_lt (n := n) hk hs)
  refine fb_ct_kth_one (p := fun i => so i == s) ?_ ?_ h.2.1
  · simp [h.1]
  · simp [hs]
theorem sp_numberOf (hI : jInj X T0) {c s k len : Nat} (hcd : jKd T0 c = 9) (hcl : jLn T0 c = len) (hlen : pct so s n ≤ len) (hl31 : len < 2 ^ 31) (hn : n ≤ 32) (hM : ∀ k, k < n → so k = s → M c (pct so s k) = nI k) (hk : k < n) (hs : so k = s)
    (h : Q (some (.int (nI (pct so s k)))) M) : jOk X T0 d q_X8_numberOf [.ref c, .int (nI (pct so s n)), .int (nI k)] M Q := by
  have hlt := pct_lt (n := n) hk hs
  refine v_X8_numberOf hI _ _ _ _ _ ?_
  have key : ∀ j, j ≤ pct so s k → jRun X T0 d q_X8_numberOf (2, [.ref c, .int (nI (pct so s n)), .int (nI k), .int (nI j)], [], M) Q := by
    refine jUp ?_ ?_
    · refine v_X8_numberOf_2 _ _ _ _ _ _ ⟨fun g => absurd g (nI_ge hlt (by omega)), fun _ => ⟨hcd, by rw [hcl]; exact vp_in_nI (by omega) hl31, ?_⟩⟩
      rw [nI_cl (by omega), hM k hk hs]
      exact ⟨fun g => absurd rfl g, fun _ => h⟩
    · intro j hj ih
      obtain ⟨i1, i2, i3⟩ := pit_spec (so := so) (s := s) (j := j) n (by omega)
      refine v_X8_numberOf_2 _ _ _ _ _ _ ⟨fun g => absurd g (nI_ge (by omega) (by omega)), fun _ => ⟨hcd, by rw [hcl]; exact vp_in_nI (by omega) hl31, ?_⟩⟩
      rw [nI_cl (by omega), show M c j = nI (pit so s j n) by rw [← hM _ i3 i1, i2]]
      refine ⟨fun _ => ?_, fun g => ?_⟩
      · rw [nI_1]; exact ih
      · have : pit so s j n = k := nI_inj (by omega) (by omega) g
        rw [this] at i2
        omega
  exact key 0 (Nat.zero_le _)
theorem sp_isleByte (hI : jInj X T0) {k i : Nat} (hc : mCtx M so V n rc) (hw : jWf so V n rc) (hl : mLaid M so V n lo) (hk : k < n) (hs : so k = 5) (hi : i < 5 * pbc (V (33 + pct so 5 k)))
    (h : Q (some (.int (pby so V n rc lo k i))) M) : jOk X T0 (d + 1) q_X8_isleByte [.ref 54, .int (nI k), .int (nI i)] M Q := by
  have hn := hw.1.1
  have hs3 := hw.1.2.2.2.2
  have hj := pct_lt (n := n) hk hs
  have h256 := hw.isl (s := pct so 5 k) (by omega)
  have hb24 := pbc8 h256
  refine v_X8_isleByte hI _ _ _ _ ?_
  rw [hc.1.2.2.2.2.1]
  refine sp_numberOf (so := so) (s := 5) (n := n) (len := 3) hI rfl rfl hs3 (by decide) hn hc.2.2.2.2.2 hk hs ⟨_, rfl, ?_⟩
  have hnth := pxth_nth (V := V) (s := pct so 5 k) (m := i / 5) h256 (by omega)
  have e5 : nI i / 5 = nI (i / 5) := by rw [show (5 : Int32) = nI 5 from rfl]; exact pk_div (by omega) (by decide) (by decide)
  have e6 : nI i - nI i / 5 * 5 = nI (i % 5) := by rw [show (5 : Int32) = nI 5 from rfl]; exact pk_rem (by omega) (by decide) (by decide)
  obtain ⟨x, hxd⟩ : ∃ x, x = pxth V (pct so 5 k) (i / 5) 8 := ⟨_, rfl⟩
  rw [← hxd] at hnth
  obtain ⟨x8, xb, xm⟩ := hnth
  have hpx := (hw.2.2.2 (pct so 5 k) x (by omega) x8 xb).2
  have hpl := pli_le (so := so) (V := V) (x := x) n
  rw [e5]
  have key : ∀ y, y ≤ x → jRun X T0 (d + 1) q_X8_isleByte (21, [.ref 54, .int (nI k), .int (nI i), .int (nI (pct so 5 k)), .int (nI (i / 5 - fb_ct (fun i => (V (33 + pct so 5 k)).testBit i) y)), .int (nI y), .null], [], M) Q := by
    refine jUp ?_ ?_
    · rw [xm, Nat.sub_self]
      refine v_X8_isleByte_21 _ _ _ _ _ _ _ ⟨fun g => absurd g (by decide), fun _ => ?_⟩
      rw [show (33 : Int32) = nI 33 from rfl, nI_add, nI_cl (by omega), hc.2.1.2 _ (by omega)]
      refine ⟨vp_in_nI (by omega) (by decide), sp_has hI (by omega) (by omega) ⟨_, rfl, fun _ => ?_, fun g => ?_⟩⟩
      · rw [e6, e5]
        refine ⟨fun gi => ?_, fun gi => ?_⟩
        · have hi1 : i % 5 ≠ 0 := fun q => gi (by rw [q]; rfl)
          have e1 : nI (pli so V x n) - 1 = nI (pli so V x n - 1) := by rw [show (1 : Int32) = nI 1 from rfl, pk_sub (by omega)]
          rw [nI_cl (by omega), hc.2.2.1 x x8 (by omega), e1, nI_cl (by omega), nI_cl (by omega), hl.2 _ (by omega), hl.2 _ (by omega), nI_1]
          refine ⟨vp_in_nI x8 (by decide), vp_in_nI (by omega) (by decide), vp_in_nI (by omega) (by decide), ?_⟩
          refine v_X8_part hI _ _ _ _ ⟨_, rfl, ?_⟩
          rw [show pby so V n rc lo k i = ppart (pilf so V n lo k x (i / 5)) (i % 5 - 1) by simp [pby, pbyte, hs, hi1, ← hxd]] at h
          have e9 : nI (i % 5) - 1 = nI (i % 5 - 1) := by rw [show (1 : Int32) = nI 1 from rfl, pk_sub (by omega)]
          rw [e9]
          exact h
        · have hi1 : i % 5 = 0 := nI_inj (by omega) (by decide) gi
          rw [show pby so V n rc lo k i = 4 by simp [pby, pbyte, hs, hi1]] at h
          exact h
      · rw [jBI_0] at g
        rw [xb] at g
        cases g
    · intro y hy ih
      rw [fb_ct_succ] at ih
      have e33 : (33 : Int32) + nI (pct so 5 k) = nI (33 + pct so 5 k) := by rw [show (33 : Int32) = nI 33 from rfl, nI_add]
      have hfm := fb_ct_mono (fun i => (V (33 + pct so 5 k)).testBit i) (show y ≤ x by omega)
      refine v_X8_isleByte_21 _ _ _ _ _ _ _ ?_
      rw [e33, nI_cl (show 33 + pct so 5 k < 2 ^ 31 by omega), hc.2.1.2 _ (by omega)]
      have on0 : (V (33 + pct so 5 k)).testBit y = false → jRun X T0 (d + 1) q_X8_isleByte (21, [.ref 54, .int (nI k), .int (nI i), .int (nI (pct so 5 k)), .int (nI (i / 5 - fb_ct (fun i => (V (33 + pct so 5 k)).testBit i) y) - 0), .int (nI y + 1), .null], [], M) Q := by
        intro z
        rw [z] at ih
        rw [show nI (i / 5 - fb_ct (fun i => (V (33 + pct so 5 k)).testBit i) y) - 0 = nI (i / 5 - fb_ct (fun i => (V (33 + pct so 5 k)).testBit i) y) by simp, nI_1]
        exact ih
      refine ⟨fun g => ⟨vp_in_nI (by omega) (by decide), sp_has hI (by omega) (by omega) ⟨_, rfl, fun g2 => on0 (jBI_0.mp g2), fun g2 => ?_⟩⟩, fun g => ⟨vp_in_nI (by omega) (by decide), sp_has hI (by omega) (by omega) ⟨_, rfl, fun g2 => ?_, fun g2 => ?_⟩⟩⟩
      · have hb := jnb g2
        have hlt := pnth_lt hy hb
        rw [hb, if_pos rfl] at ih
        rw [show (1 : Int32) = nI 1 from rfl, pk_sub (by omega), nI_add]
        rw [show i / 5 - (fb_ct (fun i => (V (33 + pct so 5 k)).testBit i) y + 1) = i / 5 - fb_ct (fun i => (V (33 + pct so 5 k)).testBit i) y - 1 by omega] at ih
        exact ih
      · exfalso
        have hb := jnb g2
        have hlt := pnth_lt hy hb
        apply g
        rw [show (0 : Int32) = nI 0 from rfl]
        exact nI_lt (by omega) (by omega)
      · have hb := jBI_0.mp g2
        rw [hc.2.1.2 _ (by omega)]
        refine sp_has hI (by omega) (by omega) ⟨_, rfl, fun g3 => on0 hb, fun g3 => ?_⟩
        rw [jBI_0.mpr hb] at g3
        exact absurd rfl g3
  have h0 := key 0 (Nat.zero_le _)
  exact h0
theorem sp_mbyteOf (hI : jInj X T0) {i : Nat} (hc : mCtx M so V n rc) (hw : jWf so V n rc) (hl : mLaid M so V n lo) (h1 : lo < 2 ^ 31) (hi : i < ppos so V lo n)
    (h : Q (some (.int (pgb so V n rc lo i))) M) : jOk X T0 (d + 3) q_X8_byteOf [.ref 54, .int (nI i)] M Q := by
  have hn := hw.1.1
  refine v_X8_byteOf hI _ _ _ ?_
  refine sp_itemAt hI hw hl hi (fun k hk => ⟨_, rfl, ?_⟩)
  rw [pgb_it hk] at h
  obtain ⟨hkn, hk1, hk2⟩ := hk
  have hs5 := hw.2.1.1 k hkn
  have p1 := ppos_lt (lo := lo) hw (show k + 1 ≤ n by omega)
  have epl : ppos so V lo (k + 1) = ppos so V lo k + plen so V lo k (ppos so V lo k) := rfl
  rw [nI_1, nI_cl (by omega), nI_cl (by omega), hc.2.1.1 k hkn, hl.2 k (by omega), hl.2 (k + 1) (by omega), pk_sub hk1, pk_sub (by omega : ppos so V lo k ≤ ppos so V lo (k + 1))]
  obtain ⟨j, hj⟩ : ∃ j, j = i - ppos so V lo k := ⟨_, rfl⟩
  rw [← hj] at h ⊢
  have hil : j < plen so V lo k (ppos so V lo k) := by omega
  refine ⟨vp_in_nI (by omega) (by decide), vp_in_nI (by omega) (by decide), ?_⟩
  have hb : ∀ b : Nat, b ≤ 5 → (nI (so k) = nI b ↔ so k = b) := fun b hb => ⟨fun q => nI_inj (by omega) (by omega) q, fun q => by rw [q]⟩
  have hi0 : nI j = 0 ↔ j = 0 := ⟨fun q => nI_inj (by omega) (by decide) q, fun q => by rw [q]; rfl⟩
  refine ⟨fun g => ?_, fun g0 => ⟨fun g => ?_, fun g1 => ⟨fun g => ?_, fun g2 => ⟨fun g => ?_, fun g3 => ⟨fun g => ?_, fun g4 => ?_⟩⟩⟩⟩⟩
  · have e := (hb 0 (by omega)).mp g
    rw [show pby so V n rc lo k j = 16 by simp [pby, pbyte, e]] at h
    exact h
  · have e := (hb 1 (by omega)).mp g
    rw [show plen so V lo k (ppos so V lo k) = 0 by simp [plen, e]] at hil
    omega
  · have e := (hb 2 (by omega)).mp g
    refine ⟨fun gi => ?_, fun gi => ⟨vp_in_nI (by omega) (by decide), fun g => ?_, fun g => ?_⟩⟩
    · have hi1 : j ≠ 0 := fun q => gi (hi0.mpr q)
      refine sp_mfarOf hI hc hw hl hkn (Or.inl e) (fun r hr _ => ⟨_, rfl, ?_⟩)
      refine v_X8_part hI _ _ _ _ ⟨_, rfl, ?_⟩
      rw [show pby so V n rc lo k j = ppart (nI (ppos so V lo (ptg so V n k)) - nI (ppos so V lo (k + 1))) (j - 1) by simp [pby, pbyte, e, hi1]] at h
      rw [show (1 : Int32) = nI 1 from rfl, pk_sub (by omega), hr]
      exact h
    · have hi1 := hi0.mp gi
      have hlb : lo.testBit (pct so 2 k) = false := by
        cases hz : lo.testBit (pct so 2 k)
        · rfl
        · exfalso
          apply g
          rw [epl, show plen so V lo k (ppos so V lo k) = 5 by simp [plen, e, hz], show ppos so V lo k + 5 - ppos so V lo k = 5 by omega]
          rfl
      rw [show pby so V n rc lo k j = 1 by simp [pby, pbyte, e, hi1, hlb]] at h
      exact h
    · have hi1 := hi0.mp gi
      have hlb : lo.testBit (pct so 2 k) = true := by
        cases hz : lo.testBit (pct so 2 k)
        · exfalso
          rw [epl, show plen so V lo k (ppos so V lo k) = 2 by simp [plen, e, hz], show ppos so V lo k + 2 - ppos so V lo k = 2 by omega] at g
          exact absurd g (by decide)
        · rfl
      rw [show pby so V n rc lo k j = 2 by simp [pby, pbyte, e, hi1, hlb]] at h
      exact h
  · have e := (hb 3 (by omega)).mp g
    rw [show pby so V n rc lo k j = 0 by simp [pby, pbyte, e]] at h
    exact h
  · have e := (hb 4 (by omega)).mp g
    refine ⟨fun gi => ?_, fun gi => ?_⟩
    · have hi1 : j ≠ 0 := fun q => gi (hi0.mpr q)
      have rg := pfar_rng (lo := lo) hw hkn (Or.inr e)
      refine sp_mfarOf hI hc hw hl hkn (Or.inr e) (fun r _ hr => ⟨_, rfl, ?_⟩)
      refine sp_isNear hI hc.1.2.1 hw.1.2.1 ⟨_, rfl, fun g => ?_, fun g => ?_⟩
      · have hnr := jBI_0.mp g
        rw [hr] at hnr
        have e0 : pserv so V n rc lo k = pisf so V n rc lo k (pct so 5 n) 0 := by simp [pserv, hnr]
        refine sp_isleFar hI hc hw hl hkn e (fun r2 hr2 => ⟨_, rfl, fun g2 => ?_, fun g2 => ?_⟩)
        · rw [jToI hr2] at g2
          refine sp_isleFar hI hc hw hl hkn e (fun r3 hr3 => ⟨_, rfl, v_X8_part hI _ _ _ _ ⟨_, rfl, ?_⟩⟩)
          rw [show pby so V n rc lo k j = ppart (Int32.ofInt (pserv so V n rc lo k)) 0 by simp [pby, pbyte, e, hi1, e0, g2]] at h
          rw [e0, ← hr3, fb_asI] at h
          exact h
        · rw [jToI hr2] at g2
          rw [show pby so V n rc lo k j = 0 by simp [pby, pbyte, e, e0, g2, hi1]] at h
          exact h
      · have hnr := jnb g
        rw [hr] at hnr
        have e0 : pserv so V n rc lo k = pfar so V n lo k := by simp [pserv, hnr]
        refine sp_mfarOf hI hc hw hl hkn (Or.inr e) (fun r3 _ hr3 => ⟨_, rfl, v_X8_part hI _ _ _ _ ⟨_, rfl, ?_⟩⟩)
        rw [show pby so V n rc lo k j = ppart (Int32.ofInt (pserv so V n rc lo k)) 0 by
          have : pfar so V n lo k ≠ -1000000 := by omega
          simp [pby, pbyte, e, hi1, e0, this]] at h
        rw [e0, ← hr3, fb_asI] at h
        exact h
    · rw [show pby so V n rc lo k j = 3 by simp [pby, pbyte, e, hi0.mp gi]] at h
      exact h
  · have e : so k = 5 := by
      have g0' : ¬ so k = 0 := fun q => g0 ((hb 0 (by omega)).mpr q)
      have g1' : ¬ so k = 1 := fun q => g1 ((hb 1 (by omega)).mpr q)
      have g2' : ¬ so k = 2 := fun q => g2 ((hb 2 (by omega)).mpr q)
      have g3' : ¬ so k = 3 := fun q => g3 ((hb 3 (by omega)).mpr q)
      have g4' : ¬ so k = 4 := fun q => g4 ((hb 4 (by omega)).mpr q)
      omega
    rw [show plen so V lo k (ppos so V lo k) = 5 * pbc (V (33 + pct so 5 k)) by simp [plen, e]] at hil
    exact sp_isleByte hI hc hw hl hkn e hil ⟨_, rfl, h⟩
end JMB
