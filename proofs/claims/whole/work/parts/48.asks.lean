section JAS
variable {X : jX} {d : Nat} {M M' : jMem} {Q : Option Value → jMem → Prop} {so P V : Nat → Nat} {n rc : Nat} {fw : Int32} {s : jSt} {T : Nat × (Nat → Nat)} {H : jHi} {K : Nat → Option jHi}
theorem pbc_8 {v : Nat} (h : v < 256) : pbc v = fb_ct (fun i => v.testBit i) 8 := by
  unfold pbc
  rw [show (24 : Nat) = 8 + 16 from rfl, fb_ct_split, (fb_ct_zero (p := fun k => v.testBit (8 + k)) (n := 16)).mpr (fun k _ => jbit_hi (m := 8) h (by omega)), Nat.add_zero]
theorem pbc_pis (h33 : V 33 < 256) (h34 : V 34 < 256) (h35 : V 35 < 256) : pbc (pis V) = pbc (V 33) + pbc (V 34) + pbc (V 35) := by
  rw [pbc_8 h33, pbc_8 h34, pbc_8 h35]
  unfold pbc
  rw [show (24 : Nat) = (8 + 8) + 8 from rfl, fb_ct_split, fb_ct_split]
  have a0 := fb_ct_cong (n := 8) (fun k hk => pis_bit (V := V) (s := 0) (x := k) (by decide) hk h33 h34)
  have a1 := fb_ct_cong (n := 8) (fun k hk => pis_bit (V := V) (s := 1) (x := k) (by decide) hk h33 h34)
  have a2 := fb_ct_cong (n := 8) (fun k hk => pis_bit (V := V) (s := 2) (x := k) (by decide) hk h33 h34)
  simp only [Nat.mul_zero, Nat.zero_add] at a0
  rw [a0]
  exact congr (congrArg _ (congrArg _ a1)) a2
def pisl (V : Nat → Nat) : Nat := pbc (V 33) + pbc (V 34) + pbc (V 35)
theorem sp_isles (hI : jInj X T0) (h33 : V 33 < 256) (h34 : V 34 < 256) (h35 : V 35 < 256) (e3 : M 57 33 = nI (V 33)) (e4 : M 57 34 = nI (V 34)) (e5 : M 57 35 = nI (V 35)) (h : Q (some (.int (nI (pisl V)))) M) : jOk X T0 (d + 1) q_X8_isles [.ref 54] M Q := by
  refine v_X8_isles hI _ _ ?_
  rw [e3]
  refine sp_bits hI (by omega) ⟨_, rfl, ?_⟩
  rw [e4]
  refine sp_bits hI (by omega) ⟨_, rfl, ?_⟩
  rw [e5]
  refine sp_bits hI (by omega) ⟨_, rfl, ?_⟩
  rw [nI_add, nI_add]
  exact h
def fitem (so V : Nat → Nat) (n : Nat) (k b : Int32) : Int32 :=
  if pkn n k = true then (if b = 0 then nI (so k.toNatClampNeg) else if b = 1 then (if so k.toNatClampNeg = 5 then nI (pbc (V (33 + pct so 5 k.toNatClampNeg))) else nI (V k.toNatClampNeg)) else if b = 2 then (if so k.toNatClampNeg = 2 then jBI ((V 32).testBit (pct so 2 k.toNatClampNeg)) else 0) else -1) else -1
theorem jWf.v3 (hw : jWf so V n rc) {t : Nat} (ht : t < 3) : V (33 + t) < 256 := by
  rcases (show t = 0 ∨ t = 1 ∨ t = 2 by omega) with rfl | rfl | rfl
  · exact hw.2.2.1.2.1
  · exact hw.2.2.1.2.2.1
  · exact hw.2.2.1.2.2.2
theorem pnum_5 {k : Nat} (h : so k = 5) : pnum so k = pct so 5 k := by simp [pnum, h]
theorem pnum_2 {k : Nat} (h : so k = 2) : pnum so k = pct so 2 k := by simp [pnum, h]
theorem cq_item (hI : jInj X T0) {k b : Int32} (hc : jCtx M so V n rc 22 23) (hw : jWf so V n rc) (h : Q (some (.int (fitem so V n k b))) M) : jOk X T0 (d + 3) q_X7_item [.ref 0, .int k, .int b] M Q := by
  have hn := hw.1.1
  have hV := hw.2.2.1
  have hp : 2 ^ pct so 2 n ≤ 2 ^ 10 := Nat.pow_le_pow_right (by decide) hw.1.2.2.1
  refine v_X7_item hI _ _ _ _ (sp_hasItem hI hc.1.1 ⟨_, rfl, fun g => ?_, fun g => by
    rw [fitem, show pkn n k = false from jBI_0.mp g] at h
    exact h⟩)
  have hk := jnb g
  obtain ⟨k, hkn, rfl⟩ := pit_t hk hn
  have hs5 := hw.2.1.1 k hkn
  rw [fitem, if_pos (show pkn n (nI k) = true from hk), nI_cl (by omega)] at h
  rw [nI_cl (by omega)]
  refine ⟨fun g0 => ⟨vp_in_nI (by omega) (by decide), ?_⟩, fun g0 => ?_⟩
  · rw [if_pos g0] at h
    rw [hc.2.1.1 k hkn]
    exact h
  rw [if_neg g0] at h
  refine ⟨fun g1 => ?_, fun g1 => ?_⟩
  · rw [if_pos g1] at h
    refine v_X7_valueNow hI _ _ _ ⟨vp_in_nI (by omega) (by decide), ?_⟩
    rw [nI_cl (by omega), hc.2.1.1 k hkn]
    refine ⟨fun g2 => ⟨fun g3 => ?_, fun g3 => ?_⟩, fun g2 => ?_⟩
    · have n0 : so k ≠ 0 := fun q => g2 (by rw [q]; rfl)
      rw [if_neg (fun q => g3 (by rw [q]; rfl))] at h
      rw [hc.2.1.2.1 k hkn n0]
      exact ⟨_, rfl, h⟩
    · have n5 : so k = 5 := nI_inj (by omega) (by decide) g3
      rw [if_pos n5] at h
      rw [hc.2.1.2.2.1 k hkn, pnum_5 n5]
      have hlt := pct_lt (n := n) hkn n5
      have h5 := hw.1.2.2.2.2
      exact sp_islandsIn (V := V) hI (Or.inl ⟨rfl, rfl⟩) (by omega) hc.2.2.2.2.2.1 hV.2.1 hV.2.2.1 hV.2.2.2 ⟨_, rfl, _, rfl, h⟩
    · have n0 : so k = 0 := nI_inj (by omega) (by decide) g2
      rw [if_neg (by rw [n0]; decide)] at h
      rw [hc.2.2.2.1 k hkn n0]
      exact ⟨_, rfl, h⟩
  rw [if_neg g1] at h
  refine ⟨fun g2 => ⟨vp_in_nI (by omega) (by decide), ?_⟩, fun g2 => ?_⟩
  · rw [if_pos g2] at h
    rw [hc.2.1.1 k hkn]
    refine ⟨fun g3 => ?_, fun g3 => ?_⟩
    · rw [if_neg (fun q => g3 (by rw [q]; rfl))] at h
      exact h
    · have n2 : so k = 2 := nI_inj (by omega) (by decide) g3
      rw [if_pos n2] at h
      have hlt := pct_lt (n := n) hkn n2
      have h2 := hw.1.2.2.1
      rw [hc.2.1.2.2.1 k hkn, pnum_2 n2, hc.2.2.2.2.1, jbit (by omega) (by omega), jBI_n]
      exact h
  · rw [if_neg g2] at h
    exact h
theorem mq_item (hI : jInj X T0) {k b : Int32} (hc : mCtx M so V n rc) (hw : jWf so V n rc) (h : ∀ M', mFz M M' → Q (some (.int (fitem so V n k b))) M') : jOk X T0 (d + 3) q_X8_item [.ref 54, .int k, .int b] M Q := by
  have hn := hw.1.1
  have hV := hw.2.2.1
  have hp : 2 ^ pct so 2 n ≤ 2 ^ 10 := Nat.pow_le_pow_right (by decide) hw.1.2.2.1
  refine v_X8_item hI _ _ _ _ (fun M1 e1 => ?_)
  have hz1 : mFz M M1 := by subst e1; exact mFz.t0
  have hc1 := hz1.ctx hc
  have h := h M1 hz1
  refine sp_misItem hI hc1.1.1 hn ⟨_, rfl, fun g => by
    rw [fitem, show pkn n k = false from jBI_0.mp g] at h
    exact h, fun g => ?_⟩
  have hk := jnb g
  obtain ⟨k, hkn, rfl⟩ := pit_t hk hn
  have hs5 := hw.2.1.1 k hkn
  rw [fitem, if_pos (show pkn n (nI k) = true from hk), nI_cl (by omega)] at h
  rw [nI_cl (by omega)]
  refine sp_in hI ⟨_, rfl, ?_⟩
  rw [jin_i (l := 0) (u := 2) (lo := 0) (hi := 2) rfl rfl]
  have z0 : (0 : Int32).toInt = 0 := by decide
  have z1 : (1 : Int32).toInt = 1 := by decide
  have z2 : (2 : Int32).toInt = 2 := by decide
  refine ⟨fun g2 => ?_, fun g2 => ?_⟩
  · have hb := of_decide_eq_true (jnb g2)
    have b1 := hb.1
    have b2 := hb.2
    rw [fa_le] at b1 b2
    refine ⟨fun g0 => ?_, fun g0 => ⟨vp_in_nI (by omega) (by decide), ?_⟩⟩
    · rw [if_neg g0] at h
      refine ⟨fun g1 => ⟨vp_in_nI (by omega) (by decide), ?_⟩, fun g1 => ⟨vp_in_nI (by omega) (by decide), ?_⟩⟩
      · rw [if_neg g1, if_pos (by rw [fa_eq] at g0 g1 ⊢; omega)] at h
        rw [hc1.2.1.1 k hkn]
        refine ⟨fun g3 => ?_, fun g3 => ?_⟩
        · rw [if_neg (fun q => g3 (by rw [q]; rfl))] at h
          exact h
        · have n2 : so k = 2 := nI_inj (by omega) (by decide) g3
          rw [if_pos n2] at h
          have hlt := pct_lt (n := n) hkn n2
          have h2 := hw.1.2.2.1
          rw [hc1.1.2.2.1]
          refine sp_numberOf (so := so) (n := n) (s := 2) (len := 10) hI rfl rfl h2 (by decide) hn hc1.2.2.2.1 hkn n2 ⟨_, rfl, ?_⟩
          rw [hc1.2.1.2 32 (by decide), jbit (by omega) (by omega), jBI_n]
          exact h
      · rw [if_pos g1] at h
        rw [hc1.2.1.1 k hkn]
        refine ⟨fun g3 => ⟨vp_in_nI (by omega) (by decide), ?_⟩, fun g3 => ?_⟩
        · rw [if_neg (fun q => g3 (by rw [q]; rfl))] at h
          rw [hc1.2.1.2 k (by omega)]
          exact h
        · have n5 : so k = 5 := nI_inj (by omega) (by decide) g3
          rw [if_pos n5] at h
          have hlt := pct_lt (n := n) hkn n5
          have h5 := hw.1.2.2.2.2
          rw [hc1.1.2.2.2.2.1]
          refine sp_numberOf (so := so) (n := n) (s := 5) (len := 3) hI rfl rfl h5 (by decide) hn hc1.2.2.2.2.2 hkn n5 ⟨_, rfl, ?_⟩
          rw [show (33 : Int32) = nI 33 from rfl, nI_add, nI_cl (by omega), hc1.2.1.2 _ (by omega)]
          refine ⟨vp_in_nI (by omega) (by decide), sp_bits hI ?_ ⟨_, rfl, h⟩⟩
          have := hw.v3 (t := pct so 5 k) (by omega)
          omega
    · rw [if_pos g0] at h
      rw [hc1.2.1.1 k hkn]
      exact h
  · have hb := of_decide_eq_false (jBI_0.mp g2)
    rw [if_neg (fun q => hb (by rw [q]; decide)), if_neg (fun q => hb (by rw [q]; decide)), if_neg (fun q => hb (by rw [q]; decide))] at h
    exact h
theorem p_item (hI : jInj X T0) (hW : jInW s) (a b : Int32) : jPair X q_X7_item q_X8_item [.int a, .int b] s := by
  obtain ⟨T, ⟨so, P, n, rc⟩, H, K⟩ := s
  have hw := (hW.2.1.2 _ (Nat.le_refl _)).1
  exact jAsk hW (fun M Q hc _ ca k => cq_item (d := 9) hI hc hw (k M jFz.rf ca)) (fun M Q hc _ k => mq_item (d := 9) hI hc hw k)
def fcnt (s : jSt) (b : Int32) : Int32 := if b = 0 then nI s.2.1.2.2.1 else if b = 1 then nI (pct s.2.1.1 2 s.2.1.2.2.1) else if b = 2 then nI (pct s.2.1.1 4 s.2.1.2.2.1) else if b = 3 then nI (pct s.2.1.1 5 s.2.1.2.2.1) else if b = 4 then nI (pct s.2.1.1 0 s.2.1.2.2.1) else if b = 5 then nI s.2.1.2.2.2 else if b = 6 then nI (pisl (s.2.2.1.1 s.2.2.1.2)) else if b = 7 then nI s.2.2.1.2 else if b = 8 then nI s.1.1 else -1
theorem p_count (hI : jInj X T0) (hW : jInW s) (b : Int32) : jPair X q_X7_count q_X8_count [.int b] s := by
  obtain ⟨T, ⟨so, P, n, rc⟩, H, K⟩ := s
  have hw := (hW.2.1.2 _ (Nat.le_refl _)).1
  have hV := hw.2.2.1
  refine jAsk hW (r := fcnt (T, (so, P, n, rc), H, K) b) (fun M Q hc hC ca k => ?_) (fun M Q hc hM k => ?_)
  · have h := k M jFz.rf ca
    refine v_X7_count (d := 11) hI _ _ _ ?_
    unfold fcnt at h
    refine ⟨fun g => ?_, fun g => ?_⟩
    · rw [if_pos g] at h; rw [hC.2.1.1.1]; exact h
    rw [if_neg g] at h
    refine ⟨fun g => ?_, fun g => ?_⟩
    · rw [if_pos g] at h; rw [hC.2.1.1.2.2.1]; exact h
    rw [if_neg g] at h
    refine ⟨fun g => ?_, fun g => ?_⟩
    · rw [if_pos g] at h; rw [hC.2.1.1.2.2.2.1]; exact h
    rw [if_neg g] at h
    refine ⟨fun g => ?_, fun g => ?_⟩
    · rw [if_pos g] at h; rw [hC.2.1.1.2.2.2.2.1]; exact h
    rw [if_neg g] at h
    refine ⟨fun g => ?_, fun g => ?_⟩
    · rw [if_pos g] at h; rw [hC.2.1.1.2.1]; exact h
    rw [if_neg g] at h
    refine ⟨fun g => ?_, fun g => ?_⟩
    · rw [if_pos g] at h; rw [hC.2.1.1.2.2.2.2.2]; exact h
    rw [if_neg g] at h
    refine ⟨fun g => ?_, fun g => ?_⟩
    · rw [if_pos g] at h
      refine sp_islandCount (V := H.1 H.2) hI (Or.inl ⟨rfl, rfl⟩) hC.2.2.1.1.2.2.1 hV.2.1 hV.2.2.1 hV.2.2.2 ⟨_, rfl, ?_⟩
      rw [pbc_pis hV.2.1 hV.2.2.1 hV.2.2.2]
      exact h
    rw [if_neg g] at h
    refine ⟨fun g => ?_, fun g => ?_⟩
    · rw [if_pos g] at h; rw [show M 24 3 = nI H.2 from hC.2.2.1.2.1]; exact h
    rw [if_neg g] at h
    refine ⟨fun g => ?_, fun g => ?_⟩
    · rw [if_pos g] at h; rw [hC.1.1]; exact h
    rw [if_neg g] at h
    exact h
  · refine v_X8_count (d := 11) hI _ _ _ (fun M1 e1 => ?_)
    have hz1 : mFz M M1 := by subst e1; exact mFz.t0
    have h := k M1 hz1
    have hM1 := hM.fz hz1
    unfold fcnt at h
    refine ⟨fun g => ?_, fun g => ?_⟩
    · rw [if_pos g] at h; rw [hM1.2.1.1.1]; exact h
    rw [if_neg g] at h
    refine ⟨fun g => ?_, fun g => ?_⟩
    · rw [if_pos g] at h; rw [hM1.2.1.1.2.2.1]; exact h
    rw [if_neg g] at h
    refine ⟨fun g => ?_, fun g => ?_⟩
    · rw [if_pos g] at h; rw [hM1.2.1.1.2.2.2.1]; exact h
    rw [if_neg g] at h
    refine ⟨fun g => ?_, fun g => ?_⟩
    · rw [if_pos g] at h; rw [hM1.2.1.1.2.2.2.2.1]; exact h
    rw [if_neg g] at h
    refine ⟨fun g => ?_, fun g => ?_⟩
    · rw [if_pos g] at h; rw [hM1.2.1.1.2.2.2.2.2]; exact h
    rw [if_neg g] at h
    refine ⟨fun g => ?_, fun g => ?_⟩
    · rw [if_pos g] at h; rw [hM1.2.1.1.2.1]; exact h
    rw [if_neg g] at h
    refine ⟨fun g => ?_, fun g => ?_⟩
    · rw [if_pos g] at h
      have e := hM1.2.2.1.1
      exact sp_isles (V := H.1 H.2) hI hV.2.1 hV.2.2.1 hV.2.2.2 (e 33 (by decide)) (e 34 (by decide)) (e 35 (by decide)) ⟨_, rfl, h⟩
    rw [if_neg g] at h
    refine ⟨fun g => ?_, fun g => ?_⟩
    · rw [if_pos g] at h; rw [hM1.2.2.1.2.1]; exact h
    rw [if_neg g] at h
    refine ⟨fun g => ?_, fun g => ?_⟩
    · rw [if_pos g] at h; rw [hM1.1.1]; exact h
    rw [if_neg g] at h
    exact h
end JAS
