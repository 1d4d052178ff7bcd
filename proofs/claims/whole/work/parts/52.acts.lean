section JAD
variable {X : jX} {d : Nat} {M M' : jMem} {Q : Option Value → jMem → Prop} {so P V V' : Nat → Nat} {n rc B : Nat} {fw : Int32} {s : jSt} {T : Nat × (Nat → Nat)} {H : jHi} {K : Nat → Option jHi} {o : Option jHi}
theorem p_pins (hI : jInj X T0) (hW : jInW s) (a : Int32) : jPair X q_X7_pins q_X8_pins [.int a] s := by
  obtain ⟨T, ⟨so, P, n, rc⟩, H, K⟩ := s
  have hv : jVok so P n rc (H.1 H.2) := hW.2.1.2 _ (Nat.le_refl _)
  have hw := hv.1
  have hn : n ≤ 32 := hw.1.1
  have hso : ∀ k, k < n → so k ≤ 5 := hw.2.1.1
  have h2 := hw.1.2.2.1
  have hp : 2 ^ pct so 2 n ≤ 2 ^ 10 := Nat.pow_le_pow_right (by decide) h2
  have hVp := hw.2.2.1.1
  by_cases hb1 : (pkn n a && decide (so a.toNatClampNeg = 2)) = true
  · have hb0 := Bool.and_eq_true_iff.mp hb1
    obtain ⟨k, hkn, rfl⟩ := pit_t hb0.1 hn
    have hs2 : so k = 2 := by have := of_decide_eq_true hb0.2; rw [nI_cl (by omega)] at this; exact this
    have hlt := pct_lt (n := n) hkn hs2
    have u : ∀ j, j ≠ 32 → pup (H.1 H.2) 32 (H.1 H.2 32 ^^^ 2 ^ pct so 2 k) j = H.1 H.2 j := fun j hj => pup_n hj
    have hx : H.1 H.2 32 ^^^ 2 ^ pct so 2 k < 2 ^ pct so 2 n := Nat.xor_lt_two_pow hVp (Nat.pow_lt_pow_right (by decide) hlt)
    have hv2 : jVok so P n rc (pup (H.1 H.2) 32 (H.1 H.2 32 ^^^ 2 ^ pct so 2 k)) := by
      refine hv.chg (fun j hj _ => u j (by omega)) (fun j hj h0 => ?_) ?_ ?_ ?_ ?_
      · rw [u j (by omega)]; exact ⟨(hw.2.1.2.1 j hj h0).1, hv.2.1 j hj h0⟩
      · rw [pup_s]; exact hx
      · rw [u 33 (by omega), u 34 (by omega), u 35 (by omega)]; exact hw.2.2.1.2
      · intro t x ht hx hb
        rw [u (33 + t) (by omega)] at hb
        exact hw.2.2.2 t x ht hx hb
      · unfold pisl
        rw [u 33 (by omega), u 34 (by omega), u 35 (by omega)]; exact hv.2.2.1
    refine ⟨jBI ((H.1 H.2 32 ^^^ 2 ^ pct so 2 k).testBit (pct so 2 k)), _, jActW hW hv2, fun M Q hC kk => ?_, fun M Q hM kk => ?_⟩
    · have hc := hC.ctx hW
      refine v_X7_pins (d := 11) hI _ _ _ (sp_isOf (s := 2) hI hc.1.1 hc.2.1.1 hn hso (by decide) ⟨_, rfl, fun _ => ⟨vp_in_nI (by omega) (by decide), ?_⟩, fun g => ?_⟩)
      · rw [nI_cl (by omega), hc.2.2.2.2.1, hc.2.1.2.2.1 k hkn, pnum_2 hs2, jshl1 _ (by omega), fb_xorI]
        refine sp_remember hI hC.2.2.1.2 hW.2.1.1 (V' := pup (H.1 H.2) 32 (H.1 H.2 32 ^^^ 2 ^ pct so 2 k)) (Or.inr (Or.inl ⟨rfl, rfl, fun j _ hj => (u j hj).symm⟩)) (fun M2 f2 p2 => ⟨rfl, fun M3 e3 M4 e4 => ?_⟩)
        have eo : ∀ c, c ≠ 0 → c ≠ 22 → M4 c = M2 c := fun c a b => by subst e4; subst e3; rw [jP_n a, jP_n b]
        have e22 : M4 22 = upd (M 22) 1 (nI (H.1 H.2 32 ^^^ 2 ^ pct so 2 k)) := by subst e4; subst e3; rw [jP_n (by decide), jP_s, f2 22 (by decide)]
        have kq := kk M4 (jActC hC (fun c a b => by rw [eo c a (by omega)]; exact f2 c (by omega)) (by
          rw [eo 23 (by decide) (by decide), f2 23 (by decide), e22]
          have sh := hC.2.2.1.1
          refine ⟨fun j hj h0 => by have hj : j < n := hj; rw [u j (by omega)]; exact sh.1 j hj h0, by rw [pup_s]; rfl, ?_, sh.2.2.2⟩
          unfold pis
          rw [u 33 (by omega), u 34 (by omega), u 35 (by omega)]
          exact sh.2.2.1) (by rw [eo 24 (by decide) (by decide), eo 25 (by decide) (by decide), eo 26 (by decide) (by decide), eo 27 (by decide) (by decide)]; exact p2) (by subst e4; rw [jP_s]; rfl)) (fun c hc => by rw [eo c (by omega) (by omega)]; exact f2 c (by omega))
        rw [e22, show upd (M 22) 1 (nI (H.1 H.2 32 ^^^ 2 ^ pct so 2 k)) 1 = nI (H.1 H.2 32 ^^^ 2 ^ pct so 2 k) from rfl, jbit (by omega) (by omega), jBI_n]
        exact kq
      · rw [hb1] at g; exact absurd g (by decide)
    · refine v_X8_pins (d := 11) hI _ _ _ (fun M1 e1 => ?_)
      have hz1 : mFz M M1 := by subst e1; exact mFz.t0
      have hM1 := hM.fz hz1
      have hc1 := hM1.ctx hW
      refine sp_misItem hI hc1.1.1 hn ⟨_, rfl, fun g => ?_, fun _ => ⟨vp_in_nI (by omega) (by decide), fun _ => ?_, fun g => absurd ?_ g⟩⟩
      · rw [show decide (0 ≤ nI k ∧ nI k < nI n) = true from hb0.1] at g; exact absurd g (by decide)
      · refine sp_keepAct hI hM1.2.2.1 hW.2.1.1 (V' := pup (H.1 H.2) 32 (H.1 H.2 32 ^^^ 2 ^ pct so 2 k)) (fun M2 f2 g2 a2 b2 => ⟨rfl, ?_⟩)
        rw [g2 12 (by decide), hc1.1.2.2.1]
        refine sp_numberOf (so := so) (n := n) (s := 2) (len := 10) hI rfl rfl h2 (by decide) hn (by rw [f2 58 (by decide) (by decide)]; exact hc1.2.2.2.1) hkn hs2 ⟨_, rfl, fun M3 e3 => ?_⟩
        rw [f2 57 (by decide) (by decide), hc1.2.1.2 32 (by decide), jshl1 _ (by omega), fb_xorI] at e3
        have eo : ∀ c, c ≠ 57 → M3 c = M2 c := fun c a => by subst e3; rw [jP_n a]
        have e57 : M3 57 = upd (M1 57) 32 (nI (H.1 H.2 32 ^^^ 2 ^ pct so 2 k)) := by subst e3; rw [jP_s, f2 57 (by decide) (by decide)]
        have kq := kk M3 (jActM hM1 (fun c a b e => by rw [eo c b]; exact f2 c a e) (fun j a b => by rw [eo 54 (by decide)]; exact g2 j b) (fun j hj => by
          rw [e57]
          simp only [upd]
          by_cases q : j = 32
          · subst q; rw [if_pos rfl, pup_s]
          · rw [if_neg q, u j q]; exact hc1.2.1.2 j hj) (by rw [eo 54 (by decide)]; exact a2) (by rw [eo 62 (by decide)]; exact b2)) (fun c hc => by rw [eo c (by omega), f2 c (by omega) (by omega)]; exact hz1.lo c hc)
        rw [e57, show upd (M1 57) 32 (nI (H.1 H.2 32 ^^^ 2 ^ pct so 2 k)) 32 = nI (H.1 H.2 32 ^^^ 2 ^ pct so 2 k) from rfl, jbit (by omega) (by omega), jBI_n]
        exact kq
      · rw [nI_cl (by omega), hc1.2.1.1 k hkn, hs2]; rfl
  · refine jAsk hW (r := -1) (fun M Q hc hC ca kk => ?_) (fun M Q hc hM kk => ?_)
    · exact v_X7_pins (d := 11) hI _ _ _ (sp_isOf (s := 2) hI hc.1.1 hc.2.1.1 hn hso (by decide) ⟨_, rfl, fun g => absurd (jnb g) hb1, fun _ => kk M jFz.rf ca⟩)
    · refine v_X8_pins (d := 11) hI _ _ _ (fun M1 e1 => ?_)
      have hz1 : mFz M M1 := by subst e1; exact mFz.t0
      have hc1 := hz1.ctx hc
      have k2 := kk M1 hz1
      refine sp_misItem hI hc1.1.1 hn ⟨_, rfl, fun _ => k2, fun g => ?_⟩
      have hk := jnb g
      obtain ⟨k, hkn, rfl⟩ := pit_t hk hn
      rw [nI_cl (by omega), hc1.2.1.1 k hkn]
      refine ⟨vp_in_nI (by omega) (by decide), fun g2 => absurd ?_ hb1, fun _ => k2⟩
      rw [nI_cl (by omega), show pkn n (nI k) = true from hk, Bool.true_and]
      have := hso k hkn
      exact decide_eq_true (nI_inj (b := 2) (by omega) (by decide) g2)
/-- whether an island may be there -/
def fisl (so V : Nat → Nat) (n : Nat) (a c : Int32) : Bool := decide (0 ≤ a ∧ a < nI (pct so 5 n)) && (decide (0 ≤ c ∧ c < 8) && decide (0 < pli so V c.toNatClampNeg n))
theorem sp_mayHold (hI : jInj X T0) {a c : Int32} (hc : jCtx M so V n rc 22 23) (hn : n ≤ 32) (h : Q (some (.int (jBI (fisl so V n a c)))) M) : jOk X T0 (d + 1) q_X7_mayHoldIsland [.ref 0, .int a, .int c] M Q := by
  refine v_X7_mayHoldIsland hI _ _ _ _ ?_
  rw [hc.1.2.2.2]
  unfold fisl at h
  refine ⟨fun g => ?_, fun g => ⟨fun g2 => ?_, fun g2 => ?_⟩⟩
  · rw [decide_eq_false (fun q => by rw [fa_lt] at g; have := q.1; rw [fa_le] at this; omega)] at h; exact h
  · rw [decide_eq_false (fun q => by rw [fa_le] at g2; have := q.2; rw [fa_lt] at this; omega)] at h; exact h
  · rw [decide_eq_true ⟨fa_of_nlt g, fa_of_nle g2⟩, Bool.true_and] at h
    by_cases q : 0 ≤ c ∧ c < 8
    · rw [decide_eq_true q, Bool.true_and] at h
      obtain ⟨x, hx, rfl⟩ := pit_t (n := 8) (decide_eq_true q) (by decide)
      rw [nI_cl (by omega)] at h
      refine sp_hasLabel (so := so) (V := V) (n := n) hI hx (hc.2.2.1.1 x hx) hn ⟨_, rfl, fun g3 => ?_, fun g3 => ?_⟩
      · rw [jBI_0.mp g3] at h; exact h
      · rw [jnb g3] at h; exact h
    · rw [decide_eq_false q] at h
      refine v12_X3_hasLabel hI _ _ _ ⟨fun _ => ⟨_, rfl, fun _ => h, fun g => absurd rfl g⟩, fun g3 => ⟨fun _ => ⟨_, rfl, fun _ => h, fun g => absurd rfl g⟩, fun g4 => absurd ⟨fa_of_nlt g3, fa_of_nle g4⟩ q⟩⟩
theorem fisl_t (h5 : pct so 5 n ≤ 3) {a c : Int32} (h : fisl so V n a c = true) : ∃ t x : Nat, t < pct so 5 n ∧ x < 8 ∧ a = nI t ∧ c = nI x ∧ 0 < pli so V x n := by
  unfold fisl at h
  have h1 := Bool.and_eq_true_iff.mp h
  have h2 := Bool.and_eq_true_iff.mp h1.2
  obtain ⟨t, ht, rfl⟩ := pit_t h1.1 (by omega)
  obtain ⟨x, hx, rfl⟩ := pit_t (n := 8) h2.1 (by decide)
  have h3 := of_decide_eq_true h2.2
  rw [nI_cl (by omega)] at h3
  exact ⟨t, x, ht, hx, rfl, rfl, h3⟩
theorem pxor_bit {v x j : Nat} : (v ^^^ 2 ^ x).testBit j = if j = x then !v.testBit x else v.testBit j := by
  rw [Nat.testBit_xor, Nat.testBit_two_pow]
  by_cases e : j = x
  · subst e; simp
  · rw [if_neg e, decide_eq_false (fun q => e q.symm), Bool.xor_false]
theorem pxor_bc {v x : Nat} (hx : x < 24) : pbc (v ^^^ 2 ^ x) + (if v.testBit x then 1 else 0) = pbc v + (if !v.testBit x then 1 else 0) := by
  unfold pbc
  rw [show (fun i => (v ^^^ 2 ^ x).testBit i) = (fun i => if i = x then !v.testBit x else v.testBit i) from funext fun i => pxor_bit]
  exact fb_ct_upd (fun i => v.testBit i) (!v.testBit x) hx
theorem pxor_or {v x : Nat} (h : v.testBit x = false) : v ||| 2 ^ x = v ^^^ 2 ^ x := by
  apply Nat.eq_of_testBit_eq
  intro i
  rw [pxor_bit, Nat.testBit_or, Nat.testBit_two_pow]
  by_cases e : i = x
  · subst e; rw [h]; simp
  · rw [if_neg e, decide_eq_false (fun q => e q.symm), Bool.or_false]
def ptog (V : Nat → Nat) (t x : Nat) : Nat → Nat := pup V (33 + t) (V (33 + t) ^^^ 2 ^ x)
theorem ptog_3 {t x r : Nat} : ptog V t x (33 + r) = if r = t then V (33 + r) ^^^ 2 ^ x else V (33 + r) := by
  unfold ptog pup
  by_cases e : r = t
  · subst e; rw [if_pos rfl, if_pos rfl]
  · rw [if_neg (by omega), if_neg e]
theorem ptog_lt (h : ∀ r, r < 3 → V (33 + r) < 256) {t x r : Nat} (hx : x < 8) (hr : r < 3) : ptog V t x (33 + r) < 256 := by
  rw [ptog_3]
  have := h r hr
  by_cases e : r = t
  · rw [if_pos e]; exact Nat.xor_lt_two_pow (n := 8) this (Nat.pow_lt_pow_right (by decide) hx)
  · rw [if_neg e]; exact this
theorem ptog_pis (h : ∀ r, r < 3 → V (33 + r) < 256) {t x : Nat} (ht : t < 3) (hx : x < 8) : pis (ptog V t x) = pis V ^^^ 2 ^ (8 * t + x) := by
  have h0 : V 33 < 256 := h 0 (by decide)
  have h1 : V 34 < 256 := h 1 (by decide)
  have h2 : V 35 < 256 := h 2 (by decide)
  have g := fun r hr => ptog_lt (t := t) h hx (r := r) hr
  have g0 : ptog V t x 33 < 256 := g 0 (by decide)
  have g1 : ptog V t x 34 < 256 := g 1 (by decide)
  have g2 : ptog V t x 35 < 256 := g 2 (by decide)
  have l1 : pis V < 2 ^ 24 := by unfold pis; omega
  have l2 : pis (ptog V t x) < 2 ^ 24 := by unfold pis; omega
  apply Nat.eq_of_testBit_eq
  intro i
  rw [pxor_bit]
  by_cases hi : i < 24
  · have e := pis_bit (V := ptog V t x) (s := i / 8) (x := i % 8) (by omega) (Nat.mod_lt _ (by decide)) g0 g1
    have e2 := pis_bit (V := V) (s := i / 8) (x := i % 8) (by omega) (Nat.mod_lt _ (by decide)) h0 h1
    have e3 := pis_bit (V := V) (s := t) (x := x) ht hx h0 h1
    rw [Nat.div_add_mod] at e e2
    rw [e, e2, e3, ptog_3]
    by_cases q : i / 8 = t
    · rw [if_pos q, pxor_bit]
      by_cases q2 : i % 8 = x
      · rw [if_pos q2, if_pos (by omega), q]
      · rw [if_neg q2, if_neg (by omega)]
    · rw [if_neg q, if_neg (by omega)]
  · rw [jbit_hi l2 (by omega), if_neg (by omega), jbit_hi l1 (by omega)]
theorem ptog_isl {t x : Nat} (ht : t < 3) (hx : x < 8) : pisl (ptog V t x) + (if (V (33 + t)).testBit x then 1 else 0) = pisl V + (if !(V (33 + t)).testBit x then 1 else 0) := by
  have hb := pxor_bc (v := V (33 + t)) (x := x) (by omega)
  have e0 : ptog V t x 33 = if 0 = t then V 33 ^^^ 2 ^ x else V 33 := ptog_3 (r := 0)
  have e1 : ptog V t x 34 = if 1 = t then V 34 ^^^ 2 ^ x else V 34 := ptog_3 (r := 1)
  have e2 : ptog V t x 35 = if 2 = t then V 35 ^^^ 2 ^ x else V 35 := ptog_3 (r := 2)
  unfold pisl
  rw [e0, e1, e2]
  rcases (show t = 0 ∨ t = 1 ∨ t = 2 by omega) with rfl | rfl | rfl
  · rw [if_pos rfl, if_neg (by decide), if_neg (by decide)]
    have hb : pbc (V 33 ^^^ 2 ^ x) + (if (V 33).testBit x then 1 else 0) = pbc (V 33) + (if !(V 33).testBit x then 1 else 0) := hb
    show _ + (if (V 33).testBit x then 1 else 0) = _ + (if !(V 33).testBit x then 1 else 0)
    omega
  · rw [if_pos rfl, if_neg (by decide), if_neg (by decide)]
    have hb : pbc (V 34 ^^^ 2 ^ x) + (if (V 34).testBit x then 1 else 0) = pbc (V 34) + (if !(V 34).testBit x then 1 else 0) := hb
    show _ + (if (V 34).testBit x then 1 else 0) = _ + (if !(V 34).testBit x then 1 else 0)
    omega
  · rw [if_pos rfl, if_neg (by decide), if_neg (by decide)]
    have hb : pbc (V 35 ^^^ 2 ^ x) + (if (V 35).testBit x then 1 else 0) = pbc (V 35) + (if !(V 35).testBit x then 1 else 0) := hb
    show _ + (if (V 35).testBit x then 1 else 0) = _ + (if !(V 35).testBit x then 1 else 0)
    omega
theorem jVok.tog (hv : jVok so P n rc V) {t x : Nat} (ht : t < pct so 5 n) (hx : x < 8) (hp : 0 < pli so V x n) (h6 : pisl (ptog V t x) ≤ 6) : jVok so P n rc (ptog V t x) := by
  have hw := hv.1
  have hn := hw.1.1
  have h5 := hw.1.2.2.2.2
  have u : ∀ j, j ≤ 32 → ptog V t x j = V j := fun j hj => pup_n (by omega)
  have g := fun r hr => ptog_lt (V := V) (t := t) (fun r hr => hw.v3 hr) hx (r := r) hr
  refine hv.chg (fun j hj _ => u j (by omega)) (fun j hj h0 => ?_) ?_ ⟨g 0 (by decide), g 1 (by decide), g 2 (by decide)⟩ (fun r y hr hy hb => ?_) h6
  · rw [u j (by omega)]; exact ⟨(hw.2.1.2.1 j hj h0).1, hv.2.1 j hj h0⟩
  · rw [u 32 (by omega)]; exact hw.2.2.1.1
  · rw [ptog_3] at hb
    by_cases e : r = t
    · rw [if_pos e, pxor_bit] at hb
      by_cases e2 : y = x
      · subst e; subst e2; exact ⟨ht, hp⟩
      · rw [if_neg e2] at hb
        exact hw.2.2.2 r y hr hy hb
    · rw [if_neg e] at hb
      exact hw.2.2.2 r y hr hy hb
end JAD
