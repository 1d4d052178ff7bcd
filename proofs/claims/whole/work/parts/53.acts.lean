section JAE
variable {X : jX} {d : Nat} {M M' : jMem} {Q : Option Value → jMem → Prop} {so P V V' : Nat → Nat} {n rc B : Nat} {fw : Int32} {s : jSt} {T : Nat × (Nat → Nat)} {H : jHi} {K : Nat → Option jHi} {o : Option jHi}
theorem ptog_lo {t x j : Nat} (h : j < 33) : ptog V t x j = V j := pup_n (by omega)
theorem sp_turn (hI : jInj X T0) (hC : jInC M (T, (so, P, n, rc), H, K)) (hW : jInW (T, (so, P, n, rc), H, K)) {t x : Nat} (ht : t < 3) (hx : x < 8) (hv2 : jVok so P n rc (ptog (H.1 H.2) t x))
    (kk : ∀ M', jInC M' (T, (so, P, n, rc), jPsh H (ptog (H.1 H.2) t x), K) → (∀ c, 54 ≤ c → M' c = M c) → Q (some (.int (nI (pisl (ptog (H.1 H.2) t x))))) M') : jOk X T0 (d + 2) q_X7_turnIsland [.ref 0, .int (nI t), .int (nI x)] M Q := by
  have hw := (hW.2.1.2 _ (Nat.le_refl _)).1
  have hV := fun r hr => hw.v3 (t := r) hr
  have sh : jShp (M 22) (M 23) so n rc (H.1 H.2) := hC.2.2.1.1
  refine v_X7_turnIsland hI _ _ _ _ ?_
  rw [sh.2.2.1, show (8 : Int32) = nI 8 from rfl, pk_mul, nI_add, jshl1 _ (by omega), fb_xorI, ← ptog_pis hV ht hx]
  refine sp_remember hI hC.2.2.1.2 hW.2.1.1 (V' := ptog (H.1 H.2) t x) (Or.inr (Or.inr ⟨rfl, rfl, fun j hj => (ptog_lo hj).symm⟩)) (fun M2 f2 p2 => ⟨rfl, fun M3 e3 M4 e4 => ?_⟩)
  have eo : ∀ c, c ≠ 0 → c ≠ 22 → M4 c = M2 c := fun c a b => by subst e4; subst e3; rw [jP_n a, jP_n b]
  have e22 : M4 22 = upd (M 22) 2 (nI (pis (ptog (H.1 H.2) t x))) := by subst e4; subst e3; rw [jP_n (by decide), jP_s, f2 22 (by decide)]
  have g := hv2.1.2.2.1
  have hC4 : jInC M4 (T, (so, P, n, rc), jPsh H (ptog (H.1 H.2) t x), K) := jActC hC (fun c a b => by rw [eo c a (by omega)]; exact f2 c (by omega)) (by
      rw [eo 23 (by decide) (by decide), f2 23 (by decide), e22]
      have hn : n ≤ 32 := hw.1.1
      exact ⟨fun j hj h0 => by rw [ptog_lo (by omega)]; exact sh.1 j hj h0, by rw [ptog_lo (by decide)]; exact sh.2.1, rfl, sh.2.2.2⟩)
    (by rw [eo 24 (by decide) (by decide), eo 25 (by decide) (by decide), eo 26 (by decide) (by decide), eo 27 (by decide) (by decide)]; exact p2) (by subst e4; rw [jP_s]; rfl)
  refine sp_islandCount (V := ptog (H.1 H.2) t x) hI (Or.inl ⟨rfl, rfl⟩) (by rw [e22]; rfl) g.2.1 g.2.2.1 g.2.2.2 ⟨_, rfl, ?_⟩
  rw [pbc_pis g.2.1 g.2.2.1 g.2.2.2]
  exact kk M4 hC4 (fun c hc => by rw [eo c (by omega) (by omega)]; exact f2 c (by omega))
theorem sp_mturn (hI : jInj X T0) {M0 : jMem} (hM : jInM M (T, (so, P, n, rc), H, K)) (hW : jInW (T, (so, P, n, rc), H, K)) {t x : Nat} (ht : t < 3) (hx : x < 8) (hv2 : jVok so P n rc (ptog (H.1 H.2) t x)) (hz : ∀ c, c < 54 → M c = M0 c) {op : Int32 → Int32} (hop : op (nI (H.1 H.2 (33 + t))) = nI (H.1 H.2 (33 + t) ^^^ 2 ^ x))
    (kk : ∀ M', jInM M' (T, (so, P, n, rc), jPsh H (ptog (H.1 H.2) t x), K) → (∀ c, c < 54 → M' c = M0 c) → Q (some (.int (nI (pisl (ptog (H.1 H.2) t x))))) M') :
    jOk X T0 (d + 1) q_X8_keepAct [.ref 54] M (fun v M5 => v = none ∧ (∀ M6, M6 = jP M5 57 ((33 + nI t).toNatClampNeg) (op (M5 57 (33 + nI t).toNatClampNeg)) → jOk X T0 (d + 1) q_X8_isles [.ref 54] M6 (fun v M7 => ∃ r5, v = some (.int r5) ∧ Q (some (.int r5)) M7))) := by
  have hc := hM.ctx hW
  have g := hv2.1.2.2.1
  refine sp_keepAct hI hM.2.2.1 hW.2.1.1 (V' := ptog (H.1 H.2) t x) (fun M2 f2 g2 a2 b2 => ⟨rfl, fun M3 e3 => ?_⟩)
  rw [show (33 : Int32) = nI 33 from rfl, nI_add, nI_cl (by omega), f2 57 (by decide) (by decide), hc.2.1.2 _ (by omega), hop] at e3
  have eo : ∀ c, c ≠ 57 → M3 c = M2 c := fun c a => by subst e3; rw [jP_n a]
  have e57 : ∀ j, j < 36 → M3 57 j = nI (ptog (H.1 H.2) t x j) := fun j hj => by
    subst e3
    rw [jP_s, f2 57 (by decide) (by decide)]
    unfold ptog
    simp only [upd]
    by_cases q : j = 33 + t
    · subst q; rw [if_pos rfl, pup_s]
    · rw [if_neg q, pup_n q]; exact hc.2.1.2 j hj
  have hM3 := jActM hM (fun c a b e => by rw [eo c b]; exact f2 c a e) (fun j a b => by rw [eo 54 (by decide)]; exact g2 j b) e57 (by rw [eo 54 (by decide)]; exact a2) (by rw [eo 62 (by decide)]; exact b2)
  refine sp_isles (V := ptog (H.1 H.2) t x) hI g.2.1 g.2.2.1 g.2.2.2 (e57 33 (by decide)) (e57 34 (by decide)) (e57 35 (by decide)) ⟨_, rfl, ?_⟩
  exact kk M3 hM3 (fun c hc => by rw [eo c (by omega), f2 c (by omega) (by omega)]; exact hz c hc)
theorem p_places (hI : jInj X T0) (hW : jInW s) (a b : Int32) : jPair X q_X7_places q_X8_places [.int a, .int b] s := by
  obtain ⟨T, ⟨so, P, n, rc⟩, H, K⟩ := s
  have hv : jVok so P n rc (H.1 H.2) := hW.2.1.2 _ (Nat.le_refl _)
  have hw := hv.1
  have hn : n ≤ 32 := hw.1.1
  have h5 := hw.1.2.2.2.2
  have gV := hw.2.2.1
  have h6 : pisl (H.1 H.2) ≤ 6 := hv.2.2.1
  cases hf : fisl so (H.1 H.2) n a b with
  | false =>
    refine jAsk hW (r := -1) (fun M Q hc hC ca kk => ?_) (fun M Q hc hM kk => ?_)
    · refine v_X7_places (d := 11) hI _ _ _ _ (sp_mayHold hI hc hn ⟨_, rfl, fun g => ?_, fun _ => kk M jFz.rf ca⟩)
      rw [hf] at g; exact absurd rfl g
    · refine v_X8_places (d := 11) hI _ _ _ _ (fun M1 e1 => ?_)
      have hz1 : mFz M M1 := by subst e1; exact mFz.t0
      have hc1 := hz1.ctx hc
      refine sp_isIsle (so := so) (V := H.1 H.2) (n := n) hI hc1.1.2.2.2.2.1 hc1.2.2.1 hn h5 ⟨_, rfl, fun g => ?_, fun _ => kk M1 hz1⟩
      rw [show (decide (0 ≤ a ∧ a < nI (pct so 5 n)) && (decide (0 ≤ b ∧ b < 8) && decide (0 < pli so (H.1 H.2) b.toNatClampNeg n))) = false from hf] at g
      exact absurd rfl g
  | true =>
    obtain ⟨t, x, ht, hx, rfl, rfl, hp⟩ := fisl_t h5 hf
    have ht3 : t < 3 := by omega
    have hV3 := hw.v3 ht3
    cases hb : (H.1 H.2 (33 + t)).testBit x with
    | true =>
      refine jAsk hW (r := -2) (fun M Q hc hC ca kk => ?_) (fun M Q hc hM kk => ?_)
      · refine v_X7_places (d := 11) hI _ _ _ _ (sp_mayHold hI hc hn ⟨_, rfl, fun _ => ?_, fun g => ?_⟩)
        · refine sp_hasIsland (V := H.1 H.2) hI (Or.inl ⟨rfl, rfl⟩) ht3 hx hc.2.2.2.2.2.1 gV.2.1 gV.2.2.1 gV.2.2.2 ⟨_, rfl, fun g => ?_, fun _ => kk M jFz.rf ca⟩
          rw [hb] at g; exact absurd g (by decide)
        · rw [hf] at g; exact absurd g (by decide)
      · refine v_X8_places (d := 11) hI _ _ _ _ (fun M1 e1 => ?_)
        have hz1 : mFz M M1 := by subst e1; exact mFz.t0
        have hc1 := hz1.ctx hc
        refine sp_isIsle (so := so) (V := H.1 H.2) (n := n) hI hc1.1.2.2.2.2.1 hc1.2.2.1 hn h5 ⟨_, rfl, fun _ => ?_, fun g => ?_⟩
        · rw [show (33 : Int32) = nI 33 from rfl, nI_add, nI_cl (by omega), hc1.2.1.2 _ (by omega)]
          refine ⟨vp_in_nI (by omega) (by decide), sp_has hI (by omega) (by omega) ⟨_, rfl, fun g => ?_, fun _ => kk M1 hz1⟩⟩
          rw [hb] at g; exact absurd g (by decide)
        · rw [show (decide (0 ≤ nI t ∧ nI t < nI (pct so 5 n)) && (decide (0 ≤ nI x ∧ nI x < 8) && decide (0 < pli so (H.1 H.2) (nI x).toNatClampNeg n))) = true from hf] at g
          exact absurd g (by decide)
    | false =>
      have ti := ptog_isl (V := H.1 H.2) ht3 hx
      rw [hb] at ti
      have ti : pisl (ptog (H.1 H.2) t x) + 0 = pisl (H.1 H.2) + 1 := ti
      by_cases e6 : pisl (H.1 H.2) = 6
      · refine jAsk hW (r := -3) (fun M Q hc hC ca kk => ?_) (fun M Q hc hM kk => ?_)
        · refine v_X7_places (d := 11) hI _ _ _ _ (sp_mayHold hI hc hn ⟨_, rfl, fun _ => ?_, fun g => ?_⟩)
          · refine sp_hasIsland (V := H.1 H.2) hI (Or.inl ⟨rfl, rfl⟩) ht3 hx hc.2.2.2.2.2.1 gV.2.1 gV.2.2.1 gV.2.2.2 ⟨_, rfl, fun _ => ?_, fun g => ?_⟩
            · refine sp_islandCount (V := H.1 H.2) hI (Or.inl ⟨rfl, rfl⟩) hc.2.2.2.2.2.1 gV.2.1 gV.2.2.1 gV.2.2.2 ⟨_, rfl, fun g => ?_, fun _ => kk M jFz.rf ca⟩
              rw [pbc_pis gV.2.1 gV.2.2.1 gV.2.2.2, show pbc (H.1 H.2 33) + pbc (H.1 H.2 34) + pbc (H.1 H.2 35) = 6 from e6] at g
              exact absurd g (by decide)
            · rw [hb] at g; exact absurd rfl g
          · rw [hf] at g; exact absurd g (by decide)
        · refine v_X8_places (d := 11) hI _ _ _ _ (fun M1 e1 => ?_)
          have hz1 : mFz M M1 := by subst e1; exact mFz.t0
          have hc1 := hz1.ctx hc
          refine sp_isIsle (so := so) (V := H.1 H.2) (n := n) hI hc1.1.2.2.2.2.1 hc1.2.2.1 hn h5 ⟨_, rfl, fun _ => ?_, fun g => ?_⟩
          · rw [show (33 : Int32) = nI 33 from rfl, nI_add, nI_cl (by omega), hc1.2.1.2 _ (by omega)]
            refine ⟨vp_in_nI (by omega) (by decide), sp_has hI (by omega) (by omega) ⟨_, rfl, fun _ => ?_, fun g => ?_⟩⟩
            · refine sp_isles (V := H.1 H.2) hI gV.2.1 gV.2.2.1 gV.2.2.2 (hc1.2.1.2 33 (by decide)) (hc1.2.1.2 34 (by decide)) (hc1.2.1.2 35 (by decide)) ⟨_, rfl, fun g => absurd ?_ g, fun _ => kk M1 hz1⟩
              rw [e6]; rfl
            · rw [hb] at g; exact absurd rfl g
          · rw [show (decide (0 ≤ nI t ∧ nI t < nI (pct so 5 n)) && (decide (0 ≤ nI x ∧ nI x < 8) && decide (0 < pli so (H.1 H.2) (nI x).toNatClampNeg n))) = true from hf] at g
            exact absurd g (by decide)
      · have hv2 := hv.tog ht hx hp (by omega)
        refine ⟨nI (pisl (ptog (H.1 H.2) t x)), _, jActW hW hv2, fun M Q hC kk => ?_, fun M Q hM kk => ?_⟩
        · have hc := hC.ctx hW
          refine v_X7_places (d := 11) hI _ _ _ _ (sp_mayHold hI hc hn ⟨_, rfl, fun _ => ?_, fun g => ?_⟩)
          · refine sp_hasIsland (V := H.1 H.2) hI (Or.inl ⟨rfl, rfl⟩) ht3 hx hc.2.2.2.2.2.1 gV.2.1 gV.2.2.1 gV.2.2.2 ⟨_, rfl, fun _ => ?_, fun g => ?_⟩
            · refine sp_islandCount (V := H.1 H.2) hI (Or.inl ⟨rfl, rfl⟩) hc.2.2.2.2.2.1 gV.2.1 gV.2.2.1 gV.2.2.2 ⟨_, rfl, fun _ => ?_, fun g => ?_⟩
              · exact sp_turn (d := 9) hI hC hW ht3 hx hv2 (fun M' h1 h2 => ⟨_, rfl, kk M' h1 h2⟩)
              · rw [pbc_pis gV.2.1 gV.2.2.1 gV.2.2.2] at g
                exact absurd (nI_lt (b := 6) (show pbc (H.1 H.2 33) + pbc (H.1 H.2 34) + pbc (H.1 H.2 35) < 6 by unfold pisl at e6 h6; omega) (by decide)) g
            · rw [hb] at g; exact absurd rfl g
          · rw [hf] at g; exact absurd g (by decide)
        · refine v_X8_places (d := 11) hI _ _ _ _ (fun M1 e1 => ?_)
          have hz1 : mFz M M1 := by subst e1; exact mFz.t0
          have hM1 := hM.fz hz1
          have hc1 := hM1.ctx hW
          refine sp_isIsle (so := so) (V := H.1 H.2) (n := n) hI hc1.1.2.2.2.2.1 hc1.2.2.1 hn h5 ⟨_, rfl, fun _ => ?_, fun g => ?_⟩
          · refine ⟨by rw [show (33 : Int32) = nI 33 from rfl, nI_add]; exact vp_in_nI (by omega) (by decide), ?_⟩
            rw [show M1 57 (33 + nI t).toNatClampNeg = nI (H.1 H.2 (33 + t)) by rw [show (33 : Int32) = nI 33 from rfl, nI_add, nI_cl (by omega), hc1.2.1.2 _ (by omega)]]
            refine sp_has hI (by omega) (by omega) ⟨_, rfl, fun _ => ?_, fun g => ?_⟩
            · refine sp_isles (V := H.1 H.2) hI gV.2.1 gV.2.2.1 gV.2.2.2 (hc1.2.1.2 33 (by decide)) (hc1.2.1.2 34 (by decide)) (hc1.2.1.2 35 (by decide)) ⟨_, rfl, fun _ => ?_, fun g => absurd g (nI_ne (b := 6) (by omega) (by decide) e6)⟩
              exact sp_mturn (d := 10) hI hM1 hW ht3 hx hv2 hz1.lo (op := fun z => z ||| (1 <<< (nI x &&& 31))) (by rw [jshl1 _ (by omega), fa_or, pxor_or hb]) kk
            · rw [hb] at g; exact absurd rfl g
          · rw [show (decide (0 ≤ nI t ∧ nI t < nI (pct so 5 n)) && (decide (0 ≤ nI x ∧ nI x < 8) && decide (0 < pli so (H.1 H.2) (nI x).toNatClampNeg n))) = true from hf] at g
            exact absurd g (by decide)
theorem p_takes (hI : jInj X T0) (hW : jInW s) (a b : Int32) : jPair X q_X7_takes q_X8_takes [.int a, .int b] s := by
  obtain ⟨T, ⟨so, P, n, rc⟩, H, K⟩ := s
  have hv : jVok so P n rc (H.1 H.2) := hW.2.1.2 _ (Nat.le_refl _)
  have hw := hv.1
  have hn : n ≤ 32 := hw.1.1
  have h5 := hw.1.2.2.2.2
  have gV := hw.2.2.1
  have h6 : pisl (H.1 H.2) ≤ 6 := hv.2.2.1
  cases hf : fisl so (H.1 H.2) n a b with
  | false =>
    refine jAsk hW (r := -1) (fun M Q hc hC ca kk => ?_) (fun M Q hc hM kk => ?_)
    · refine v_X7_takes (d := 11) hI _ _ _ _ (sp_mayHold hI hc hn ⟨_, rfl, fun g => ?_, fun _ => kk M jFz.rf ca⟩)
      rw [hf] at g; exact absurd rfl g
    · refine v_X8_takes (d := 11) hI _ _ _ _ (fun M1 e1 => ?_)
      have hz1 : mFz M M1 := by subst e1; exact mFz.t0
      have hc1 := hz1.ctx hc
      refine sp_isIsle (so := so) (V := H.1 H.2) (n := n) hI hc1.1.2.2.2.2.1 hc1.2.2.1 hn h5 ⟨_, rfl, fun g => ?_, fun _ => kk M1 hz1⟩
      rw [show (decide (0 ≤ a ∧ a < nI (pct so 5 n)) && (decide (0 ≤ b ∧ b < 8) && decide (0 < pli so (H.1 H.2) b.toNatClampNeg n))) = false from hf] at g
      exact absurd rfl g
  | true =>
    obtain ⟨t, x, ht, hx, rfl, rfl, hp⟩ := fisl_t h5 hf
    have ht3 : t < 3 := by omega
    have hV3 := hw.v3 ht3
    cases hb : (H.1 H.2 (33 + t)).testBit x with
    | false =>
      refine jAsk hW (r := -2) (fun M Q hc hC ca kk => ?_) (fun M Q hc hM kk => ?_)
      · refine v_X7_takes (d := 11) hI _ _ _ _ (sp_mayHold hI hc hn ⟨_, rfl, fun _ => ?_, fun g => ?_⟩)
        · refine sp_hasIsland (V := H.1 H.2) hI (Or.inl ⟨rfl, rfl⟩) ht3 hx hc.2.2.2.2.2.1 gV.2.1 gV.2.2.1 gV.2.2.2 ⟨_, rfl, fun g => ?_, fun _ => kk M jFz.rf ca⟩
          rw [hb] at g; exact absurd rfl g
        · rw [hf] at g; exact absurd g (by decide)
      · refine v_X8_takes (d := 11) hI _ _ _ _ (fun M1 e1 => ?_)
        have hz1 : mFz M M1 := by subst e1; exact mFz.t0
        have hc1 := hz1.ctx hc
        refine sp_isIsle (so := so) (V := H.1 H.2) (n := n) hI hc1.1.2.2.2.2.1 hc1.2.2.1 hn h5 ⟨_, rfl, fun _ => ?_, fun g => ?_⟩
        · rw [show (33 : Int32) = nI 33 from rfl, nI_add, nI_cl (by omega), hc1.2.1.2 _ (by omega)]
          refine ⟨vp_in_nI (by omega) (by decide), sp_has hI (by omega) (by omega) ⟨_, rfl, fun g => ?_, fun _ => kk M1 hz1⟩⟩
          rw [hb] at g; exact absurd rfl g
        · rw [show (decide (0 ≤ nI t ∧ nI t < nI (pct so 5 n)) && (decide (0 ≤ nI x ∧ nI x < 8) && decide (0 < pli so (H.1 H.2) (nI x).toNatClampNeg n))) = true from hf] at g
          exact absurd g (by decide)
    | true =>
      have ti := ptog_isl (V := H.1 H.2) ht3 hx
      rw [hb] at ti
      have ti : pisl (ptog (H.1 H.2) t x) + 1 = pisl (H.1 H.2) + 0 := ti
      have hv2 := hv.tog ht hx hp (by omega)
      refine ⟨nI (pisl (ptog (H.1 H.2) t x)), _, jActW hW hv2, fun M Q hC kk => ?_, fun M Q hM kk => ?_⟩
      · have hc := hC.ctx hW
        refine v_X7_takes (d := 11) hI _ _ _ _ (sp_mayHold hI hc hn ⟨_, rfl, fun _ => ?_, fun g => ?_⟩)
        · refine sp_hasIsland (V := H.1 H.2) hI (Or.inl ⟨rfl, rfl⟩) ht3 hx hc.2.2.2.2.2.1 gV.2.1 gV.2.2.1 gV.2.2.2 ⟨_, rfl, fun _ => ?_, fun g => ?_⟩
          · exact sp_turn (d := 9) hI hC hW ht3 hx hv2 (fun M' h1 h2 => ⟨_, rfl, kk M' h1 h2⟩)
          · rw [hb] at g; exact absurd g (by decide)
        · rw [hf] at g; exact absurd g (by decide)
      · refine v_X8_takes (d := 11) hI _ _ _ _ (fun M1 e1 => ?_)
        have hz1 : mFz M M1 := by subst e1; exact mFz.t0
        have hM1 := hM.fz hz1
        have hc1 := hM1.ctx hW
        refine sp_isIsle (so := so) (V := H.1 H.2) (n := n) hI hc1.1.2.2.2.2.1 hc1.2.2.1 hn h5 ⟨_, rfl, fun _ => ?_, fun g => ?_⟩
        · refine ⟨by rw [show (33 : Int32) = nI 33 from rfl, nI_add]; exact vp_in_nI (by omega) (by decide), ?_⟩
          rw [show M1 57 (33 + nI t).toNatClampNeg = nI (H.1 H.2 (33 + t)) by rw [show (33 : Int32) = nI 33 from rfl, nI_add, nI_cl (by omega), hc1.2.1.2 _ (by omega)]]
          refine sp_has hI (by omega) (by omega) ⟨_, rfl, fun _ => ?_, fun g => ?_⟩
          · exact sp_mturn (d := 10) hI hM1 hW ht3 hx hv2 hz1.lo (op := fun z => z ^^^ (1 <<< (nI x &&& 31))) (by rw [jshl1 _ (by omega), fb_xorI]) kk
          · rw [hb] at g; exact absurd g (by decide)
        · rw [show (decide (0 ≤ nI t ∧ nI t < nI (pct so 5 n)) && (decide (0 ≤ nI x ∧ nI x < 8) && decide (0 < pli so (H.1 H.2) (nI x).toNatClampNeg n))) = true from hf] at g
          exact absurd g (by decide)
end JAE
