section JMS
variable {X : jX} {d : Nat} {M M0 : jMem} {Q : Option Value → jMem → Prop} {so V : Nat → Nat} {n rc lo : Nat}
theorem pmade_bit {held j : Nat} : (pmade so V n rc lo held).testBit j = ((pwr so V n rc lo).testBit j && !(V 32).testBit j && !held.testBit j) := by
  unfold pmade
  rw [pdiff_bit, pdiff_bit]
/-- the set that is made short, as the reference gathers it -/
theorem pmade_set {held : Nat} : pmade so V n rc lo held = pset (fun j => lo.testBit j && !(V 32 ||| held).testBit j && pnear rc (pfar so V n lo (pit so 2 j n) + (if ptg so V n (pit so 2 j n) < pit so 2 j n then 3 else 0))) (pct so 2 n) := by
  apply Nat.eq_of_testBit_eq
  intro j
  rw [pmade_bit, pwr, pset_bit, pset_bit, Nat.testBit_or]
  cases decide (j < pct so 2 n) <;> cases lo.testBit j <;> cases (V 32).testBit j <;> cases held.testBit j <;> simp
def pfree2 (m lo held : Nat) : Nat := fb_ct (fun j => lo.testBit j && !held.testBit j) m
theorem pgrow_sup : ∀ f lo j, lo.testBit j = true → (pgrow (pstr so V n rc) f lo).1.testBit j = true
  | 0, lo, j, h => h
  | f + 1, lo, j, h => by
    by_cases hz : pstr so V n rc lo = 0
    · rw [pgrow_z hz]; exact h
    · rw [pgrow_s hz]
      exact pgrow_sup f _ j (by rw [Nat.testBit_or, h]; rfl)
theorem pfree2_lt {held : Nat} (hne : pmade so V n rc lo held ≠ 0) : pfree2 (pct so 2 n) (pgrow (pstr so V n rc) 10 (pdiff lo (pmade so V n rc lo held))).1 (held ||| pdiff (pgrow (pstr so V n rc) 10 (pdiff lo (pmade so V n rc lo held))).1 (pdiff lo (pmade so V n rc lo held))) < pfree2 (pct so 2 n) lo held := by
  obtain ⟨j, hj⟩ := pnonz hne
  have hj2 := hj
  rw [pmade_set, pset_bit] at hj2
  simp only [Bool.and_eq_true, decide_eq_true_eq, Bool.not_eq_true', Nat.testBit_or, Bool.or_eq_false_iff] at hj2
  obtain ⟨h1, ⟨h2, h3, h4⟩, -⟩ := hj2
  generalize (pgrow (pstr so V n rc) 10 (pdiff lo (pmade so V n rc lo held))).1 = lo' at *
  generalize hm : pmade so V n rc lo held = mm at *
  unfold pfree2
  have sub : ∀ k, (lo'.testBit k && !(held ||| pdiff lo' (pdiff lo mm)).testBit k) = true → (lo.testBit k && !held.testBit k) = true ∧ mm.testBit k = false := by
    intro k hk
    simp only [Nat.testBit_or, pdiff_bit] at hk
    revert hk
    cases lo'.testBit k <;> cases lo.testBit k <;> cases held.testBit k <;> cases mm.testBit k <;> simp
  have key : ∀ m, j < m → fb_ct (fun k => lo'.testBit k && !(held ||| pdiff lo' (pdiff lo mm)).testBit k) m < fb_ct (fun k => lo.testBit k && !held.testBit k) m := by
    intro m
    induction m with
    | zero => intro h; omega
    | succ m ih =>
      intro h
      rw [fb_ct_succ, fb_ct_succ]
      have hle : fb_ct (fun k => lo'.testBit k && !(held ||| pdiff lo' (pdiff lo mm)).testBit k) m ≤ fb_ct (fun k => lo.testBit k && !held.testBit k) m := fb_ct_sub (fun k _ hk => (sub k hk).1)
      by_cases e : j = m
      · subst e
        have e1 : ¬ (lo'.testBit j && !(held ||| pdiff lo' (pdiff lo mm)).testBit j) = true := fun q => by rw [(sub j q).2] at hj; cases hj
        have e2 : (lo.testBit j && !held.testBit j) = true := by rw [h2, h4]; rfl
        rw [if_neg e1, if_pos e2]
        omega
      · have := ih (by omega)
        have h3 : (if (lo'.testBit m && !(held ||| pdiff lo' (pdiff lo mm)).testBit m) = true then 1 else 0) ≤ (if (lo.testBit m && !held.testBit m) = true then 1 else 0) := by
          by_cases q : (lo'.testBit m && !(held ||| pdiff lo' (pdiff lo mm)).testBit m) = true
          · rw [if_pos q, if_pos (sub m q).1]; omega
          · rw [if_neg q]; omega
        omega
  exact key _ h1
theorem pmade_zero {held : Nat} (h : pfree2 (pct so 2 n) lo held = 0) : pmade so V n rc lo held = 0 := by
  refine pzero (fun j => ?_)
  cases hb : (pmade so V n rc lo held).testBit j
  · rfl
  · rw [pmade_set, pset_bit] at hb
    simp only [Bool.and_eq_true, decide_eq_true_eq, Bool.not_eq_true', Nat.testBit_or, Bool.or_eq_false_iff] at hb
    obtain ⟨h1, ⟨h2, h3, h4⟩, -⟩ := hb
    have : 0 < pfree2 (pct so 2 n) lo held := fb_ct_pos.mpr ⟨j, h1, by rw [h2, h4]; rfl⟩
    omega
/-- the sets gathered while growing again are what grew -/
theorem pdiff_grow {a s k held : Nat} (hk : ∀ j, k.testBit j = true → a.testBit j = true) (hs : ∀ j, s.testBit j = true → a.testBit j = false) : (held ||| pdiff a k) ||| s = held ||| pdiff (a ||| s) k := by
  apply Nat.eq_of_testBit_eq
  intro j
  have h1 := hk j
  have h2 := hs j
  simp only [Nat.testBit_or, pdiff_bit]
  revert h1 h2
  cases held.testBit j <;> cases a.testBit j <;> cases s.testBit j <;> cases k.testBit j <;> simp
theorem pdiff_self (a : Nat) : pdiff a a = 0 := pzero (fun j => by rw [pdiff_bit]; cases a.testBit j <;> rfl)
theorem pdiff_zero (a : Nat) : pdiff a 0 = a := by simp [pdiff]
/-- growing back, from the place where the reference stands -/
theorem sp_back (hI : jInj X T0) (hc : mCtx M so V n rc) (hw : jWf so V n rc) (made k0 held0 : Nat)
    (h : ∀ M', mFr M M' → mLaid M' so V n (pgrow (pstr so V n rc) 10 k0).1 → M' 54 31 = M 54 31 → jRun X T0 (d + 3) q_X8_shrink (21, [.ref 54, .int (nI (held0 ||| pdiff (pgrow (pstr so V n rc) 10 k0).1 k0)), .int (nI made), .null, .null, .null], [], M') Q) :
    ∀ (i : Nat) (M1 : jMem) (lo' : Nat), pfree (pct so 2 n) lo' ≤ i → lo' < 2 ^ pct so 2 n → (∀ j, k0.testBit j = true → lo'.testBit j = true) → mFr M M1 → mLaid M1 so V n lo' → M1 54 31 = M 54 31 → (pgrow (pstr so V n rc) i lo').1 = (pgrow (pstr so V n rc) 10 k0).1 →
      jRun X T0 (d + 3) q_X8_shrink (163, [.ref 54, .int (nI (held0 ||| pdiff lo' k0)), .int (nI made), .int (nI (pstr so V n rc lo')), .null, .null], [], M1) Q := by
  have hj10 := hw.1.2.2.1
  have hp : 2 ^ pct so 2 n ≤ 2 ^ 10 := Nat.pow_le_pow_right (by decide) hj10
  obtain ⟨G, hG⟩ : ∃ G, G = (pgrow (pstr so V n rc) 10 k0).1 := ⟨_, rfl⟩
  rw [← hG] at h ⊢
  intro i
  induction i with
  | zero =>
    intro M1 lo' hi hlo hk hf hl h31 e1
    have hz : pstr so V n rc lo' = 0 := pgrow_end (so := so) (V := V) (n := n) (rc := rc) 0 lo' hi
    have e1 : lo' = G := e1
    refine v_X8_shrink_163 _ _ _ _ _ ⟨fun _ => ?_, fun q => absurd (by rw [hz]; rfl) q⟩
    subst e1
    exact h M1 hf hl h31
  | succ i ih =>
    intro M1 lo' hi hlo hk hf hl h31 e1
    have hsl := pstr_lt (so := so) (V := V) (n := n) (rc := rc) lo'
    refine v_X8_shrink_163 _ _ _ _ _ ⟨fun q => ?_, fun q => ?_⟩
    · have hz : pstr so V n rc lo' = 0 := nI_inj (by omega) (by decide) q
      rw [pgrow_z hz] at e1
      have e1 : lo' = G := e1
      subst e1
      exact h M1 hf hl h31
    · have hne : pstr so V n rc lo' ≠ 0 := fun z => q (by rw [z]; rfl)
      have hlt : lo' ||| pstr so V n rc lo' < 2 ^ pct so 2 n := Nat.or_lt_two_pow hlo hsl
      rw [pgrow_s hne] at e1
      dsimp only at e1
      rw [hl.1, fa_or]
      refine sp_layOut2 hI (hf.ctx hc) hw (by omega) (fun M2 hf2 hl2 h2 => ⟨rfl, ?_⟩)
      refine sp_shortOnes hI (hf2.ctx (hf.ctx hc)) hw hl2 (by omega) ⟨_, rfl, ?_⟩
      have hfr := pfree_lt (m := pct so 2 n) (lo := lo') (fun j hj => pstr_new hj) hne
      rw [fa_or, pdiff_grow hk (fun j hj => (pstr_new hj).2)]
      exact ih M2 _ (by omega) hlt (fun j hj => by rw [Nat.testBit_or, hk j hj]; rfl) (hf.tr hf2) hl2 (by rw [h2, h31]) e1
theorem sp_mshrink (hI : jInj X T0) (hc : mCtx M so V n rc) (hw : jWf so V n rc)
    (h : ∀ M', mFr M M' → mLaid M' so V n (pshr so V n rc 10 (2 ^ pct so 2 n - 1) 0).1 → M' 54 31 = nI (pshr so V n rc 10 (2 ^ pct so 2 n - 1) 0).2 → Q none M') : jOk X T0 (d + 3) q_X8_shrink [.ref 54] M Q := by
  have hj10 := hw.1.2.2.1
  have hp : 2 ^ pct so 2 n ≤ 2 ^ 10 := Nat.pow_le_pow_right (by decide) hj10
  have hp1 : 1 ≤ 2 ^ pct so 2 n := Nat.one_le_two_pow
  obtain ⟨G, hG⟩ : ∃ G, G = pshr so V n rc 10 (2 ^ pct so 2 n - 1) 0 := ⟨_, rfl⟩
  rw [← hG] at h
  refine v_X8_shrink hI _ _ (fun M1 e1 => ?_)
  have hf1 : mFr M M1 := by subst e1; exact mFr.rf.put (Or.inr rfl)
  have hr1 : M1 54 31 = nI 0 := by subst e1; rw [jP_s]; simp [upd]; rfl
  have hc1 := hf1.ctx hc
  rw [hc1.1.2.2.1, jall hj10]
  refine sp_layOut2 hI hc1 hw (by omega) (fun M2 hf2 hl2 h2 => ⟨rfl, ?_⟩)
  have hV := hw.2.2.1.1
  -- the gathering loop
  have gather : ∀ (lo held r : Nat) (Mx : jMem), mFr M Mx → mLaid Mx so V n lo → lo < 2 ^ pct so 2 n → held < 2 ^ pct so 2 n → Mx 54 31 = nI r →
      ((pmade so V n rc lo held = 0 → jRun X T0 (d + 3) q_X8_shrink (142, [.ref 54, .int (nI held), .int (nI (pmade so V n rc lo held)), .int (nI (pct so 2 n)), .null, .null], [.int 0, .int (nI r), .ref 54], Mx) Q) ∧ (pmade so V n rc lo held ≠ 0 → jRun X T0 (d + 3) q_X8_shrink (142, [.ref 54, .int (nI held), .int (nI (pmade so V n rc lo held)), .int (nI (pct so 2 n)), .null, .null], [.int 1, .int (nI r), .ref 54], Mx) Q)) →
      jRun X T0 (d + 3) q_X8_shrink (29, [.ref 54, .int (nI held), .int 0, .int 0, .null, .null], [], Mx) Q := by
    intro lo held r Mx hfx hlx hlo hh hrx hend
    have hcx := hfx.ctx hc
    obtain ⟨c, hcd⟩ : ∃ c : Nat → Bool, c = fun j => lo.testBit j && !(V 32 ||| held).testBit j && pnear rc (pfar so V n lo (pit so 2 j n) + (if ptg so V n (pit so 2 j n) < pit so 2 j n then 3 else 0)) := ⟨_, rfl⟩
    have hms : pmade so V n rc lo held = pset c (pct so 2 n) := by rw [pmade_set, hcd]
    have hm := pmade_lt (so := so) (V := V) (n := n) (rc := rc) (lo := lo) (held := held)
    rw [hms] at hend hm
    have key : ∀ j, j ≤ pct so 2 n → jRun X T0 (d + 3) q_X8_shrink (29, [.ref 54, .int (nI held), .int (nI (pset c j)), .int (nI j), .null, .null], [], Mx) Q := by
      refine jUp ?_ ?_
      · refine v_X8_shrink_29 _ _ _ _ _ ⟨fun _ => ?_, fun g => absurd ?_ g⟩
        · rw [hrx]
          exact ⟨fun g => hend.1 (nI_inj (by omega) (by decide) g), fun g => hend.2 (fun q => g (by rw [q]; rfl))⟩
        · rw [hcx.1.2.2.1]; exact nI_le (Nat.le_refl _) (by omega)
      · intro j hj ih
        obtain ⟨i1, i2, i3⟩ := pit_spec n hj
        have hn := hw.1.1
        have hv8 := hw.2.1.2.2.2.1 _ i3 (by omega)
        have hpl := hw.2.1.2.2.2.2 _ i3 (Or.inl i1)
        have hpn := pli_le (so := so) (V := V) (x := V (pit so 2 j n)) n
        refine v_X8_shrink_29 _ _ _ _ _ ⟨fun g => absurd g ?_, fun _ => ⟨vp_in_nI (by omega) (by decide), ?_⟩⟩
        · rw [hcx.1.2.2.1]; exact nI_ge hj (by omega)
        · rw [nI_cl (by omega), show Mx 58 j = nI (pit so 2 j n) by rw [← hcx.2.2.2.1 _ i3 i1, i2]]
          have tail : ∀ s0 s1 : Int32, (s1 + s0).toInt = pfar so V n lo (pit so 2 j n) + (if ptg so V n (pit so 2 j n) < pit so 2 j n then 3 else 0) → jRun X T0 (d + 3) q_X8_shrink (73, [.ref 54, .int (nI held), .int (nI (pset c j)), .int (nI j), .int (nI (pit so 2 j n)), .null], [.int s0, .int s1], Mx) Q := by
            intro s0 s1 hfar
            have hno : c j = false → jRun X T0 (d + 3) q_X8_shrink (119, [.ref 54, .int (nI held), .int (nI (pset c j)), .int (nI j), .int (nI (pit so 2 j n)), .int (s1 + s0)], [.int (nI (pset c j))], Mx) Q := by
              intro hz
              refine v_X8_shrink_119 _ _ _ _ _ _ _ _ (v_X8_shrink_120 _ _ _ _ _ _ _ _ _ ?_)
              rw [nI_1, jor0]
              rw [show pset c (j + 1) = pset c j by simp [pset, hz]] at ih
              exact ih
            refine v_X8_shrink_73 _ _ _ _ _ _ _ _ ?_
            rw [hlx.1]
            refine sp_has hI (by omega) (by omega) ⟨_, rfl, fun g => hno (by rw [hcd]; simp [jBI_0.mp g]), fun g => ?_⟩
            have hvh : V 32 ||| held < 2 ^ pct so 2 n := Nat.or_lt_two_pow hV hh
            rw [hcx.2.1.2 32 (by decide), fa_or]
            refine sp_has hI (by omega) (by omega) ⟨_, rfl, fun g2 => hno (by rw [hcd]; simp only [jnb g2]; simp), fun g2 => ?_⟩
            refine sp_isNear hI hcx.1.2.1 hw.1.2.1 ⟨_, rfl, fun g3 => ?_, fun g3 => ?_⟩
            · have := jBI_0.mp g3
              rw [hfar] at this
              exact hno (by rw [hcd]; simp only [this]; simp)
            · have h3 := jnb g3
              rw [hfar] at h3
              have hy : c j = true := by rw [hcd]; simp only [h3, jnb g, jBI_0.mp g2]; rfl
              have := pset_or (c := c) (m := j) (by omega)
              rw [if_pos hy] at this
              refine v_X8_shrink_120 _ _ _ _ _ _ _ _ _ ?_
              rw [jshl1 j (by omega), this, nI_1]
              exact ih
          have rg := pfar_rng (lo := lo) hw i3 (Or.inl i1)
          have ht : nI (pli so V (V (pit so 2 j n)) n) - 1 = nI (ptg so V n (pit so 2 j n)) := by
            rw [show (1 : Int32) = nI 1 from rfl, pk_sub (by omega)]; rfl
          have htl := (ptg_lt hw i3 (Or.inl i1)).1
          refine sp_mfarOf hI hcx hw hlx i3 (Or.inl i1) (fun r1 _ hr => ⟨_, rfl, vp_in_nI (by omega) (by decide), ?_⟩)
          rw [nI_cl (by omega), hcx.2.1.2 _ (by omega), nI_cl (by omega), hcx.2.2.1 _ hv8 (by omega), ht]
          refine ⟨vp_in_nI hv8 (by decide), fun g => tail 0 r1 ?_, fun g => tail 3 r1 ?_⟩
          · rw [nI_leI (by omega) (by omega)] at g
            rw [if_neg (by omega), show r1 + 0 = r1 by simp]
            omega
          · rw [nI_leI (by omega) (by omega)] at g
            rw [if_pos (by omega), nI_ofI hr rg.1 rg.2]
    exact key 0 (Nat.zero_le _)
  -- the outer loop
  have key : ∀ i (lo held r made : Nat) (Mx : jMem), pfree2 (pct so 2 n) lo held ≤ i → made ≠ 0 → made < 2 ^ 31 → mFr M Mx → mLaid Mx so V n lo → pstr so V n rc lo = 0 → lo < 2 ^ pct so 2 n → held < 2 ^ pct so 2 n → Mx 54 31 = nI r → (pshr so V n rc i lo held).1 = G.1 → r + (pshr so V n rc i lo held).2 = G.2 →
      jRun X T0 (d + 3) q_X8_shrink (21, [.ref 54, .int (nI held), .int (nI made), .null, .null, .null], [], Mx) Q := by
    intro i
    have last : ∀ (lo held r made : Nat) (Mx : jMem), made ≠ 0 → made < 2 ^ 31 → mFr M Mx → mLaid Mx so V n lo → pstr so V n rc lo = 0 → lo < 2 ^ pct so 2 n → held < 2 ^ pct so 2 n → Mx 54 31 = nI r → lo = G.1 → r = G.2 → pmade so V n rc lo held = 0 →
        jRun X T0 (d + 3) q_X8_shrink (21, [.ref 54, .int (nI held), .int (nI made), .null, .null, .null], [], Mx) Q := by
      intro lo held r made Mx hmn hml hfx hlx hst hlo hh hrx e1 e2 hz
      refine v_X8_shrink_21 _ _ _ _ ⟨fun g => absurd (nI_inj hml (by decide) g) hmn, fun _ => ?_⟩
      refine gather lo held r Mx hfx hlx hlo hh hrx ⟨fun _ => ?_, fun q => absurd hz q⟩
      rw [hz]
      refine v_X8_shrink_142 _ _ _ _ _ _ _ _ ⟨rfl, fun M3 e3 => ?_⟩
      have hf3 : mFr M M3 := by subst e3; exact hfx.put (Or.inr rfl)
      have hl3 : mLaid M3 so V n lo := by subst e3; exact hlx.put
      have hr3 : M3 54 31 = nI r := by subst e3; rw [jP_s]; simp [upd]
      rw [hl3.1, show (nI 0 : Int32) = nI 0 from rfl, jdiff, pdiff_zero]
      refine sp_layOut2 hI (hf3.ctx hc) hw (by omega) (fun M4 hf4 hl4 h4 => ⟨rfl, ?_⟩)
      refine sp_shortOnes hI (hf4.ctx (hf3.ctx hc)) hw hl4 (by omega) ⟨_, rfl, ?_⟩
      rw [hst]
      refine v_X8_shrink_163 _ _ _ _ _ ⟨fun _ => ?_, fun q => absurd rfl q⟩
      refine v_X8_shrink_21 _ _ _ _ ⟨fun _ => ?_, fun q => absurd rfl q⟩
      exact h M4 (hf3.tr hf4) (by rw [← e1]; exact hl4) (by rw [h4, hr3, e2])
    induction i with
    | zero =>
      intro lo held r made Mx hi hmn hml hfx hlx hst hlo hh hrx e1 e2
      simp only [pshr, Nat.add_zero] at e1 e2
      exact last lo held r made Mx hmn hml hfx hlx hst hlo hh hrx e1 e2 (pmade_zero (by omega))
    | succ i ih =>
      intro lo held r made Mx hi hmn hml hfx hlx hst hlo hh hrx e1 e2
      by_cases hz : pmade so V n rc lo held = 0
      · rw [pshr_z hz] at e1 e2
        exact last lo held r made Mx hmn hml hfx hlx hst hlo hh hrx e1 e2 hz
      · have hdec := pfree2_lt (so := so) (V := V) (n := n) (rc := rc) (lo := lo) (held := held) hz
        have hm := pmade_lt (so := so) (V := V) (n := n) (rc := rc) (lo := lo) (held := held)
        rw [pshr_s hz] at e1 e2
        dsimp only at e1 e2
        have hk : pdiff lo (pmade so V n rc lo held) < 2 ^ pct so 2 n := pdiff_lt hlo
        have hg2 := pgrow_lt2 (V := V) (rc := rc) (f := 10) hk
        have hge : pstr so V n rc (pgrow (pstr so V n rc) 10 (pdiff lo (pmade so V n rc lo held))).1 = 0 := pgrow_end 10 _ (Nat.le_trans (pfree_le _ _) hj10)
        refine v_X8_shrink_21 _ _ _ _ ⟨fun g => absurd (nI_inj hml (by decide) g) hmn, fun _ => ?_⟩
        refine gather lo held r Mx hfx hlx hlo hh hrx ⟨fun q => absurd q hz, fun _ => ?_⟩
        refine v_X8_shrink_142 _ _ _ _ _ _ _ _ ⟨rfl, fun M3 e3 => ?_⟩
        have hf3 : mFr M M3 := by subst e3; exact hfx.put (Or.inr rfl)
        have hl3 : mLaid M3 so V n lo := by subst e3; exact hlx.put
        have hr3 : M3 54 31 = nI (r + 1) := by subst e3; rw [jP_s]; simp [upd, nI_succ]
        rw [hl3.1, jdiff]
        refine sp_layOut2 hI (hf3.ctx hc) hw (by omega) (fun M4 hf4 hl4 h4 => ⟨rfl, ?_⟩)
        have hc4 := hf4.ctx (hf3.ctx hc)
        refine sp_shortOnes hI hc4 hw hl4 (by omega) ⟨_, rfl, ?_⟩
        have hb := sp_back (d := d) (Q := Q) hI hc4 hw (pmade so V n rc lo held) (pdiff lo (pmade so V n rc lo held)) held (fun M5 hf5 hl5 h5 => ih _ _ (r + 1) (pmade so V n rc lo held) M5 (by omega) hz (by omega) ((hf3.tr hf4).tr hf5) hl5 hge hg2 (Nat.or_lt_two_pow hh (pdiff_lt hg2)) (by rw [h5, h4, hr3]) e1 (by omega)) 10 M4 (pdiff lo (pmade so V n rc lo held)) (Nat.le_trans (pfree_le _ _) hj10) hk (fun j hj => hj) mFr.rf hl4 rfl rfl
        rw [pdiff_self, Nat.or_zero] at hb
        exact hb
  refine key 10 _ 0 0 1 M2 (Nat.le_trans (fb_ct_le _ _) hj10) (by decide) (by decide) (hf1.tr hf2) hl2 ?_ (by omega) (by omega) (by rw [h2, hr1]) (by rw [hG]) (by rw [hG, Nat.zero_add])
  refine pzero (fun j => ?_)
  cases hb : (pstr so V n rc (2 ^ pct so 2 n - 1)).testBit j
  · rfl
  · obtain ⟨q1, q2⟩ := pstr_new hb
    rw [Nat.testBit_two_pow_sub_one] at q2
    simp [q1] at q2
end JMS
