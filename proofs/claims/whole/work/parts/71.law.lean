/-! the law's loop and its entry -/
section LL
variable {X : jX} {b L : Nat} {xs : Nat → Int32}
theorem lr_head {M : jMem} {i x y : Nat} (hL : L ≤ 2048) (hi : i ≤ L) (h : i + 3 < L → lR X b L xs M 26 [.ref b, .ref x, .ref y, .int (nI i)] []) : lR X b L xs M 18 [.ref b, .ref x, .ref y, .int (nI i)] [] := by
  refine lr_iload (k := 3) (x := nI i) dl_18 rfl ?_
  refine lr_aload (k := 0) (a := b) dl_19 rfl ?_
  refine lr_slen dl_20 ?_
  refine lr_iconst (v := 4) dl_21 (by decide) ?_
  refine lr_isub dl_22 ?_
  refine lr_gt (t := 637) dl_23 (by decide) (fun _ => lr_end) (fun g => h ?_)
  have e1 : (Int32.ofNat L - 4).toInt = (L : Int) - 4 := pk_sub_toInt (a := L) (b := 4) (by omega) (by omega)
  have e2 : (nI i).toInt = (i : Int) := nI_toInt (by omega)
  rw [fa_lt, e1, e2] at g
  omega
set_option maxRecDepth 100000 in
theorem law_loop (hI : jInj X T0) (hL : L ≤ 2048) : ∀ (n i : Nat) (M : jMem) (s : jSt), L ≤ n + i → i ≤ L → jInW s → jInC M s → jInM M s → lR X b L xs M 18 [.ref b, .ref (X.2.2.2 0), .ref (X.2.2.2 54), .int (nI i)] [] := by
  intro n
  induction n with
  | zero => exact fun i M s h1 h2 _ _ _ => lr_head hL h2 (fun hi => absurd hi (by omega))
  | succ n ih =>
    intro i M s h1 h2 hW hC hM
    refine lr_head hL h2 (fun hi => ?_)
    have fin : ∀ N t, jInW t → jInC N t → jInM N t → lR X b L xs N 631 [.ref b, .ref (X.2.2.2 0), .ref (X.2.2.2 54), .int (nI i)] [] := by
      intro N t a1 a2 a3
      refine lr_iinc dl_631 ?_
      rw [show Int32.ofInt 4 = nI 4 by decide, nI_add]
      exact lr_goto (t := 18) dl_634 (by decide) (ih (i + 4) N t (by omega) (by omega) a1 a2 a3)
    refine lr_aload (k := 0) (a := b) dl_26 rfl ?_
    refine lr_iload (k := 3) (x := nI i) dl_27 rfl ?_
    refine lr_sld dl_28 (vp_in_nI (by omega) (by omega)) ?_
    refine lr_bipush (v := 31) dl_29 (by decide) ?_
    refine lr_iand dl_31 ?_
    refine lr_tsw (dd := 631) (ts := [124, 147, 160, 173, 206, 239, 262, 295, 328, 341, 374, 417, 450, 483, 496, 519, 562, 585, 608]) dl_32 (by decide) (by decide) (by decide) (by decide) (by decide) ?_
    refine lr_sw (fun _ => lc_type hI hW hC hM hi hL fin) (fun _ => ?_)
    refine lr_sw (fun _ => lc_clear hI hW hC hM hi hL fin) (fun _ => ?_)
    refine lr_sw (fun _ => lc_source hI hW hC hM hi hL fin) (fun _ => ?_)
    refine lr_sw (fun _ => lc_item hI hW hC hM hi hL fin) (fun _ => ?_)
    refine lr_sw (fun _ => lc_sizes hI hW hC hM hi hL fin) (fun _ => ?_)
    refine lr_sw (fun _ => lc_pins hI hW hC hM hi hL fin) (fun _ => ?_)
    refine lr_sw (fun _ => lc_places hI hW hC hM hi hL fin) (fun _ => ?_)
    refine lr_sw (fun _ => lc_takes hI hW hC hM hi hL fin) (fun _ => ?_)
    refine lr_sw (fun _ => lc_undo hI hW hC hM hi hL fin) (fun _ => ?_)
    refine lr_sw (fun _ => lc_way hI hW hC hM hi hL fin) (fun _ => ?_)
    refine lr_sw (fun _ => lc_lies hI hW hC hM hi hL fin) (fun _ => ?_)
    refine lr_sw (fun _ => lc_code hI hW hC hM hi hL fin) (fun _ => ?_)
    refine lr_sw (fun _ => lc_origin hI hW hC hM hi hL fin) (fun _ => ?_)
    refine lr_sw (fun _ => lc_narrow hI hW hC hM hi hL fin) (fun _ => ?_)
    refine lr_sw (fun _ => lc_fewest hI hW hC hM hi hL fin) (fun _ => ?_)
    refine lr_sw (fun _ => lc_odds hI hW hC hM hi hL fin) (fun _ => ?_)
    refine lr_sw (fun _ => lc_keep hI hW hC hM hi hL fin) (fun _ => ?_)
    refine lr_sw (fun _ => lc_back hI hW hC hM hi hL fin) (fun _ => ?_)
    refine lr_sw (fun _ => lc_count hI hW hC hM hi hL fin) (fun _ => ?_)
    exact fin M s hW hC hM
end LL
theorem kInM {M : jMem} (h2 : M 54 2 = 0) (h7 : M 54 7 = 0) (h8 : M 54 8 = 20) (h12 : M 54 12 = 0) (h14 : M 54 14 = 0) (h16 : M 54 16 = 0) (h18 : M 54 18 = 0) (h20 : M 54 20 = 0) (n57 : ∀ k, M 57 k = 0) (n63 : ∀ k, M 63 k = 0) : jInM M jS0 := by
  have nz : ∀ k, ¬ k < 0 := Nat.not_lt_zero
  refine ⟨⟨h2, fun k hk => absurd hk (nz k)⟩, ⟨⟨h7, h8, h12, h14, h16, h18⟩, fun k hk => absurd hk (nz k), fun x _ h => absurd h (nz 0), fun k hk => absurd hk (nz k), fun k hk => absurd hk (nz k), fun k hk => absurd hk (nz k)⟩, ⟨fun k hk => ?_, h20, fun k hk => absurd hk (nz k)⟩, fun i hi => n63 i⟩
  rw [n57 k]
  rfl
theorem lk_new7 : Cond.classLink R_law 7 RX7 ∈ jTb := jtb (i := 66) (by decide +kernel) rfl
theorem lk_new8 : Cond.classLink R_law 10 RX8 ∈ jTb := jtb (i := 719) (by decide +kernel) rfl
theorem lk_ini7 : Cond.methodLink R_law 9 yX7_init ∈ jTb := jtb (i := 68) (by decide +kernel) rfl
theorem lk_ini8 : Cond.methodLink R_law 12 yX8_init ∈ jTb := jtb (i := 721) (by decide +kernel) rfl
theorem lk_c7 : Cond.code yX7_init cX7_init 1 none ∈ jTb := jtb (i := 70) (by decide +kernel) (by decide +kernel)
theorem lk_c8 : Cond.code yX8_init cX8_init 1 none ∈ jTb := jtb (i := 723) (by decide +kernel) (by decide +kernel)
theorem lk_i7 : Cond.instanceMethod yX7_init ∈ jTb := jtb (i := 69) (by decide +kernel) rfl
theorem lk_i8 : Cond.instanceMethod yX8_init ∈ jTb := jtb (i := 722) (by decide +kernel) rfl
/-- the tables at the law's entry -/
theorem kKnow {s : State} {args : Array Value} (hts : ∀ w ∈ jTb, w.before args s = true) : ∃ Y2 : va_G × (ClassId × ClassId), va_K Y2.1 vwCl [(Y2.2.1, .int), (Y2.2.2, .boolean)] s := by
  have kn : ∀ (ci : Nat) (C2 : String) (T2 : u_T) (N : Nat), kCf ci C2 T2 N → ∃ (cC : ClassId) (iS : Nat → Nat), u_Kn s C2 T2 N cC iS := by
    intro ci C2 T2 N h
    obtain ⟨-, ty, hin, -, hi1, -, -⟩ := h
    exact u_known (n := N) hts hin (hts _ hi1)
  obtain ⟨c0, i0, k0⟩ := kn _ _ _ _ kcf_0
  obtain ⟨c1, i1, k1⟩ := kn _ _ _ _ kcf_1
  obtain ⟨c2, i2, k2⟩ := kn _ _ _ _ kcf_2
  obtain ⟨c3, i3, k3⟩ := kn _ _ _ _ kcf_3
  obtain ⟨c4, i4, k4⟩ := kn _ _ _ _ kcf_4
  obtain ⟨c5, i5, k5⟩ := kn _ _ _ _ kcf_5
  obtain ⟨c6, i6, k6⟩ := kn _ _ _ _ kcf_6
  obtain ⟨c7, i7, k7⟩ := kn _ _ _ _ kcf_7
  obtain ⟨c8, i8, k8⟩ := kn _ _ _ _ kcf_8
  obtain ⟨cI, kI, pI, f1, f2, f3⟩ := Cond.arrayClass_spec (hts _ kw_ai)
  obtain ⟨cZ, kZ, pZ, g1, g2, g3⟩ := Cond.arrayClass_spec (hts _ kw_az)
  refine ⟨((fun k => [c0, c1, c2, c3, c4, c5, c6, c7, c8].getD k c0, fun k => [i0, i1, i2, i3, i4, i5, i6, i7, i8].getD k i0), (cI, cZ)), fun k q hq => ?_, fun k q hq => ?_⟩
  · match k, hq with
    | 0, hq => cases hq; exact k0
    | 1, hq => cases hq; exact k1
    | 2, hq => cases hq; exact k2
    | 3, hq => cases hq; exact k3
    | 4, hq => cases hq; exact k4
    | 5, hq => cases hq; exact k5
    | 6, hq => cases hq; exact k6
    | 7, hq => cases hq; exact k7
    | 8, hq => cases hq; exact k8
    | k + 9, hq => simp at hq
  · match k, hq with
    | 0, hq => cases hq; exact ⟨fun n z => ⟨fun k h => (by cases h), kI, f2, pI, f3⟩, f1⟩
    | 1, hq => cases hq; exact ⟨fun n z => ⟨fun k h => (by cases h), kZ, g2, pZ, g3⟩, g1⟩
    | k + 2, hq => simp at hq
theorem kNest {s : State} {args : Array Value} (hts : ∀ w ∈ lw_tbl, w.before args s = true) : kNk s := by
  intro w hw
  simp only [kNs, List.mem_cons, List.not_mem_nil, or_false] at hw
  rcases hw with rfl | rfl | rfl | rfl | rfl
  · exact va_Nw.of rfl (hts _ (List.mem_of_getElem? (i := 76) (by decide +kernel)))
  · exact va_Nw.of rfl (hts _ (List.mem_of_getElem? (i := 187) (by decide +kernel)))
  · exact va_Nw.of rfl (hts _ (List.mem_of_getElem? (i := 193) (by decide +kernel)))
  · exact va_Nw.of rfl (hts _ (List.mem_of_getElem? (i := 224) (by decide +kernel)))
  · exact va_Nw.of rfl (hts _ (List.mem_of_getElem? (i := 285) (by decide +kernel)))
theorem kFree0 {H0 H : Heap} {q ci2 : Nat} {w : va_W} {locs : List Loc} (hD : va_D (fun q => H0.size ≤ q) (w ++ [(q, .inr (ci2, kDf ci2))])) (hS : va_S (fun q => H0.size ≤ q) H0 H locs) : ∀ x, kA q ci2 H.size x → H0.size ≤ x := by
  intro x h
  rcases h with ⟨k2, e, h⟩ | h
  · obtain ⟨-, h2⟩ := k1_get h
    have h3 : (w ++ [(q, (.inr (ci2, kDf ci2) : va_E))])[w.length]? = some (q, .inr (ci2, kDf ci2)) := by simp
    have := hD.2 _ _ h3
    rw [show x = q from congrArg Prod.fst h2]
    exact this
  · exact Nat.le_trans hS.1 h
set_option maxHeartbeats 4000000 in
set_option maxRecDepth 100000 in
/-- the law, from its entry -/
theorem whole_start {p : Program} {e : Env} {s : State} {m : MethodId} {below : List Frame} {meth : Method} {c : Code} (l : Launch) (hflags : l.flags = flags0) {b L : Nat} {xs : Nat → Int32} (hL : L ≤ 2048) (C0 : lw_At p s m meth c b L xs) : W p l e room_1 s m #[Value.ref b] below meth c s.heap [] 0 0 (lw_Z below #[Value.ref b] s) (entryFrame m ([Value.ref b] : List Value).toArray 4) := by
  obtain ⟨hx, hb, hr, hml, hown, hts0, hX, hbl, hlocks, hgv⟩ := id C0
  have hts : ∀ w ∈ jTb, w.before #[Value.ref b] s = true := fun w hw => hts0 w (List.mem_filter.mp hw).1
  obtain ⟨Y2, hK⟩ := kKnow hts
  have hN := kNest hts0
  have hA : ∀ q : Nat, s.heap.size ≤ q → (fun q : Nat => s.heap.size ≤ q) q := fun _ h => h
  have hS : va_S (fun q : Nat => s.heap.size ≤ q) s.heap s.heap [] := va_S.rf
  have hP : va_P Y2.1 vwCl [] s.heap := fun k q h => by simp at h
  have hD : va_D (fun q : Nat => s.heap.size ≤ q) [] := ⟨fun i j p q h => by simp at h, fun k q h => by simp at h⟩
  obtain ⟨h7a, ty7, h7b, h7c, h7d, h7e, h7f⟩ := kcf_7
  obtain ⟨h8a, ty8, h8b, h8c, h8d, h8e, h8f⟩ := kcf_8
  have hl := lv_entry ([.ref b]) (n := 4) (Nat.le_of_ble_eq_true rfl)
  rw [lg_entry_eq]
  generalize (lg_sl ([.ref b]) ++ List.replicate (4 - (lg_sl ([.ref b])).length) Slot.unset).toArray = ls at hl ⊢
  have hl : lv_has ls 4 [(0, .ref b)] := hl
  refine va_new (ci := 7) (fs := kDf 7) (C := RX7) (T := TX7) (N := 12) hx hb hts h7b ty7 h7c hown (hts _ lk_new7) (hts _ h7d) (hts _ h7e) hK hP hD hS hA h7a h7f (Nat.le_of_ble_eq_true rfl) (Nat.le_of_ble_eq_true rfl) dl_0 (fun q0 H hP hD hS => ?_)
  refine lv_dup hx hb dl_3 rfl ?_
  have hF := kFree0 hD hS
  refine va_callv (va_runI (As := []) (rest := [.ref q0]) ⟨hx, hb, hml, hown, hts⟩ (k_X7 (l, Y2) q0 H.size) (cwI 0 hts (jtb_good (fun w hw => (List.mem_cons.mp hw).elim (fun e => e ▸ lk_c7) id)) rfl rfl rfl (hts _ h7e) (hts _ lk_ini7) (hts _ lk_i7) rfl ⟨by decide +kernel, by decide +kernel, by decide +kernel⟩ ⟨Nat.le_of_ble_eq_true rfl, Nat.le_of_ble_eq_true rfl⟩) ⟨kblind, fun U hU hW => ⟨rfl, by rw [hU], by rw [hU]; exact hP, va_K.moved hW.alike hK, kNk.warm hW hN⟩⟩ rfl rfl hl.1 rfl (lv_room (Nat.le_of_ble_eq_true rfl)) dl_4 ⟨Nat.le_of_ble_eq_true rfl, Nat.le_of_ble_eq_true rfl⟩) hS (fun x _ hx => hF x hx) hF (fun w1 t H1 locs1 ht hvm hw hB hz1 hk1 hS1 => ?_)
  obtain ⟨hP1, hD1⟩ := hB
  rw [ht] at hP1
  obtain ⟨hP, hD⟩ := kJoin hP hD hk1 hF hP1 hD1
  refine lv_astore_n (lv' := [(1, .ref q0), (0, .ref b)]) hx hb dl_7 rfl hl (by decide) rfl (fun ls hl => ?_)
  refine va_new (ci := 8) (fs := kDf 8) (C := RX8) (T := TX8) (N := 33) hx hb hts h8b ty8 h8c hown (hts _ lk_new8) (hts _ h8d) (hts _ h8e) hK hP hD hS1 hA h8a h8f (Nat.le_of_ble_eq_true rfl) (Nat.le_of_ble_eq_true rfl) dl_8 (fun q1 H2 hP2 hD2 hS2 => ?_)
  refine lv_dup hx hb dl_11 rfl ?_
  have hF2 := kFree0 hD2 hS2
  refine va_callv (va_runI (As := []) (rest := [.ref q1]) ⟨hx, hb, hml, hown, hts⟩ (k_X8 (l, Y2) q1 H2.size) (cwI 0 hts (jtb_good (fun w hw => (List.mem_cons.mp hw).elim (fun e => e ▸ lk_c8) id)) rfl rfl rfl (hts _ h8e) (hts _ lk_ini8) (hts _ lk_i8) rfl ⟨by decide +kernel, by decide +kernel, by decide +kernel⟩ ⟨Nat.le_of_ble_eq_true rfl, Nat.le_of_ble_eq_true rfl⟩) ⟨kblind, fun U hU hW => ⟨rfl, by rw [hU], by rw [hU]; exact kP_r hP2, va_K.moved hW.alike hK, kNk.warm hW hN⟩⟩ rfl rfl hl.1 rfl (lv_room (Nat.le_of_ble_eq_true rfl)) dl_12 ⟨Nat.le_of_ble_eq_true rfl, Nat.le_of_ble_eq_true rfl⟩) hS2 (fun x _ hx => hF2 x hx) hF2 (fun w2 t2 H3 locs3 ht2 hvm2 hw2 hB2 hz2 hk2 hS3 => ?_)
  obtain ⟨hP3, hD3⟩ := hB2
  rw [ht2] at hP3
  obtain ⟨hP4, hD4⟩ := kJoin hP2 hD2 hk2 hF2 hP3 hD3
  refine lv_astore_n (lv' := [(2, .ref q1), (1, .ref q0), (0, .ref b)]) hx hb dl_15 rfl hl (by decide) rfl (fun ls hl => ?_)
  refine lv_iconst (v := 0) hx hb dl_16 (by decide) ?_
  refine lv_istore_n (lv' := [(3, .int 0), (2, .ref q1), (1, .ref q0), (0, .ref b)]) hx hb dl_17 rfl hl (by decide) rfl (fun ls hl => ?_)
  obtain ⟨ad, M, e0, hC, rfl⟩ := hw
  obtain ⟨g, rfl⟩ := hw2
  subst e0
  obtain ⟨ad2, had⟩ : ∃ a : Nat → Nat, a = fun i => if i < 54 then ad i else if i = 54 then q1 else g (i - 55) := ⟨_, rfl⟩
  obtain ⟨M2, hM2⟩ : ∃ N : jMem, N = fun c => if c < 54 then M c else if c = 54 then (fun k => if k = 8 then 20 else 0) else fun _ => 0 := ⟨_, rfl⟩
  have hw : ([] ++ jWl (l, Y2.1, Y2.2, ad) TC M) ++ kwModel (l, Y2) q1 g = jWl (l, Y2.1, Y2.2, ad2) T0 M2 := by
    subst had; subst hM2; rfl
  have hP5 : va_P Y2.1 vwCl (jWl (l, Y2.1, Y2.2, ad2) T0 M2) H3 := by rw [← hw]; exact hP4
  have hD5 : va_D (fun q => s.heap.size ≤ q) (jWl (l, Y2.1, Y2.2, ad2) T0 M2) := by rw [← hw]; exact hD4
  have hI : jInj (l, Y2.1, Y2.2, ad2) T0 := fun i j hi hj e => hD5.1 i j _ _ (jWl_at hi) (jWl_at hj) e
  have hAd : ∀ i, i < 71 → s.heap.size ≤ (l, Y2.1, Y2.2, ad2).2.2.2 i := fun i hi => hD5.2 i _ (jWl_at (X := (l, Y2.1, Y2.2, ad2)) (T := T0) (M := M2) hi)
  have e1 : ad2 0 = ad 0 := by rw [had]; rfl
  have e2 : ad2 54 = q1 := by rw [had]; rfl
  have hC2 : jInC M2 jS0 := hC.lo (fun c hc => by rw [hM2]; exact if_pos hc)
  have hM3 : jInM M2 jS0 := by
    subst hM2
    exact kInM rfl rfl rfl rfl rfl rfl rfl rfl (fun k => rfl) (fun k => rfl)
  have key := law_loop (b := b) (xs := xs) hI hL L 0 M2 jS0 (Nat.le_refl _) (Nat.zero_le _) kInW hC2 hM3 p e s m below meth c H3 locs3 ls C0 ⟨hP5, hK⟩ hI hAd hS3 ⟨rfl, hl.1, hl.2.1, fun i hi => ?_⟩
  · exact W.widen (Nat.le_of_ble_eq_true rfl) (Nat.le_of_ble_eq_true rfl) key
  · match i, hi with
    | 0, _ => exact hl.2.2 (0, .ref b) (by simp)
    | 1, _ => exact (hl.2.2 (1, .ref (ad 0)) (by simp)).trans (by rw [← e1]; rfl)
    | 2, _ => exact (hl.2.2 (2, .ref q1) (by simp)).trans (by rw [← e2]; rfl)
    | 3, _ => exact hl.2.2 (3, .int 0) (by simp)
    | i + 4, hi => exact absurd rfl hi
set_option maxHeartbeats 4000000 in
theorem lw_walk (l : Launch) (hflags : l.flags = flags0) (b : Addr) (xs : List Int32) : MetFree l x (headSpec (Jvm.Cond.code x code maxLocals ret :: tables_1) room_1) (lw_P b xs) (fun _ _ _ _ _ => True) lw_Q := by
  refine MetFree.of_bodyS (code := code) (maxLocals := maxLocals) (ret := ret) (by decide) ?_ ?_
  · intro args s m h hn
    obtain ⟨meth, c, h1, h2, h3, h4, h5, h6, -, -⟩ := Cond.code_spec hn (atoms_spec (ws := Jvm.Cond.code x code maxLocals ret :: tables_1) h _ List.mem_cons_self)
    exact ⟨meth, c, h1, h2, h3, h4, h5, h6⟩
  · intro p e s m args below meth c s₁ B hml0 hP _
    obtain ⟨rfl, hx, hbd, hgv⟩ := hP
    obtain ⟨scr, harrAt, hlist, hof, hsmall⟩ := hx
    obtain ⟨hcb, hkn, -, -⟩ := State.arrayAt?_spec harrAt
    have hown : s.vm.findClass R_law = some m.cls := findClass_of_methodNamed B.named
    have hts0 : ∀ c ∈ (Jvm.Cond.code x code maxLocals ret :: tables_1), c.before #[Value.ref b] s = true := atoms_spec (ws := Jvm.Cond.code x code maxLocals ret :: tables_1) B.pre
    have hts : ∀ w ∈ lw_tbl, w.before #[Value.ref b] s = true := k2_hts_sels lw_privs (fun w hw => hts0 w (List.mem_cons_of_mem _ hw)) lw_privs_ok
    have hml : c.maxLocals = 4 := B.maxLocals_eq (hts0 _ List.mem_cons_self)
    have X₀ : Stand p l e room_1 s m #[Value.ref b] below meth c s₁ [] 0 0 := Stand.of_body B
    have hh0 : s₁.heap = s.heap := by rw [B.state]; rfl
    have hsz : scr.slots.size = xs.length := by rw [← Array.length_toList, hlist, List.length_map]
    have hval : ∀ j : Nat, j < xs.length → scr.slots[j]? = some (.int (xs.getD j 0)) := fun j hj => by
      rw [← Array.getElem?_toList, hlist]
      simp [hj]
    have hbl : b < s.heap.size := (Array.getElem?_eq_some_iff.mp hcb).1
    have hX : va_X b xs.length (fun j => xs.getD j 0) s s.heap := ⟨scr, hcb, hof, hkn, hsz, hval⟩
    have K : W p l e room_1 s m #[Value.ref b] below meth c s₁.heap [] 0 0 (lw_Z below #[Value.ref b] s) (entryFrame m ([Value.ref b] : List Value).toArray 4) := by
      rw [hh0]
      exact whole_start l hflags hbd ⟨B.exec, B.bytes, B.returns, hml, hown, hts, hX, hbl, B.notSynchronized, hgv⟩
    obtain ⟨t, a1, o, b1, b2, b3⟩ := K s₁ rfl X₀
    exact ⟨t, o, a1, b1, b2, b3⟩
theorem lw_pre_spec {args : Array Value} {s : State} (h : (Jvm.Cond.and given_1 narrow_1).before args s = true) (hr : rest_1_c.before args s = true) : ∃ (b : Addr) (xs : List Int32), lw_P b xs args s := by
  have hs := flat_of_before _ h
  have hq := flat_of_before _ hr
  have hc : (Cond.count 1).before args s = true := hs _ (by decide +kernel)
  have harr : (Cond.arrayOf (.arg 0) .int).before args s = true := hs _ (by decide +kernel)
  have hle : (Cond.le (.length (.arg 0)) (.int 2048)).before args s = true := hs _ (by decide +kernel)
  have hlen : (Cond.isInt (.length (.arg 0))).before args s = true := hq _ (by decide +kernel)
  have hall : (Cond.all (.arg 0) (.isInt (.elem (.arg 0) (.index 0)))).before args s = true := hq _ (by decide +kernel)
  obtain ⟨b, xs, hb, hx⟩ := State.ints_of_pre rfl harr hlen hall
  have hsm : xs.length < 2 ^ 31 := hx.choose_spec.2.2.2
  have hev : (Term.length (.arg 0)).eval args s none [] s = some (.int xs.length.toInt32) := hx.length_eval hb
  have hv := Cond.le_ints hev (show (Term.int 2048).eval args s none [] s = some (.int 2048) from rfl)
  have hd : xs.length.toInt32 ≤ 2048 := by
    simpa [Cond.before, Cond.holds, hv] using hle
  have hN : xs.length ≤ 2048 := (Int32.ofNat_le_ofNat hsm (by decide)).mp (show Int32.ofNat xs.length ≤ Int32.ofNat 2048 from hd)
  exact ⟨b, xs, Cond.one_arg hc (show args[0]? = some (.ref b) from hb), hx, hN, h⟩
theorem lw_comes (l : Launch) (hflags : l.flags = flags0) : Comes l x (Jvm.Cond.code x code maxLocals ret :: tables_1) room_1 (fun tb e args s => Calls_1 tb e args s ∧ rest_1 tb e args s ∧ Pre_1 tb e args s)
    (fun _ _ args s o t => lw_Q args s o t) := by
  intro p e ha hc hk s m args below hf hfit hheap happ hpre
  obtain ⟨b, xs, hP⟩ := lw_pre_spec hpre.2.2 hpre.2.1
  obtain ⟨k, o, h1, h2, h3, hQ⟩ := lw_walk l hflags b xs p e ha hc hk s m args below hf ((Spec.applies_iff_loose hf).mp happ).1 hP trivial
  exact ⟨k, o, h1, h2, h3, hQ⟩
theorem lw_frame {s t : State} {o : Outcome} {args : Array Value} (h : Framed s o t [] 600000 7302250) :
    Framed s o t (fieldLocs frame_1_writes args s ++ arrayLocs frame_1_arrays args s ++ staticLocs frame_1_statics s) 600000 7302250 := h
theorem lw_limb (L : Cond) (hL : ∀ (args : Array Value) (s t : State), L.after args s (.returned (some (.int 1))) t = true) :
    ArmFor flags0 classFile x code maxLocals ret World_1 tables_1 room_1 Calls_1 rest_1 Pre_1
      (fun tb e a s o t => postC L tb e a s o t ∧ Framed s o t (fieldLocs frame_1_writes a s ++ arrayLocs frame_1_arrays a s ++ staticLocs frame_1_statics s) 600000 7302250) := by
  intro l hflags _ _ p e ha hc hk s m args below hf hfit hheap happ hpre
  obtain ⟨k, o, h1, h2, h3, rfl, hF⟩ := lw_comes l hflags p e ha hc hk s m args below hf hfit hheap happ hpre
  exact ⟨k, _, h1, h2, h3, hL args s _, lw_frame hF⟩
theorem i_vc : Claimed_1_1 ∧ Claimed_1_2 := ⟨lw_limb limb_1_1 (fun args s t => by simp [limb_1_1, Cond.after, Cond.holds, Cond.value]), lw_limb limb_1_2 (fun args s t => Cond.after_iff.mpr (by
  first | (rw [show limb_1_2 = Cond.eq .result (.int 1) from rfl, Cond.eq_ints (x := 1) (y := 1) rfl rfl]; simp; done) | (simp [limb_1_2, Cond.value, Term.eval]; done)))⟩
