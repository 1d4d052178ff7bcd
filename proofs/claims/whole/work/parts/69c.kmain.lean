/-! JumpLengths is made (printed by gen69c.py) -/
set_option maxRecDepth 100000 in
theorem kw_304 : (.methodLink RX7 72 yX5_startAs : Cond) ∈ jTb := jtb (i := 304) (by decide +kernel) rfl
def TC : jT := T0.take 54
def jS0 : jSt := ((0, fun _ => 0), rD0, (fun _ => rV0 (fun _ => 0) 0, 0), fun _ => none)
theorem kInC {M : jMem} (h1 : M 1 1 = 0) (h12 : ∀ k, 8 ≤ k → k ≤ 12 → M 12 k = 0) (h13 : M 12 13 = 20) (h17 : ∀ x, x < 8 → M 17 x = -1) (s1 : M 22 1 = 0) (s2 : M 22 2 = 0) (s3 : M 22 3 = 20) (p1 : M 24 3 = 0) (i1 : M 28 2 = 0) (i2 : M 35 2 = 0) (f : M 0 11 = 0) : jInC M jS0 := by
  have nz : ∀ k, ¬ k < 0 := Nat.not_lt_zero
  refine ⟨⟨h1, fun k hk => absurd hk (nz k)⟩, ⟨⟨?_, ?_, ?_, ?_, ?_, ?_⟩, ⟨fun k hk => absurd hk (nz k), fun k hk => absurd hk (nz k), fun k hk => absurd hk (nz k), fun k hk => absurd hk (nz k)⟩, fun x hx => ?_, fun k hk => absurd hk (nz k), fun k hk => absurd hk (nz k), fun k hk => absurd hk (nz k)⟩, ⟨⟨fun k hk => absurd hk (nz k), ?_, ?_, ?_⟩, ?_, fun k hk => absurd hk (nz k)⟩, fun i hi => ?_, ?_⟩
  · exact h12 8 (by decide) (by decide)
  · exact h12 9 (by decide) (by decide)
  · exact h12 10 (by decide) (by decide)
  · exact h12 11 (by decide) (by decide)
  · exact h12 12 (by decide) (by decide)
  · exact h13
  · exact h17 x hx
  · exact s1
  · exact s2
  · exact s3
  · exact p1
  · have : i = 0 ∨ i = 1 := by omega
    rcases this with rfl | rfl
    · exact i1
    · exact i2
  · exact ⟨0, by decide, f, fun w _ h => absurd h (by simp), fun h => absurd h (by simp)⟩
theorem kInW : jInW jS0 := by
  have hv : jVok (fun _ => 0) (fun _ => 0) 0 20 (rV0 (fun _ => 0) 0) := rV0_ok rDw0 (fun k hk => absurd hk (Nat.not_lt_zero k))
  exact ⟨⟨by decide, fun k hk => absurd hk (Nat.not_lt_zero k)⟩, ⟨by decide, fun a _ => hv⟩, fun i G _ h => by cases h⟩
theorem kstart {M M1 M2 M3 M4 : jMem} {m0 m5 : Nat → Int32} (e1 : M1 = jSC M 1 (va_cpy (M 4) (M 1) 0 0 32)) (e2 : M2 = jP M1 0 1 0) (e3 : M3 = jP M2 0 2 0) (e4 : M4 = jP M3 0 3 (M3 2 13)) (h2 : M 2 = m0) (h7 : M 7 = m5) : (none : Option Value) = none ∧ M4 0 1 = 0 ∧ M4 0 2 = 0 ∧ M4 0 3 = m0 13 ∧ M4 2 = m0 ∧ M4 7 = m5 := by
  subst e4; subst e3; subst e2; subst e1; subst h2; subst h7
  refine ⟨rfl, ?_, ?_, ?_, ?_, ?_⟩ <;> simp [jP, jSC, upd]
set_option maxHeartbeats 4000000 in
set_option maxRecDepth 100000 in
theorem k_X7 (Y : kX) (h0 : Nat)  : kOk Y (yX7_init, cX7_init, 1) (2, 53, 908) h0 7 [] (fun w => ∃ ad M, ad 0 = h0 ∧ jInC M jS0 ∧ w = jWl (Y.1, Y.2.1, Y.2.2, ad) TC M) := by
  refine kOk.intro (ls := [.ref h0]) (by decide +kernel) rfl (Nat.le_of_ble_eq_true rfl) rfl (fun sz => ?_)
  refine kr_fs (fs' := [.null, .null, .null, .null, .null, .null, .null, .null, .null, .null, .int 0, .int 0]) rfl rfl ?_
  refine kr_aload (k := 0) (a := h0) kd_X7_init_0 rfl ?_
  refine kr_obj kd_X7_init_1 kw_71 ?_
  refine kr_aload (k := 0) (a := h0) kd_X7_init_4 rfl ?_
  refine kr_new (ci2 := 6) kd_X7_init_5 kcf_6 kw_74 (Nat.le_of_ble_eq_true rfl) (Nat.le_of_ble_eq_true rfl) (fun a1 => ?_)
  refine kr_dup kd_X7_init_8 ?_
  refine kr_callN (As := []) (st := [.ref a1, .ref h0]) (k_X6 Y a1) kw_78 kw_55 (List.mem_of_getElem? (i := 0) rfl) kw_77 rfl ⟨by decide +kernel, by decide +kernel, (show (parseMethodDescriptor yX6_init.desc).map (fun d => d.parameters.length) = some 0 by decide +kernel)⟩ (by decide) (by decide) (Nat.le_of_ble_eq_true rfl) (Nat.le_of_ble_eq_true rfl) (Nat.le_of_ble_eq_true rfl) kd_X7_init_9 (fun w1 hw1 => ?_)
  refine kr_put (k := 0) (q := (RX7, TX7, 12)) (t1 := (.object "JumpLengths$Tokens")) kd_X7_init_12 rfl (by decide) kw_311 rfl (by decide +kernel) rfl rfl (Nat.le_of_ble_eq_true rfl) ?_
  refine kr_fs (fs' := [.ref a1, .null, .null, .null, .null, .null, .null, .null, .null, .null, .int 0, .int 0]) rfl rfl ?_
  refine kr_aload (k := 0) (a := h0) kd_X7_init_15 rfl ?_
  refine kr_new (ci2 := 3) kd_X7_init_16 kcf_3 kw_105 (Nat.le_of_ble_eq_true rfl) (Nat.le_of_ble_eq_true rfl) (fun a2 => ?_)
  refine kr_dup kd_X7_init_19 ?_
  refine kr_call (As := []) (st := [.ref a2, .ref h0]) (k_X3 Y a2) kw_109 kw_56 kw_107 kw_108 rfl ⟨by decide +kernel, by decide +kernel, (show (parseMethodDescriptor yX3_init.desc).map (fun d => d.parameters.length) = some 0 by decide +kernel)⟩ (by decide) (by decide) (Nat.le_of_ble_eq_true rfl) (Nat.le_of_ble_eq_true rfl) (Nat.le_of_ble_eq_true rfl) kd_X7_init_20 (fun w2 hw2 => ?_)
  refine kr_put (k := 1) (q := (RX7, TX7, 12)) (t1 := (.object "JumpLengths$Program")) kd_X7_init_23 rfl (by decide) kw_312 rfl (by decide +kernel) rfl rfl (Nat.le_of_ble_eq_true rfl) ?_
  refine kr_fs (fs' := [.ref a1, .ref a2, .null, .null, .null, .null, .null, .null, .null, .null, .int 0, .int 0]) rfl rfl ?_
  refine kr_aload (k := 0) (a := h0) kd_X7_init_26 rfl ?_
  refine kr_new (ci2 := 3) kd_X7_init_27 kcf_3 kw_105 (Nat.le_of_ble_eq_true rfl) (Nat.le_of_ble_eq_true rfl) (fun a3 => ?_)
  refine kr_dup kd_X7_init_30 ?_
  refine kr_call (As := []) (st := [.ref a3, .ref h0]) (k_X3 Y a3) kw_109 kw_56 kw_107 kw_108 rfl ⟨by decide +kernel, by decide +kernel, (show (parseMethodDescriptor yX3_init.desc).map (fun d => d.parameters.length) = some 0 by decide +kernel)⟩ (by decide) (by decide) (Nat.le_of_ble_eq_true rfl) (Nat.le_of_ble_eq_true rfl) (Nat.le_of_ble_eq_true rfl) kd_X7_init_31 (fun w3 hw3 => ?_)
  refine kr_put (k := 2) (q := (RX7, TX7, 12)) (t1 := (.object "JumpLengths$Program")) kd_X7_init_34 rfl (by decide) kw_313 rfl (by decide +kernel) rfl rfl (Nat.le_of_ble_eq_true rfl) ?_
  refine kr_fs (fs' := [.ref a1, .ref a2, .ref a3, .null, .null, .null, .null, .null, .null, .null, .int 0, .int 0]) rfl rfl ?_
  refine kr_aload (k := 0) (a := h0) kd_X7_init_37 rfl ?_
  refine kr_new (ci2 := 0) kd_X7_init_38 kcf_0 kw_185 (Nat.le_of_ble_eq_true rfl) (Nat.le_of_ble_eq_true rfl) (fun a4 => ?_)
  refine kr_dup kd_X7_init_41 ?_
  refine kr_callN (As := []) (st := [.ref a4, .ref h0]) (k_X0 Y a4) kw_189 kw_57 (List.mem_of_getElem? (i := 1) rfl) kw_188 rfl ⟨by decide +kernel, by decide +kernel, (show (parseMethodDescriptor yX0_init.desc).map (fun d => d.parameters.length) = some 0 by decide +kernel)⟩ (by decide) (by decide) (Nat.le_of_ble_eq_true rfl) (Nat.le_of_ble_eq_true rfl) (Nat.le_of_ble_eq_true rfl) kd_X7_init_42 (fun w4 hw4 => ?_)
  refine kr_put (k := 3) (q := (RX7, TX7, 12)) (t1 := (.object "JumpLengths$Image")) kd_X7_init_45 rfl (by decide) kw_314 rfl (by decide +kernel) rfl rfl (Nat.le_of_ble_eq_true rfl) ?_
  refine kr_fs (fs' := [.ref a1, .ref a2, .ref a3, .ref a4, .null, .null, .null, .null, .null, .null, .int 0, .int 0]) rfl rfl ?_
  refine kr_aload (k := 0) (a := h0) kd_X7_init_48 rfl ?_
  refine kr_new (ci2 := 0) kd_X7_init_49 kcf_0 kw_185 (Nat.le_of_ble_eq_true rfl) (Nat.le_of_ble_eq_true rfl) (fun a5 => ?_)
  refine kr_dup kd_X7_init_52 ?_
  refine kr_callN (As := []) (st := [.ref a5, .ref h0]) (k_X0 Y a5) kw_189 kw_57 (List.mem_of_getElem? (i := 1) rfl) kw_188 rfl ⟨by decide +kernel, by decide +kernel, (show (parseMethodDescriptor yX0_init.desc).map (fun d => d.parameters.length) = some 0 by decide +kernel)⟩ (by decide) (by decide) (Nat.le_of_ble_eq_true rfl) (Nat.le_of_ble_eq_true rfl) (Nat.le_of_ble_eq_true rfl) kd_X7_init_53 (fun w5 hw5 => ?_)
  refine kr_put (k := 4) (q := (RX7, TX7, 12)) (t1 := (.object "JumpLengths$Image")) kd_X7_init_56 rfl (by decide) kw_315 rfl (by decide +kernel) rfl rfl (Nat.le_of_ble_eq_true rfl) ?_
  refine kr_fs (fs' := [.ref a1, .ref a2, .ref a3, .ref a4, .ref a5, .null, .null, .null, .null, .null, .int 0, .int 0]) rfl rfl ?_
  refine kr_aload (k := 0) (a := h0) kd_X7_init_59 rfl ?_
  refine kr_new (ci2 := 0) kd_X7_init_60 kcf_0 kw_185 (Nat.le_of_ble_eq_true rfl) (Nat.le_of_ble_eq_true rfl) (fun a6 => ?_)
  refine kr_dup kd_X7_init_63 ?_
  refine kr_callN (As := []) (st := [.ref a6, .ref h0]) (k_X0 Y a6) kw_189 kw_57 (List.mem_of_getElem? (i := 1) rfl) kw_188 rfl ⟨by decide +kernel, by decide +kernel, (show (parseMethodDescriptor yX0_init.desc).map (fun d => d.parameters.length) = some 0 by decide +kernel)⟩ (by decide) (by decide) (Nat.le_of_ble_eq_true rfl) (Nat.le_of_ble_eq_true rfl) (Nat.le_of_ble_eq_true rfl) kd_X7_init_64 (fun w6 hw6 => ?_)
  refine kr_put (k := 5) (q := (RX7, TX7, 12)) (t1 := (.object "JumpLengths$Image")) kd_X7_init_67 rfl (by decide) kw_316 rfl (by decide +kernel) rfl rfl (Nat.le_of_ble_eq_true rfl) ?_
  refine kr_fs (fs' := [.ref a1, .ref a2, .ref a3, .ref a4, .ref a5, .ref a6, .null, .null, .null, .null, .int 0, .int 0]) rfl rfl ?_
  refine kr_aload (k := 0) (a := h0) kd_X7_init_70 rfl ?_
  refine kr_new (ci2 := 1) kd_X7_init_71 kcf_1 kw_255 (Nat.le_of_ble_eq_true rfl) (Nat.le_of_ble_eq_true rfl) (fun a7 => ?_)
  refine kr_dup kd_X7_init_74 ?_
  refine kr_aload (k := 0) (a := h0) kd_X7_init_75 rfl ?_
  refine kr_get (k := 2) (q0 := 0) (ci2 := 7) (q := (RX7, TX7, 12)) (v := .ref a3) kd_X7_init_76 rfl (by decide) kw_313 rfl rfl ?_
  refine kr_call (As := [.ref a3]) (st := [.ref a7, .ref h0]) (k_X1 Y a7 a3) kw_259 kw_60 kw_257 kw_258 rfl ⟨by decide +kernel, by decide +kernel, (show (parseMethodDescriptor yX1_init.desc).map (fun d => d.parameters.length) = some 1 by decide +kernel)⟩ (by decide) (by decide) (Nat.le_of_ble_eq_true rfl) (Nat.le_of_ble_eq_true rfl) (Nat.le_of_ble_eq_true rfl) kd_X7_init_79 (fun w7 hw7 => ?_)
  refine kr_put (k := 6) (q := (RX7, TX7, 12)) (t1 := (.object "JumpLengths$Layout")) kd_X7_init_82 rfl (by decide) kw_317 rfl (by decide +kernel) rfl rfl (Nat.le_of_ble_eq_true rfl) ?_
  refine kr_fs (fs' := [.ref a1, .ref a2, .ref a3, .ref a4, .ref a5, .ref a6, .ref a7, .null, .null, .null, .int 0, .int 0]) rfl rfl ?_
  refine kr_aload (k := 0) (a := h0) kd_X7_init_85 rfl ?_
  refine kr_new (ci2 := 1) kd_X7_init_86 kcf_1 kw_255 (Nat.le_of_ble_eq_true rfl) (Nat.le_of_ble_eq_true rfl) (fun a8 => ?_)
  refine kr_dup kd_X7_init_89 ?_
  refine kr_aload (k := 0) (a := h0) kd_X7_init_90 rfl ?_
  refine kr_get (k := 2) (q0 := 0) (ci2 := 7) (q := (RX7, TX7, 12)) (v := .ref a3) kd_X7_init_91 rfl (by decide) kw_313 rfl rfl ?_
  refine kr_call (As := [.ref a3]) (st := [.ref a8, .ref h0]) (k_X1 Y a8 a3) kw_259 kw_60 kw_257 kw_258 rfl ⟨by decide +kernel, by decide +kernel, (show (parseMethodDescriptor yX1_init.desc).map (fun d => d.parameters.length) = some 1 by decide +kernel)⟩ (by decide) (by decide) (Nat.le_of_ble_eq_true rfl) (Nat.le_of_ble_eq_true rfl) (Nat.le_of_ble_eq_true rfl) kd_X7_init_94 (fun w8 hw8 => ?_)
  refine kr_put (k := 7) (q := (RX7, TX7, 12)) (t1 := (.object "JumpLengths$Layout")) kd_X7_init_97 rfl (by decide) kw_318 rfl (by decide +kernel) rfl rfl (Nat.le_of_ble_eq_true rfl) ?_
  refine kr_fs (fs' := [.ref a1, .ref a2, .ref a3, .ref a4, .ref a5, .ref a6, .ref a7, .ref a8, .null, .null, .int 0, .int 0]) rfl rfl ?_
  refine kr_aload (k := 0) (a := h0) kd_X7_init_100 rfl ?_
  refine kr_new (ci2 := 1) kd_X7_init_101 kcf_1 kw_255 (Nat.le_of_ble_eq_true rfl) (Nat.le_of_ble_eq_true rfl) (fun a9 => ?_)
  refine kr_dup kd_X7_init_104 ?_
  refine kr_aload (k := 0) (a := h0) kd_X7_init_105 rfl ?_
  refine kr_get (k := 2) (q0 := 0) (ci2 := 7) (q := (RX7, TX7, 12)) (v := .ref a3) kd_X7_init_106 rfl (by decide) kw_313 rfl rfl ?_
  refine kr_call (As := [.ref a3]) (st := [.ref a9, .ref h0]) (k_X1 Y a9 a3) kw_259 kw_60 kw_257 kw_258 rfl ⟨by decide +kernel, by decide +kernel, (show (parseMethodDescriptor yX1_init.desc).map (fun d => d.parameters.length) = some 1 by decide +kernel)⟩ (by decide) (by decide) (Nat.le_of_ble_eq_true rfl) (Nat.le_of_ble_eq_true rfl) (Nat.le_of_ble_eq_true rfl) kd_X7_init_109 (fun w9 hw9 => ?_)
  refine kr_put (k := 8) (q := (RX7, TX7, 12)) (t1 := (.object "JumpLengths$Layout")) kd_X7_init_112 rfl (by decide) kw_319 rfl (by decide +kernel) rfl rfl (Nat.le_of_ble_eq_true rfl) ?_
  refine kr_fs (fs' := [.ref a1, .ref a2, .ref a3, .ref a4, .ref a5, .ref a6, .ref a7, .ref a8, .ref a9, .null, .int 0, .int 0]) rfl rfl ?_
  refine kr_aload (k := 0) (a := h0) kd_X7_init_115 rfl ?_
  refine kr_new (ci2 := 4) kd_X7_init_116 kcf_4 kw_278 (Nat.le_of_ble_eq_true rfl) (Nat.le_of_ble_eq_true rfl) (fun a10 => ?_)
  refine kr_dup kd_X7_init_119 ?_
  refine kr_aload (k := 0) (a := h0) kd_X7_init_120 rfl ?_
  refine kr_get (k := 2) (q0 := 0) (ci2 := 7) (q := (RX7, TX7, 12)) (v := .ref a3) kd_X7_init_121 rfl (by decide) kw_313 rfl rfl ?_
  refine kr_call (As := [.ref a3]) (st := [.ref a10, .ref h0]) (k_X4 Y a10 a3) kw_282 kw_61 kw_280 kw_281 rfl ⟨by decide +kernel, by decide +kernel, (show (parseMethodDescriptor yX4_init.desc).map (fun d => d.parameters.length) = some 1 by decide +kernel)⟩ (by decide) (by decide) (Nat.le_of_ble_eq_true rfl) (Nat.le_of_ble_eq_true rfl) (Nat.le_of_ble_eq_true rfl) kd_X7_init_124 (fun w10 hw10 => ?_)
  refine kr_put (k := 9) (q := (RX7, TX7, 12)) (t1 := (.object "JumpLengths$Search")) kd_X7_init_127 rfl (by decide) kw_320 rfl (by decide +kernel) rfl rfl (Nat.le_of_ble_eq_true rfl) ?_
  refine kr_fs (fs' := [.ref a1, .ref a2, .ref a3, .ref a4, .ref a5, .ref a6, .ref a7, .ref a8, .ref a9, .ref a10, .int 0, .int 0]) rfl rfl ?_
  refine kr_aload (k := 0) (a := h0) kd_X7_init_130 rfl ?_
  refine kr_bipush (v := (-9)) kd_X7_init_131 (by decide) ?_
  refine kr_put (k := 10) (q := (RX7, TX7, 12)) (t1 := .int) kd_X7_init_133 rfl (by decide) kw_321 rfl (by decide +kernel) rfl rfl (Nat.le_of_ble_eq_true rfl) ?_
  refine kr_fs (fs' := [.ref a1, .ref a2, .ref a3, .ref a4, .ref a5, .ref a6, .ref a7, .ref a8, .ref a9, .ref a10, .int (-9), .int 0]) rfl rfl ?_
  refine kr_aload (k := 0) (a := h0) kd_X7_init_136 rfl ?_
  refine kr_iconst (v := 0) kd_X7_init_137 (by decide) ?_
  refine kr_put (k := 11) (q := (RX7, TX7, 12)) (t1 := .int) kd_X7_init_138 rfl (by decide) kw_322 rfl (by decide +kernel) rfl rfl (Nat.le_of_ble_eq_true rfl) ?_
  refine kr_fs (fs' := [.ref a1, .ref a2, .ref a3, .ref a4, .ref a5, .ref a6, .ref a7, .ref a8, .ref a9, .ref a10, .int (-9), .int 0]) rfl rfl ?_
  refine kr_aload (k := 0) (a := h0) kd_X7_init_141 rfl ?_
  refine kr_get (k := 3) (q0 := 0) (ci2 := 7) (q := (RX7, TX7, 12)) (v := .ref a4) kd_X7_init_142 rfl (by decide) kw_314 rfl rfl ?_
  obtain ⟨t1, rfl⟩ := hw1
  obtain ⟨d1, m1, e1, k1, rfl⟩ := hw2
  subst e1
  obtain ⟨d2, m2, e2, k2, rfl⟩ := hw3
  subst e2
  obtain ⟨s4, z4, p4, x4, y4, v4, rfl⟩ := hw4
  obtain ⟨s5, z5, p5, x5, y5, v5, rfl⟩ := hw5
  obtain ⟨s6, z6, p6, x6, y6, v6, rfl⟩ := hw6
  obtain ⟨l7, rfl⟩ := hw7
  obtain ⟨l8, rfl⟩ := hw8
  obtain ⟨l9, rfl⟩ := hw9
  obtain ⟨s10, z10, f10, g10, l10, rfl⟩ := hw10
  refine kr_fs (fs' := [.ref a1, .ref (d1 0), .ref (d2 0), .ref a4, .ref a5, .ref a6, .ref a7, .ref a8, .ref a9, .ref a10, .int (-9), .int 0]) (ws' := [(a1, .inr (6, [.ref t1, .int 0, .int 0, .int 0, .int 0, .int 0])), (t1, .inl (Y.2.2.1, 150, .inl (fun _ => 0))), (d1 0, .inr (3, [.ref (d1 1), .ref (d1 2), .ref (d1 3), .ref (d1 4), .ref (d1 5), .ref (d1 6), .ref (d1 7), .ref (d1 8), .int (m1 0 8), .int (m1 0 9), .int (m1 0 10), .int (m1 0 11), .int (m1 0 12), .int (m1 0 13)])), (d1 1, .inl (Y.2.2.1, 32, .inl (m1 1))), (d1 2, .inl (Y.2.2.1, 32, .inl (m1 2))), (d1 3, .inl (Y.2.2.1, 32, .inl (m1 3))), (d1 4, .inl (Y.2.2.1, 32, .inl (m1 4))), (d1 5, .inl (Y.2.2.1, 8, .inl (m1 5))), (d1 6, .inl (Y.2.2.1, 10, .inl (m1 6))), (d1 7, .inl (Y.2.2.1, 6, .inl (m1 7))), (d1 8, .inl (Y.2.2.1, 3, .inl (m1 8))), (d2 0, .inr (3, [.ref (d2 1), .ref (d2 2), .ref (d2 3), .ref (d2 4), .ref (d2 5), .ref (d2 6), .ref (d2 7), .ref (d2 8), .int (m2 0 8), .int (m2 0 9), .int (m2 0 10), .int (m2 0 11), .int (m2 0 12), .int (m2 0 13)])), (d2 1, .inl (Y.2.2.1, 32, .inl (m2 1))), (d2 2, .inl (Y.2.2.1, 32, .inl (m2 2))), (d2 3, .inl (Y.2.2.1, 32, .inl (m2 3))), (d2 4, .inl (Y.2.2.1, 32, .inl (m2 4))), (d2 5, .inl (Y.2.2.1, 8, .inl (m2 5))), (d2 6, .inl (Y.2.2.1, 10, .inl (m2 6))), (d2 7, .inl (Y.2.2.1, 6, .inl (m2 7))), (d2 8, .inl (Y.2.2.1, 3, .inl (m2 8))), (a4, .inr (0, [.ref s4, .ref p4, .int 0])), (s4, .inr (5, [.ref z4, .int 0, .int 0, .int 20])), (z4, .inl (Y.2.2.1, 32, .inl (fun _ => 0))), (p4, .inr (2, [.ref x4, .ref y4, .ref v4, .int 0])), (x4, .inl (Y.2.2.1, 10, .inl (fun _ => 0))), (y4, .inl (Y.2.2.1, 10, .inl (fun _ => 0))), (v4, .inl (Y.2.2.1, 10, .inl (fun _ => 0))), (a5, .inr (0, [.ref s5, .ref p5, .int 0])), (s5, .inr (5, [.ref z5, .int 0, .int 0, .int 20])), (z5, .inl (Y.2.2.1, 32, .inl (fun _ => 0))), (p5, .inr (2, [.ref x5, .ref y5, .ref v5, .int 0])), (x5, .inl (Y.2.2.1, 10, .inl (fun _ => 0))), (y5, .inl (Y.2.2.1, 10, .inl (fun _ => 0))), (v5, .inl (Y.2.2.1, 10, .inl (fun _ => 0))), (a6, .inr (0, [.ref s6, .ref p6, .int 0])), (s6, .inr (5, [.ref z6, .int 0, .int 0, .int 20])), (z6, .inl (Y.2.2.1, 32, .inl (fun _ => 0))), (p6, .inr (2, [.ref x6, .ref y6, .ref v6, .int 0])), (x6, .inl (Y.2.2.1, 10, .inl (fun _ => 0))), (y6, .inl (Y.2.2.1, 10, .inl (fun _ => 0))), (v6, .inl (Y.2.2.1, 10, .inl (fun _ => 0))), (a7, .inr (1, [.ref (d2 0), .ref l7, .int 0, .int 0])), (l7, .inl (Y.2.2.1, 33, .inl (fun _ => 0))), (a8, .inr (1, [.ref (d2 0), .ref l8, .int 0, .int 0])), (l8, .inl (Y.2.2.1, 33, .inl (fun _ => 0))), (a9, .inr (1, [.ref (d2 0), .ref l9, .int 0, .int 0])), (l9, .inl (Y.2.2.1, 33, .inl (fun _ => 0))), (a10, .inr (4, [.ref (d2 0), .ref s10, .ref g10, .ref f10, .int (-1)])), (s10, .inr (5, [.ref z10, .int 0, .int 0, .int 20])), (z10, .inl (Y.2.2.1, 32, .inl (fun _ => 0))), (f10, .inl (Y.2.2.1, 6, .inl (fun _ => 0))), (g10, .inr (1, [.ref (d2 0), .ref l10, .int 0, .int 0])), (l10, .inl (Y.2.2.1, 33, .inl (fun _ => 0)))]) rfl rfl ?_
  refine kr_get (k := 0) (q0 := 21) (ci2 := 0) (q := (RX0, TX0, 3)) (fs2 := [.ref s4, .ref p4, .int 0]) (v := .ref s4) kd_X7_init_145 rfl (by decide) kw_243 rfl rfl ?_
  refine kr_aload (k := 0) (a := h0) kd_X7_init_148 rfl ?_
  refine kr_get (k := 2) (q0 := 0) (ci2 := 7) (q := (RX7, TX7, 12)) (v := .ref (d2 0)) kd_X7_init_149 rfl (by decide) kw_313 rfl rfl ?_
  refine kr_jret (T := TS) (ad := (fun i => [s4, z4, d2 0, d2 1, d2 2, d2 3, d2 4, d2 5, d2 6, d2 7, d2 8].getD i 0)) (M := (fun c => [(fun k => if k = 3 then 20 else 0), (fun _ => 0), m2 0, m2 1, m2 2, m2 3, m2 4, m2 5, m2 6, m2 7, m2 8].getD c (fun _ => 0))) (f := q_X5_startAs) (i := 0) (oc := 5) (d2 := 0) (As := [.ref 2]) (wr := [(h0, .inr (7, [.ref a1, .ref (d1 0), .ref (d2 0), .ref a4, .ref a5, .ref a6, .ref a7, .ref a8, .ref a9, .ref a10, .int (-9), .int 0])), (a1, .inr (6, [.ref t1, .int 0, .int 0, .int 0, .int 0, .int 0])), (t1, .inl (Y.2.2.1, 150, .inl (fun _ => 0))), (d1 0, .inr (3, [.ref (d1 1), .ref (d1 2), .ref (d1 3), .ref (d1 4), .ref (d1 5), .ref (d1 6), .ref (d1 7), .ref (d1 8), .int (m1 0 8), .int (m1 0 9), .int (m1 0 10), .int (m1 0 11), .int (m1 0 12), .int (m1 0 13)])), (d1 1, .inl (Y.2.2.1, 32, .inl (m1 1))), (d1 2, .inl (Y.2.2.1, 32, .inl (m1 2))), (d1 3, .inl (Y.2.2.1, 32, .inl (m1 3))), (d1 4, .inl (Y.2.2.1, 32, .inl (m1 4))), (d1 5, .inl (Y.2.2.1, 8, .inl (m1 5))), (d1 6, .inl (Y.2.2.1, 10, .inl (m1 6))), (d1 7, .inl (Y.2.2.1, 6, .inl (m1 7))), (d1 8, .inl (Y.2.2.1, 3, .inl (m1 8))), (a4, .inr (0, [.ref s4, .ref p4, .int 0])), (p4, .inr (2, [.ref x4, .ref y4, .ref v4, .int 0])), (x4, .inl (Y.2.2.1, 10, .inl (fun _ => 0))), (y4, .inl (Y.2.2.1, 10, .inl (fun _ => 0))), (v4, .inl (Y.2.2.1, 10, .inl (fun _ => 0))), (a5, .inr (0, [.ref s5, .ref p5, .int 0])), (s5, .inr (5, [.ref z5, .int 0, .int 0, .int 20])), (z5, .inl (Y.2.2.1, 32, .inl (fun _ => 0))), (p5, .inr (2, [.ref x5, .ref y5, .ref v5, .int 0])), (x5, .inl (Y.2.2.1, 10, .inl (fun _ => 0))), (y5, .inl (Y.2.2.1, 10, .inl (fun _ => 0))), (v5, .inl (Y.2.2.1, 10, .inl (fun _ => 0))), (a6, .inr (0, [.ref s6, .ref p6, .int 0])), (s6, .inr (5, [.ref z6, .int 0, .int 0, .int 20])), (z6, .inl (Y.2.2.1, 32, .inl (fun _ => 0))), (p6, .inr (2, [.ref x6, .ref y6, .ref v6, .int 0])), (x6, .inl (Y.2.2.1, 10, .inl (fun _ => 0))), (y6, .inl (Y.2.2.1, 10, .inl (fun _ => 0))), (v6, .inl (Y.2.2.1, 10, .inl (fun _ => 0))), (a7, .inr (1, [.ref (d2 0), .ref l7, .int 0, .int 0])), (l7, .inl (Y.2.2.1, 33, .inl (fun _ => 0))), (a8, .inr (1, [.ref (d2 0), .ref l8, .int 0, .int 0])), (l8, .inl (Y.2.2.1, 33, .inl (fun _ => 0))), (a9, .inr (1, [.ref (d2 0), .ref l9, .int 0, .int 0])), (l9, .inl (Y.2.2.1, 33, .inl (fun _ => 0))), (a10, .inr (4, [.ref (d2 0), .ref s10, .ref g10, .ref f10, .int (-1)])), (s10, .inr (5, [.ref z10, .int 0, .int 0, .int 20])), (z10, .inl (Y.2.2.1, 32, .inl (fun _ => 0))), (f10, .inl (Y.2.2.1, 6, .inl (fun _ => 0))), (g10, .inr (1, [.ref (d2 0), .ref l10, .int 0, .int 0])), (l10, .inl (Y.2.2.1, 33, .inl (fun _ => 0)))]) (Q1 := fun v N => v = none ∧ N 0 1 = 0 ∧ N 0 2 = 0 ∧ N 0 3 = m2 0 13 ∧ N 2 = m2 0 ∧ N 7 = m2 5) (w' := fun N => jWl (Y.1, Y.2.1, Y.2.2, (fun i => [h0, a1, t1, (d1 0), (d1 1), (d1 2), (d1 3), (d1 4), (d1 5), (d1 6), (d1 7), (d1 8), (d2 0), (d2 1), (d2 2), (d2 3), (d2 4), (d2 5), (d2 6), (d2 7), (d2 8), a4, s4, z4, p4, x4, y4, v4, a5, s5, z5, p5, x5, y5, v5, a6, s6, z6, p6, x6, y6, v6, a7, l7, a8, l8, a9, l9, a10, s10, z10, g10, l10, f10].getD i 0)) TC (fun c => [(fun k => if k = 10 then -9 else 0), (fun _ => 0), (fun _ => 0), m1 0, m1 1, m1 2, m1 3, m1 4, m1 5, m1 6, m1 7, m1 8, N 2, N 3, N 4, N 5, N 6, N 7, N 8, N 9, N 10, (fun _ => 0), N 0, N 1, (fun _ => 0), (fun _ => 0), (fun _ => 0), (fun _ => 0), (fun _ => 0), (fun k => if k = 3 then 20 else 0), (fun _ => 0), (fun _ => 0), (fun _ => 0), (fun _ => 0), (fun _ => 0), (fun _ => 0), (fun k => if k = 3 then 20 else 0), (fun _ => 0), (fun _ => 0), (fun _ => 0), (fun _ => 0), (fun _ => 0), (fun _ => 0), (fun _ => 0), (fun _ => 0), (fun _ => 0), (fun _ => 0), (fun _ => 0), (fun k => if k = 4 then -1 else 0), (fun k => if k = 3 then 20 else 0), (fun _ => 0), (fun _ => 0), (fun _ => 0), (fun _ => 0)].getD c (fun _ => 0))) [22, 23, 12, 13, 14, 15, 16, 17, 18, 19, 20] [0, 1, 2, 3, 4, 5, 6, 7, 8, 9, 10, 11, 21, 24, 25, 26, 27, 28, 29, 30, 31, 32, 33, 34, 35, 36, 37, 38, 39, 40, 41, 42, 43, 44, 45, 46, 47, 48, 49, 50, 51, 52, 53] [0, 1, 2, 3, 4, 5, 6, 7, 8, 9, 10, 11, 45, 46, 47, 48, 49, 50, 51, 52, 53, 12, 43, 44, 13, 14, 15, 16, 17, 18, 19, 20, 21, 22, 23, 24, 25, 26, 27, 28, 29, 30, 31, 32, 33, 34, 35, 36, 37, 38, 39, 41, 42, 40] (fun hI => vS_startAs hI _ _ (fun M1 q1 M2 q2 M3 q3 M4 q4 => kstart q1 q2 q3 q4 rfl rfl)) (jTl (by decide)) rfl rfl rfl rfl kw_304 (by decide) rfl rfl rfl (by decide) (by decide) (by decide) kd_X7_init_152 kd_X7_init_155 (Nat.le_of_ble_eq_true rfl) (Nat.le_of_ble_eq_true rfl) (fun v N hN => ?_)
  obtain ⟨n0, n1, n2, n3, n4, n5⟩ := hN
  refine ⟨n0, by decide, rfl, ⟨_, _, rfl, ?_, rfl⟩⟩
  exact kInC rfl (fun k a b => (congrFun n4 k).trans (k2.1 k a b)) ((congrFun n4 13).trans k2.2.1) (fun x hx => (congrFun n5 x).trans (k2.2.2 x hx)) n1 n2 (n3.trans k2.2.1) rfl rfl rfl rfl
