/-! constructors: small ones (printed by gen68.py) -/
def kwShape (Y : kX) (h q : Nat) : va_W := [(h, .inr (5, [.ref q, .int 0, .int 0, .int 20])), (q, .inl (Y.2.2.1, 32, .inl (fun _ => 0)))]
def kwPast (Y : kX) (h q1 q2 q3 : Nat) : va_W := [(h, .inr (2, [.ref q1, .ref q2, .ref q3, .int 0])), (q1, .inl (Y.2.2.1, 10, .inl (fun _ => 0))), (q2, .inl (Y.2.2.1, 10, .inl (fun _ => 0))), (q3, .inl (Y.2.2.1, 10, .inl (fun _ => 0)))]
def kwImage (Y : kX) (h s s1 p p1 p2 p3 : Nat) : va_W := [(h, .inr (0, [.ref s, .ref p, .int 0]))] ++ kwShape Y s s1 ++ kwPast Y p p1 p2 p3
def kwTokens (Y : kX) (h q : Nat) : va_W := [(h, .inr (6, [.ref q, .int 0, .int 0, .int 0, .int 0, .int 0])), (q, .inl (Y.2.2.1, 150, .inl (fun _ => 0)))]
def kwLayout (Y : kX) (h pr q : Nat) : va_W := [(h, .inr (1, [.ref pr, .ref q, .int 0, .int 0])), (q, .inl (Y.2.2.1, 33, .inl (fun _ => 0)))]
def kwSearch (Y : kX) (h pr s s1 f l l1 : Nat) : va_W := [(h, .inr (4, [.ref pr, .ref s, .ref l, .ref f, .int (-1)]))] ++ kwShape Y s s1 ++ [(f, .inl (Y.2.2.1, 6, .inl (fun _ => 0)))] ++ kwLayout Y l pr l1
def kwModel (Y : kX) (h : Nat) (q : Nat → Nat) : va_W := [(h, .inr (8, [.int 0, .ref (q 0), .int 0, .int 0, .int 0, .int 0, .int 0, .int 0, .int 20, .ref (q 1), .ref (q 2), .ref (q 3), .int 0, .ref (q 4), .int 0, .ref (q 5), .int 0, .ref (q 6), .int 0, .ref (q 7), .int 0, .ref (q 8), .ref (q 9), .ref (q 10), .ref (q 11), .ref (q 12), .ref (q 13), .int 0, .int 0, .ref (q 14), .int 0, .int 0, .ref (q 15)])), (q 0, .inl (Y.2.2.1, 150, .inl (fun _ => 0))), (q 1, .inl (Y.2.2.1, 32, .inl (fun _ => 0))), (q 2, .inl (Y.2.2.1, 36, .inl (fun _ => 0))), (q 3, .inl (Y.2.2.1, 10, .inl (fun _ => 0))), (q 4, .inl (Y.2.2.1, 6, .inl (fun _ => 0))), (q 5, .inl (Y.2.2.1, 3, .inl (fun _ => 0))), (q 6, .inl (Y.2.2.1, 8, .inl (fun _ => 0))), (q 7, .inl (Y.2.2.1, 360, .inl (fun _ => 0))), (q 8, .inl (Y.2.2.2, 2, .inl (fun _ => 0))), (q 9, .inl (Y.2.2.1, 72, .inl (fun _ => 0))), (q 10, .inl (Y.2.2.1, 720, .inl (fun _ => 0))), (q 11, .inl (Y.2.2.1, 2, .inl (fun _ => 0))), (q 12, .inl (Y.2.2.1, 32, .inl (fun _ => 0))), (q 13, .inl (Y.2.2.1, 32, .inl (fun _ => 0))), (q 14, .inl (Y.2.2.1, 33, .inl (fun _ => 0))), (q 15, .inl (Y.2.2.1, 3, .inl (fun _ => 0)))]
set_option maxRecDepth 100000 in
theorem k_X5 (Y : kX) (h0 : Nat)  : kOk Y (yX5_init, cX5_init, 1) (0, 1, 32) h0 5 [] (fun w => ∃ q, w = kwShape Y h0 q) := by
  refine kOk.intro (ls := [.ref h0]) (by decide +kernel) rfl (Nat.le_of_ble_eq_true rfl) rfl (fun sz => ?_)
  refine kr_aload (k := 0) (a := h0) kd_X5_init_0 rfl ?_
  refine kr_obj kd_X5_init_1 kw_196 ?_
  refine kr_aload (k := 0) (a := h0) kd_X5_init_4 rfl ?_
  refine kr_bipush (v := 32) kd_X5_init_5 (by decide) ?_
  refine kr_newa (N := 32) kd_X5_init_7 (by decide) (by decide) (by decide) (Nat.le_of_ble_eq_true rfl) (Nat.le_of_ble_eq_true rfl) (fun a1 => ?_)
  refine kr_put (k := 0) (q := (RX5, TX5, 4)) (t1 := (.array .int)) kd_X5_init_9 rfl (by decide) kw_197 rfl (by decide +kernel) rfl rfl (Nat.le_of_ble_eq_true rfl) ?_
  refine kr_aload (k := 0) (a := h0) kd_X5_init_12 rfl ?_
  refine kr_iconst (v := 0) kd_X5_init_13 (by decide) ?_
  refine kr_put (k := 1) (q := (RX5, TX5, 4)) (t1 := .int) kd_X5_init_14 rfl (by decide) kw_202 rfl (by decide +kernel) rfl rfl (Nat.le_of_ble_eq_true rfl) ?_
  refine kr_aload (k := 0) (a := h0) kd_X5_init_17 rfl ?_
  refine kr_iconst (v := 0) kd_X5_init_18 (by decide) ?_
  refine kr_put (k := 2) (q := (RX5, TX5, 4)) (t1 := .int) kd_X5_init_19 rfl (by decide) kw_207 rfl (by decide +kernel) rfl rfl (Nat.le_of_ble_eq_true rfl) ?_
  refine kr_aload (k := 0) (a := h0) kd_X5_init_22 rfl ?_
  refine kr_bipush (v := 20) kd_X5_init_23 (by decide) ?_
  refine kr_put (k := 3) (q := (RX5, TX5, 4)) (t1 := .int) kd_X5_init_25 rfl (by decide) kw_211 rfl (by decide +kernel) rfl rfl (Nat.le_of_ble_eq_true rfl) ?_
  exact kr_ret kd_X5_init_28 (⟨_, rfl⟩) (Nat.le_of_ble_eq_true rfl) (Nat.le_of_ble_eq_true rfl)
set_option maxRecDepth 100000 in
theorem k_X2 (Y : kX) (h0 : Nat)  : kOk Y (yX2_init, cX2_init, 1) (0, 3, 30) h0 2 [] (fun w => ∃ q1 q2 q3, w = kwPast Y h0 q1 q2 q3) := by
  refine kOk.intro (ls := [.ref h0]) (by decide +kernel) rfl (Nat.le_of_ble_eq_true rfl) rfl (fun sz => ?_)
  refine kr_aload (k := 0) (a := h0) kd_X2_init_0 rfl ?_
  refine kr_obj kd_X2_init_1 kw_227 ?_
  refine kr_aload (k := 0) (a := h0) kd_X2_init_4 rfl ?_
  refine kr_bipush (v := 10) kd_X2_init_5 (by decide) ?_
  refine kr_newa (N := 10) kd_X2_init_7 (by decide) (by decide) (by decide) (Nat.le_of_ble_eq_true rfl) (Nat.le_of_ble_eq_true rfl) (fun a1 => ?_)
  refine kr_put (k := 0) (q := (RX2, TX2, 4)) (t1 := (.array .int)) kd_X2_init_9 rfl (by decide) kw_228 rfl (by decide +kernel) rfl rfl (Nat.le_of_ble_eq_true rfl) ?_
  refine kr_aload (k := 0) (a := h0) kd_X2_init_12 rfl ?_
  refine kr_bipush (v := 10) kd_X2_init_13 (by decide) ?_
  refine kr_newa (N := 10) kd_X2_init_15 (by decide) (by decide) (by decide) (Nat.le_of_ble_eq_true rfl) (Nat.le_of_ble_eq_true rfl) (fun a2 => ?_)
  refine kr_put (k := 1) (q := (RX2, TX2, 4)) (t1 := (.array .int)) kd_X2_init_17 rfl (by decide) kw_229 rfl (by decide +kernel) rfl rfl (Nat.le_of_ble_eq_true rfl) ?_
  refine kr_aload (k := 0) (a := h0) kd_X2_init_20 rfl ?_
  refine kr_bipush (v := 10) kd_X2_init_21 (by decide) ?_
  refine kr_newa (N := 10) kd_X2_init_23 (by decide) (by decide) (by decide) (Nat.le_of_ble_eq_true rfl) (Nat.le_of_ble_eq_true rfl) (fun a3 => ?_)
  refine kr_put (k := 2) (q := (RX2, TX2, 4)) (t1 := (.array .int)) kd_X2_init_25 rfl (by decide) kw_230 rfl (by decide +kernel) rfl rfl (Nat.le_of_ble_eq_true rfl) ?_
  refine kr_aload (k := 0) (a := h0) kd_X2_init_28 rfl ?_
  refine kr_iconst (v := 0) kd_X2_init_29 (by decide) ?_
  refine kr_put (k := 3) (q := (RX2, TX2, 4)) (t1 := .int) kd_X2_init_30 rfl (by decide) kw_231 rfl (by decide +kernel) rfl rfl (Nat.le_of_ble_eq_true rfl) ?_
  exact kr_ret kd_X2_init_33 (⟨_, _, _, rfl⟩) (Nat.le_of_ble_eq_true rfl) (Nat.le_of_ble_eq_true rfl)
set_option maxRecDepth 100000 in
theorem k_X0 (Y : kX) (h0 : Nat)  : kOk Y (yX0_init, cX0_init, 1) (1, 6, 70) h0 0 [] (fun w => ∃ s s1 p p1 p2 p3, w = kwImage Y h0 s s1 p p1 p2 p3) := by
  refine kOk.intro (ls := [.ref h0]) (by decide +kernel) rfl (Nat.le_of_ble_eq_true rfl) rfl (fun sz => ?_)
  refine kr_aload (k := 0) (a := h0) kd_X0_init_0 rfl ?_
  refine kr_obj kd_X0_init_1 kw_190 ?_
  refine kr_aload (k := 0) (a := h0) kd_X0_init_4 rfl ?_
  refine kr_new (ci2 := 5) kd_X0_init_5 kcf_5 kw_191 (Nat.le_of_ble_eq_true rfl) (Nat.le_of_ble_eq_true rfl) (fun a1 => ?_)
  refine kr_dup kd_X0_init_8 ?_
  refine kr_callN (As := []) (st := [.ref a1, .ref h0]) (k_X5 Y a1) kw_195 kw_58 (List.mem_of_getElem? (i := 2) rfl) kw_194 rfl ⟨by decide +kernel, by decide +kernel, (show (parseMethodDescriptor yX5_init.desc).map (fun d => d.parameters.length) = some 0 by decide +kernel)⟩ (by decide) (by decide) (Nat.le_of_ble_eq_true rfl) (Nat.le_of_ble_eq_true rfl) (Nat.le_of_ble_eq_true rfl) kd_X0_init_9 (fun w1 hw1 => ?_)
  obtain ⟨s1, rfl⟩ := hw1
  refine kr_put (k := 0) (q := (RX0, TX0, 3)) (t1 := (.object "JumpLengths$Shape")) kd_X0_init_12 rfl (by decide) kw_242 rfl (by decide +kernel) rfl rfl (Nat.le_of_ble_eq_true rfl) ?_
  refine kr_aload (k := 0) (a := h0) kd_X0_init_15 rfl ?_
  refine kr_new (ci2 := 2) kd_X0_init_16 kcf_2 kw_222 (Nat.le_of_ble_eq_true rfl) (Nat.le_of_ble_eq_true rfl) (fun a2 => ?_)
  refine kr_dup kd_X0_init_19 ?_
  refine kr_callN (As := []) (st := [.ref a2, .ref h0]) (k_X2 Y a2) kw_226 kw_59 (List.mem_of_getElem? (i := 3) rfl) kw_225 rfl ⟨by decide +kernel, by decide +kernel, (show (parseMethodDescriptor yX2_init.desc).map (fun d => d.parameters.length) = some 0 by decide +kernel)⟩ (by decide) (by decide) (Nat.le_of_ble_eq_true rfl) (Nat.le_of_ble_eq_true rfl) (Nat.le_of_ble_eq_true rfl) kd_X0_init_20 (fun w2 hw2 => ?_)
  obtain ⟨p1, p2, p3, rfl⟩ := hw2
  refine kr_put (k := 1) (q := (RX0, TX0, 3)) (t1 := (.object "JumpLengths$Past")) kd_X0_init_23 rfl (by decide) kw_244 rfl (by decide +kernel) rfl rfl (Nat.le_of_ble_eq_true rfl) ?_
  refine kr_aload (k := 0) (a := h0) kd_X0_init_26 rfl ?_
  refine kr_iconst (v := 0) kd_X0_init_27 (by decide) ?_
  refine kr_put (k := 2) (q := (RX0, TX0, 3)) (t1 := .boolean) kd_X0_init_28 rfl (by decide) kw_246 rfl (by decide +kernel) rfl rfl (Nat.le_of_ble_eq_true rfl) ?_
  exact kr_ret kd_X0_init_31 (⟨_, _, _, _, _, _, rfl⟩) (Nat.le_of_ble_eq_true rfl) (Nat.le_of_ble_eq_true rfl)
set_option maxRecDepth 100000 in
theorem k_X6 (Y : kX) (h0 : Nat)  : kOk Y (yX6_init, cX6_init, 1) (0, 1, 150) h0 6 [] (fun w => ∃ q, w = kwTokens Y h0 q) := by
  refine kOk.intro (ls := [.ref h0]) (by decide +kernel) rfl (Nat.le_of_ble_eq_true rfl) rfl (fun sz => ?_)
  refine kr_aload (k := 0) (a := h0) kd_X6_init_0 rfl ?_
  refine kr_obj kd_X6_init_1 kw_79 ?_
  refine kr_aload (k := 0) (a := h0) kd_X6_init_4 rfl ?_
  refine kr_sipush (v := 150) kd_X6_init_5 (by decide) ?_
  refine kr_newa (N := 150) kd_X6_init_8 (by decide) (by decide) (by decide) (Nat.le_of_ble_eq_true rfl) (Nat.le_of_ble_eq_true rfl) (fun a1 => ?_)
  refine kr_put (k := 0) (q := (RX6, TX6, 6)) (t1 := (.array .int)) kd_X6_init_10 rfl (by decide) kw_80 rfl (by decide +kernel) rfl rfl (Nat.le_of_ble_eq_true rfl) ?_
  refine kr_aload (k := 0) (a := h0) kd_X6_init_13 rfl ?_
  refine kr_iconst (v := 0) kd_X6_init_14 (by decide) ?_
  refine kr_put (k := 1) (q := (RX6, TX6, 6)) (t1 := .int) kd_X6_init_15 rfl (by decide) kw_81 rfl (by decide +kernel) rfl rfl (Nat.le_of_ble_eq_true rfl) ?_
  refine kr_aload (k := 0) (a := h0) kd_X6_init_18 rfl ?_
  refine kr_iconst (v := 0) kd_X6_init_19 (by decide) ?_
  refine kr_put (k := 2) (q := (RX6, TX6, 6)) (t1 := .int) kd_X6_init_20 rfl (by decide) kw_84 rfl (by decide +kernel) rfl rfl (Nat.le_of_ble_eq_true rfl) ?_
  refine kr_aload (k := 0) (a := h0) kd_X6_init_23 rfl ?_
  refine kr_iconst (v := 0) kd_X6_init_24 (by decide) ?_
  refine kr_put (k := 3) (q := (RX6, TX6, 6)) (t1 := .int) kd_X6_init_25 rfl (by decide) kw_86 rfl (by decide +kernel) rfl rfl (Nat.le_of_ble_eq_true rfl) ?_
  refine kr_aload (k := 0) (a := h0) kd_X6_init_28 rfl ?_
  refine kr_iconst (v := 0) kd_X6_init_29 (by decide) ?_
  refine kr_put (k := 4) (q := (RX6, TX6, 6)) (t1 := .int) kd_X6_init_30 rfl (by decide) kw_88 rfl (by decide +kernel) rfl rfl (Nat.le_of_ble_eq_true rfl) ?_
  refine kr_aload (k := 0) (a := h0) kd_X6_init_33 rfl ?_
  refine kr_iconst (v := 0) kd_X6_init_34 (by decide) ?_
  refine kr_put (k := 5) (q := (RX6, TX6, 6)) (t1 := .int) kd_X6_init_35 rfl (by decide) kw_89 rfl (by decide +kernel) rfl rfl (Nat.le_of_ble_eq_true rfl) ?_
  exact kr_ret kd_X6_init_38 (⟨_, rfl⟩) (Nat.le_of_ble_eq_true rfl) (Nat.le_of_ble_eq_true rfl)
set_option maxRecDepth 100000 in
theorem k_X1 (Y : kX) (h0 : Nat) (pr : Nat) : kOk Y (yX1_init, cX1_init, 2) (0, 1, 33) h0 1 [.ref pr] (fun w => ∃ q, w = kwLayout Y h0 pr q) := by
  refine kOk.intro (ls := [.ref h0, .ref pr]) (by decide +kernel) rfl (Nat.le_of_ble_eq_true rfl) rfl (fun sz => ?_)
  refine kr_aload (k := 0) (a := h0) kd_X1_init_0 rfl ?_
  refine kr_obj kd_X1_init_1 kw_260 ?_
  refine kr_aload (k := 0) (a := h0) kd_X1_init_4 rfl ?_
  refine kr_bipush (v := 33) kd_X1_init_5 (by decide) ?_
  refine kr_newa (N := 33) kd_X1_init_7 (by decide) (by decide) (by decide) (Nat.le_of_ble_eq_true rfl) (Nat.le_of_ble_eq_true rfl) (fun a1 => ?_)
  refine kr_put (k := 1) (q := (RX1, TX1, 4)) (t1 := (.array .int)) kd_X1_init_9 rfl (by decide) kw_262 rfl (by decide +kernel) rfl rfl (Nat.le_of_ble_eq_true rfl) ?_
  refine kr_aload (k := 0) (a := h0) kd_X1_init_12 rfl ?_
  refine kr_iconst (v := 0) kd_X1_init_13 (by decide) ?_
  refine kr_put (k := 2) (q := (RX1, TX1, 4)) (t1 := .int) kd_X1_init_14 rfl (by decide) kw_264 rfl (by decide +kernel) rfl rfl (Nat.le_of_ble_eq_true rfl) ?_
  refine kr_aload (k := 0) (a := h0) kd_X1_init_17 rfl ?_
  refine kr_iconst (v := 0) kd_X1_init_18 (by decide) ?_
  refine kr_put (k := 3) (q := (RX1, TX1, 4)) (t1 := .int) kd_X1_init_19 rfl (by decide) kw_267 rfl (by decide +kernel) rfl rfl (Nat.le_of_ble_eq_true rfl) ?_
  refine kr_aload (k := 0) (a := h0) kd_X1_init_22 rfl ?_
  refine kr_aload (k := 1) (a := pr) kd_X1_init_23 rfl ?_
  refine kr_put (k := 0) (q := (RX1, TX1, 4)) (t1 := (.object "JumpLengths$Program")) kd_X1_init_24 rfl (by decide) kw_261 rfl (by decide +kernel) rfl rfl (Nat.le_of_ble_eq_true rfl) ?_
  exact kr_ret kd_X1_init_27 (⟨_, rfl⟩) (Nat.le_of_ble_eq_true rfl) (Nat.le_of_ble_eq_true rfl)
set_option maxRecDepth 100000 in
theorem k_X4 (Y : kX) (h0 : Nat) (pr : Nat) : kOk Y (yX4_init, cX4_init, 2) (1, 5, 79) h0 4 [.ref pr] (fun w => ∃ s s1 f l l1, w = kwSearch Y h0 pr s s1 f l l1) := by
  refine kOk.intro (ls := [.ref h0, .ref pr]) (by decide +kernel) rfl (Nat.le_of_ble_eq_true rfl) rfl (fun sz => ?_)
  refine kr_aload (k := 0) (a := h0) kd_X4_init_0 rfl ?_
  refine kr_obj kd_X4_init_1 kw_283 ?_
  refine kr_aload (k := 0) (a := h0) kd_X4_init_4 rfl ?_
  refine kr_new (ci2 := 5) kd_X4_init_5 kcf_5 kw_284 (Nat.le_of_ble_eq_true rfl) (Nat.le_of_ble_eq_true rfl) (fun a1 => ?_)
  refine kr_dup kd_X4_init_8 ?_
  refine kr_callN (As := []) (st := [.ref a1, .ref h0]) (k_X5 Y a1) kw_195 kw_58 (List.mem_of_getElem? (i := 4) rfl) kw_194 rfl ⟨by decide +kernel, by decide +kernel, (show (parseMethodDescriptor yX5_init.desc).map (fun d => d.parameters.length) = some 0 by decide +kernel)⟩ (by decide) (by decide) (Nat.le_of_ble_eq_true rfl) (Nat.le_of_ble_eq_true rfl) (Nat.le_of_ble_eq_true rfl) kd_X4_init_9 (fun w1 hw1 => ?_)
  obtain ⟨s1, rfl⟩ := hw1
  refine kr_put (k := 1) (q := (RX4, TX4, 5)) (t1 := (.object "JumpLengths$Shape")) kd_X4_init_12 rfl (by decide) kw_289 rfl (by decide +kernel) rfl rfl (Nat.le_of_ble_eq_true rfl) ?_
  refine kr_aload (k := 0) (a := h0) kd_X4_init_15 rfl ?_
  refine kr_bipush (v := 6) kd_X4_init_16 (by decide) ?_
  refine kr_newa (N := 6) kd_X4_init_18 (by decide) (by decide) (by decide) (Nat.le_of_ble_eq_true rfl) (Nat.le_of_ble_eq_true rfl) (fun a2 => ?_)
  refine kr_put (k := 3) (q := (RX4, TX4, 5)) (t1 := (.array .int)) kd_X4_init_20 rfl (by decide) kw_291 rfl (by decide +kernel) rfl rfl (Nat.le_of_ble_eq_true rfl) ?_
  refine kr_aload (k := 0) (a := h0) kd_X4_init_23 rfl ?_
  refine kr_iconst (v := (-1)) kd_X4_init_24 (by decide) ?_
  refine kr_put (k := 4) (q := (RX4, TX4, 5)) (t1 := .int) kd_X4_init_25 rfl (by decide) kw_292 rfl (by decide +kernel) rfl rfl (Nat.le_of_ble_eq_true rfl) ?_
  refine kr_aload (k := 0) (a := h0) kd_X4_init_28 rfl ?_
  refine kr_aload (k := 1) (a := pr) kd_X4_init_29 rfl ?_
  refine kr_put (k := 0) (q := (RX4, TX4, 5)) (t1 := (.object "JumpLengths$Program")) kd_X4_init_30 rfl (by decide) kw_288 rfl (by decide +kernel) rfl rfl (Nat.le_of_ble_eq_true rfl) ?_
  refine kr_aload (k := 0) (a := h0) kd_X4_init_33 rfl ?_
  refine kr_new (ci2 := 1) kd_X4_init_34 kcf_1 kw_286 (Nat.le_of_ble_eq_true rfl) (Nat.le_of_ble_eq_true rfl) (fun a3 => ?_)
  refine kr_dup kd_X4_init_37 ?_
  refine kr_aload (k := 1) (a := pr) kd_X4_init_38 rfl ?_
  refine kr_call (As := [.ref pr]) (st := [.ref a3, .ref h0]) (k_X1 Y a3 pr) kw_259 kw_60 kw_287 kw_258 rfl ⟨by decide +kernel, by decide +kernel, (show (parseMethodDescriptor yX1_init.desc).map (fun d => d.parameters.length) = some 1 by decide +kernel)⟩ (by decide) (by decide) (Nat.le_of_ble_eq_true rfl) (Nat.le_of_ble_eq_true rfl) (Nat.le_of_ble_eq_true rfl) kd_X4_init_39 (fun w2 hw2 => ?_)
  obtain ⟨l1, rfl⟩ := hw2
  refine kr_put (k := 2) (q := (RX4, TX4, 5)) (t1 := (.object "JumpLengths$Layout")) kd_X4_init_42 rfl (by decide) kw_290 rfl (by decide +kernel) rfl rfl (Nat.le_of_ble_eq_true rfl) ?_
  exact kr_ret kd_X4_init_45 (⟨_, _, _, _, _, rfl⟩) (Nat.le_of_ble_eq_true rfl) (Nat.le_of_ble_eq_true rfl)
