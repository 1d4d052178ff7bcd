/-! a program is made (printed by gen69.py) -/
set_option maxRecDepth 100000 in
theorem kw_111 : (.methodLink RX3 55 yX3_empty : Cond) ∈ jTb := jtb (i := 111) (by decide +kernel) rfl
set_option maxRecDepth 100000 in
theorem k_X3 (Y : kX) (h0 : Nat)  : kOk Y (yX3_init, cX3_init, 1) (1, 8, 155) h0 3 [] (fun w => ∃ ad M, ad 0 = h0 ∧ kPf M ∧ w = kwProg Y ad M) := by
  refine kOk.intro (ls := [.ref h0]) (by decide +kernel) rfl (Nat.le_of_ble_eq_true rfl) rfl (fun sz => ?_)
  refine kr_fs (fs' := [.null, .null, .null, .null, .null, .null, .null, .null, .int 0, .int 0, .int 0, .int 0, .int 0, .int 0]) rfl rfl ?_
  refine kr_aload (k := 0) (a := h0) kd_X3_init_0 rfl ?_
  refine kr_obj kd_X3_init_1 kw_110 ?_
  refine kr_aload (k := 0) (a := h0) kd_X3_init_4 rfl ?_
  refine kr_bipush (v := 32) kd_X3_init_5 (by decide) ?_
  refine kr_newa (N := 32) kd_X3_init_7 (by decide) (by decide) (by decide) (Nat.le_of_ble_eq_true rfl) (Nat.le_of_ble_eq_true rfl) (fun a1 => ?_)
  refine kr_put (k := 0) (q := (RX3, TX3, 14)) (t1 := (.array .int)) kd_X3_init_9 rfl (by decide) kw_115 rfl (by decide +kernel) rfl rfl (Nat.le_of_ble_eq_true rfl) ?_
  refine kr_fs (fs' := [.ref a1, .null, .null, .null, .null, .null, .null, .null, .int 0, .int 0, .int 0, .int 0, .int 0, .int 0]) rfl rfl ?_
  refine kr_aload (k := 0) (a := h0) kd_X3_init_12 rfl ?_
  refine kr_bipush (v := 32) kd_X3_init_13 (by decide) ?_
  refine kr_newa (N := 32) kd_X3_init_15 (by decide) (by decide) (by decide) (Nat.le_of_ble_eq_true rfl) (Nat.le_of_ble_eq_true rfl) (fun a2 => ?_)
  refine kr_put (k := 1) (q := (RX3, TX3, 14)) (t1 := (.array .int)) kd_X3_init_17 rfl (by decide) kw_119 rfl (by decide +kernel) rfl rfl (Nat.le_of_ble_eq_true rfl) ?_
  refine kr_fs (fs' := [.ref a1, .ref a2, .null, .null, .null, .null, .null, .null, .int 0, .int 0, .int 0, .int 0, .int 0, .int 0]) rfl rfl ?_
  refine kr_aload (k := 0) (a := h0) kd_X3_init_20 rfl ?_
  refine kr_bipush (v := 32) kd_X3_init_21 (by decide) ?_
  refine kr_newa (N := 32) kd_X3_init_23 (by decide) (by decide) (by decide) (Nat.le_of_ble_eq_true rfl) (Nat.le_of_ble_eq_true rfl) (fun a3 => ?_)
  refine kr_put (k := 2) (q := (RX3, TX3, 14)) (t1 := (.array .int)) kd_X3_init_25 rfl (by decide) kw_123 rfl (by decide +kernel) rfl rfl (Nat.le_of_ble_eq_true rfl) ?_
  refine kr_fs (fs' := [.ref a1, .ref a2, .ref a3, .null, .null, .null, .null, .null, .int 0, .int 0, .int 0, .int 0, .int 0, .int 0]) rfl rfl ?_
  refine kr_aload (k := 0) (a := h0) kd_X3_init_28 rfl ?_
  refine kr_bipush (v := 32) kd_X3_init_29 (by decide) ?_
  refine kr_newa (N := 32) kd_X3_init_31 (by decide) (by decide) (by decide) (Nat.le_of_ble_eq_true rfl) (Nat.le_of_ble_eq_true rfl) (fun a4 => ?_)
  refine kr_put (k := 3) (q := (RX3, TX3, 14)) (t1 := (.array .int)) kd_X3_init_33 rfl (by decide) kw_126 rfl (by decide +kernel) rfl rfl (Nat.le_of_ble_eq_true rfl) ?_
  refine kr_fs (fs' := [.ref a1, .ref a2, .ref a3, .ref a4, .null, .null, .null, .null, .int 0, .int 0, .int 0, .int 0, .int 0, .int 0]) rfl rfl ?_
  refine kr_aload (k := 0) (a := h0) kd_X3_init_36 rfl ?_
  refine kr_bipush (v := 8) kd_X3_init_37 (by decide) ?_
  refine kr_newa (N := 8) kd_X3_init_39 (by decide) (by decide) (by decide) (Nat.le_of_ble_eq_true rfl) (Nat.le_of_ble_eq_true rfl) (fun a5 => ?_)
  refine kr_put (k := 4) (q := (RX3, TX3, 14)) (t1 := (.array .int)) kd_X3_init_41 rfl (by decide) kw_128 rfl (by decide +kernel) rfl rfl (Nat.le_of_ble_eq_true rfl) ?_
  refine kr_fs (fs' := [.ref a1, .ref a2, .ref a3, .ref a4, .ref a5, .null, .null, .null, .int 0, .int 0, .int 0, .int 0, .int 0, .int 0]) rfl rfl ?_
  refine kr_aload (k := 0) (a := h0) kd_X3_init_44 rfl ?_
  refine kr_bipush (v := 10) kd_X3_init_45 (by decide) ?_
  refine kr_newa (N := 10) kd_X3_init_47 (by decide) (by decide) (by decide) (Nat.le_of_ble_eq_true rfl) (Nat.le_of_ble_eq_true rfl) (fun a6 => ?_)
  refine kr_put (k := 5) (q := (RX3, TX3, 14)) (t1 := (.array .int)) kd_X3_init_49 rfl (by decide) kw_130 rfl (by decide +kernel) rfl rfl (Nat.le_of_ble_eq_true rfl) ?_
  refine kr_fs (fs' := [.ref a1, .ref a2, .ref a3, .ref a4, .ref a5, .ref a6, .null, .null, .int 0, .int 0, .int 0, .int 0, .int 0, .int 0]) rfl rfl ?_
  refine kr_aload (k := 0) (a := h0) kd_X3_init_52 rfl ?_
  refine kr_bipush (v := 6) kd_X3_init_53 (by decide) ?_
  refine kr_newa (N := 6) kd_X3_init_55 (by decide) (by decide) (by decide) (Nat.le_of_ble_eq_true rfl) (Nat.le_of_ble_eq_true rfl) (fun a7 => ?_)
  refine kr_put (k := 6) (q := (RX3, TX3, 14)) (t1 := (.array .int)) kd_X3_init_57 rfl (by decide) kw_132 rfl (by decide +kernel) rfl rfl (Nat.le_of_ble_eq_true rfl) ?_
  refine kr_fs (fs' := [.ref a1, .ref a2, .ref a3, .ref a4, .ref a5, .ref a6, .ref a7, .null, .int 0, .int 0, .int 0, .int 0, .int 0, .int 0]) rfl rfl ?_
  refine kr_aload (k := 0) (a := h0) kd_X3_init_60 rfl ?_
  refine kr_iconst (v := 3) kd_X3_init_61 (by decide) ?_
  refine kr_newa (N := 3) kd_X3_init_62 (by decide) (by decide) (by decide) (Nat.le_of_ble_eq_true rfl) (Nat.le_of_ble_eq_true rfl) (fun a8 => ?_)
  refine kr_put (k := 7) (q := (RX3, TX3, 14)) (t1 := (.array .int)) kd_X3_init_64 rfl (by decide) kw_134 rfl (by decide +kernel) rfl rfl (Nat.le_of_ble_eq_true rfl) ?_
  refine kr_fs (fs' := [.ref a1, .ref a2, .ref a3, .ref a4, .ref a5, .ref a6, .ref a7, .ref a8, .int 0, .int 0, .int 0, .int 0, .int 0, .int 0]) rfl rfl ?_
  refine kr_aload (k := 0) (a := h0) kd_X3_init_67 rfl ?_
  refine kr_iconst (v := 0) kd_X3_init_68 (by decide) ?_
  refine kr_put (k := 8) (q := (RX3, TX3, 14)) (t1 := .int) kd_X3_init_69 rfl (by decide) kw_136 rfl (by decide +kernel) rfl rfl (Nat.le_of_ble_eq_true rfl) ?_
  refine kr_fs (fs' := [.ref a1, .ref a2, .ref a3, .ref a4, .ref a5, .ref a6, .ref a7, .ref a8, .int 0, .int 0, .int 0, .int 0, .int 0, .int 0]) rfl rfl ?_
  refine kr_aload (k := 0) (a := h0) kd_X3_init_72 rfl ?_
  refine kr_iconst (v := 0) kd_X3_init_73 (by decide) ?_
  refine kr_put (k := 9) (q := (RX3, TX3, 14)) (t1 := .int) kd_X3_init_74 rfl (by decide) kw_140 rfl (by decide +kernel) rfl rfl (Nat.le_of_ble_eq_true rfl) ?_
  refine kr_fs (fs' := [.ref a1, .ref a2, .ref a3, .ref a4, .ref a5, .ref a6, .ref a7, .ref a8, .int 0, .int 0, .int 0, .int 0, .int 0, .int 0]) rfl rfl ?_
  refine kr_aload (k := 0) (a := h0) kd_X3_init_77 rfl ?_
  refine kr_iconst (v := 0) kd_X3_init_78 (by decide) ?_
  refine kr_put (k := 10) (q := (RX3, TX3, 14)) (t1 := .int) kd_X3_init_79 rfl (by decide) kw_143 rfl (by decide +kernel) rfl rfl (Nat.le_of_ble_eq_true rfl) ?_
  refine kr_fs (fs' := [.ref a1, .ref a2, .ref a3, .ref a4, .ref a5, .ref a6, .ref a7, .ref a8, .int 0, .int 0, .int 0, .int 0, .int 0, .int 0]) rfl rfl ?_
  refine kr_aload (k := 0) (a := h0) kd_X3_init_82 rfl ?_
  refine kr_iconst (v := 0) kd_X3_init_83 (by decide) ?_
  refine kr_put (k := 11) (q := (RX3, TX3, 14)) (t1 := .int) kd_X3_init_84 rfl (by decide) kw_146 rfl (by decide +kernel) rfl rfl (Nat.le_of_ble_eq_true rfl) ?_
  refine kr_fs (fs' := [.ref a1, .ref a2, .ref a3, .ref a4, .ref a5, .ref a6, .ref a7, .ref a8, .int 0, .int 0, .int 0, .int 0, .int 0, .int 0]) rfl rfl ?_
  refine kr_aload (k := 0) (a := h0) kd_X3_init_87 rfl ?_
  refine kr_iconst (v := 0) kd_X3_init_88 (by decide) ?_
  refine kr_put (k := 12) (q := (RX3, TX3, 14)) (t1 := .int) kd_X3_init_89 rfl (by decide) kw_149 rfl (by decide +kernel) rfl rfl (Nat.le_of_ble_eq_true rfl) ?_
  refine kr_fs (fs' := [.ref a1, .ref a2, .ref a3, .ref a4, .ref a5, .ref a6, .ref a7, .ref a8, .int 0, .int 0, .int 0, .int 0, .int 0, .int 0]) rfl rfl ?_
  refine kr_aload (k := 0) (a := h0) kd_X3_init_92 rfl ?_
  refine kr_bipush (v := 20) kd_X3_init_93 (by decide) ?_
  refine kr_put (k := 13) (q := (RX3, TX3, 14)) (t1 := .int) kd_X3_init_95 rfl (by decide) kw_153 rfl (by decide +kernel) rfl rfl (Nat.le_of_ble_eq_true rfl) ?_
  refine kr_fs (fs' := [.ref a1, .ref a2, .ref a3, .ref a4, .ref a5, .ref a6, .ref a7, .ref a8, .int 0, .int 0, .int 0, .int 0, .int 0, .int 20]) rfl rfl ?_
  refine kr_aload (k := 0) (a := h0) kd_X3_init_98 rfl ?_
  refine kr_jret (T := TP) (ad := (fun i => [h0, a1, a2, a3, a4, a5, a6, a7, a8].getD i 0)) (M := kMp) (f := q_X3_empty) (i := 0) (oc := 3) (d2 := 0) (As := []) (wr := []) (Q1 := fun v M1 => v = none ∧ kPf M1) (w' := fun M1 => kwProg Y (fun i => [h0, a1, a2, a3, a4, a5, a6, a7, a8].getD i 0) M1) [0, 1, 2, 3, 4, 5, 6, 7, 8] [] [0, 1, 2, 3, 4, 5, 6, 7, 8] (fun hI => sp_emptyP hI (fun M' _ g1 g2 g3 => ⟨rfl, g1, g2, g3⟩)) (jTl (by decide)) rfl rfl rfl rfl kw_111 (by decide) rfl rfl rfl (by decide) (by decide) (by decide) kd_X3_init_99 kd_X3_init_102 (Nat.le_of_ble_eq_true rfl) (Nat.le_of_ble_eq_true rfl) (fun v M1 h1 => ⟨h1.1, by decide, rfl, ⟨(fun i => [h0, a1, a2, a3, a4, a5, a6, a7, a8].getD i 0), M1, rfl, h1.2, rfl⟩⟩)
