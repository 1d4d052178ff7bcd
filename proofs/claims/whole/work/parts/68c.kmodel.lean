/-! the reference is made (printed by gen68.py) -/
set_option maxRecDepth 100000 in
theorem k_X8 (Y : kX) (h0 : Nat)  : kOk Y (yX8_init, cX8_init, 1) (0, 16, 1501) h0 8 [] (fun w => ∃ q, w = kwModel Y h0 q) := by
  refine kOk.intro (ls := [.ref h0]) (by decide +kernel) rfl (Nat.le_of_ble_eq_true rfl) rfl (fun sz => ?_)
  refine kr_fs (fs' := [.int 0, .null, .int 0, .int 0, .int 0, .int 0, .int 0, .int 0, .int 0, .null, .null, .null, .int 0, .null, .int 0, .null, .int 0, .null, .int 0, .null, .int 0, .null, .null, .null, .null, .null, .null, .int 0, .int 0, .null, .int 0, .int 0, .null]) rfl rfl ?_
  refine kr_aload (k := 0) (a := h0) kd_X8_init_0 rfl ?_
  refine kr_obj kd_X8_init_1 kw_724 ?_
  refine kr_aload (k := 0) (a := h0) kd_X8_init_4 rfl ?_
  refine kr_sipush (v := 150) kd_X8_init_5 (by decide) ?_
  refine kr_newa (N := 150) kd_X8_init_8 (by decide) (by decide) (by decide) (Nat.le_of_ble_eq_true rfl) (Nat.le_of_ble_eq_true rfl) (fun a1 => ?_)
  refine kr_put (k := 1) (q := (RX8, TX8, 33)) (t1 := (.array .int)) kd_X8_init_10 rfl (by decide) kw_726 rfl (by decide +kernel) rfl rfl (Nat.le_of_ble_eq_true rfl) ?_
  refine kr_fs (fs' := [.int 0, .ref a1, .int 0, .int 0, .int 0, .int 0, .int 0, .int 0, .int 0, .null, .null, .null, .int 0, .null, .int 0, .null, .int 0, .null, .int 0, .null, .int 0, .null, .null, .null, .null, .null, .null, .int 0, .int 0, .null, .int 0, .int 0, .null]) rfl rfl ?_
  refine kr_aload (k := 0) (a := h0) kd_X8_init_13 rfl ?_
  refine kr_bipush (v := 20) kd_X8_init_14 (by decide) ?_
  refine kr_put (k := 8) (q := (RX8, TX8, 33)) (t1 := .int) kd_X8_init_16 rfl (by decide) kw_733 rfl (by decide +kernel) rfl rfl (Nat.le_of_ble_eq_true rfl) ?_
  refine kr_fs (fs' := [.int 0, .ref a1, .int 0, .int 0, .int 0, .int 0, .int 0, .int 0, .int 20, .null, .null, .null, .int 0, .null, .int 0, .null, .int 0, .null, .int 0, .null, .int 0, .null, .null, .null, .null, .null, .null, .int 0, .int 0, .null, .int 0, .int 0, .null]) rfl rfl ?_
  refine kr_aload (k := 0) (a := h0) kd_X8_init_19 rfl ?_
  refine kr_bipush (v := 32) kd_X8_init_20 (by decide) ?_
  refine kr_newa (N := 32) kd_X8_init_22 (by decide) (by decide) (by decide) (Nat.le_of_ble_eq_true rfl) (Nat.le_of_ble_eq_true rfl) (fun a2 => ?_)
  refine kr_put (k := 9) (q := (RX8, TX8, 33)) (t1 := (.array .int)) kd_X8_init_24 rfl (by decide) kw_734 rfl (by decide +kernel) rfl rfl (Nat.le_of_ble_eq_true rfl) ?_
  refine kr_fs (fs' := [.int 0, .ref a1, .int 0, .int 0, .int 0, .int 0, .int 0, .int 0, .int 20, .ref a2, .null, .null, .int 0, .null, .int 0, .null, .int 0, .null, .int 0, .null, .int 0, .null, .null, .null, .null, .null, .null, .int 0, .int 0, .null, .int 0, .int 0, .null]) rfl rfl ?_
  refine kr_aload (k := 0) (a := h0) kd_X8_init_27 rfl ?_
  refine kr_bipush (v := 36) kd_X8_init_28 (by decide) ?_
  refine kr_newa (N := 36) kd_X8_init_30 (by decide) (by decide) (by decide) (Nat.le_of_ble_eq_true rfl) (Nat.le_of_ble_eq_true rfl) (fun a3 => ?_)
  refine kr_put (k := 10) (q := (RX8, TX8, 33)) (t1 := (.array .int)) kd_X8_init_32 rfl (by decide) kw_735 rfl (by decide +kernel) rfl rfl (Nat.le_of_ble_eq_true rfl) ?_
  refine kr_fs (fs' := [.int 0, .ref a1, .int 0, .int 0, .int 0, .int 0, .int 0, .int 0, .int 20, .ref a2, .ref a3, .null, .int 0, .null, .int 0, .null, .int 0, .null, .int 0, .null, .int 0, .null, .null, .null, .null, .null, .null, .int 0, .int 0, .null, .int 0, .int 0, .null]) rfl rfl ?_
  refine kr_aload (k := 0) (a := h0) kd_X8_init_35 rfl ?_
  refine kr_bipush (v := 10) kd_X8_init_36 (by decide) ?_
  refine kr_newa (N := 10) kd_X8_init_38 (by decide) (by decide) (by decide) (Nat.le_of_ble_eq_true rfl) (Nat.le_of_ble_eq_true rfl) (fun a4 => ?_)
  refine kr_put (k := 11) (q := (RX8, TX8, 33)) (t1 := (.array .int)) kd_X8_init_40 rfl (by decide) kw_736 rfl (by decide +kernel) rfl rfl (Nat.le_of_ble_eq_true rfl) ?_
  refine kr_fs (fs' := [.int 0, .ref a1, .int 0, .int 0, .int 0, .int 0, .int 0, .int 0, .int 20, .ref a2, .ref a3, .ref a4, .int 0, .null, .int 0, .null, .int 0, .null, .int 0, .null, .int 0, .null, .null, .null, .null, .null, .null, .int 0, .int 0, .null, .int 0, .int 0, .null]) rfl rfl ?_
  refine kr_aload (k := 0) (a := h0) kd_X8_init_43 rfl ?_
  refine kr_bipush (v := 6) kd_X8_init_44 (by decide) ?_
  refine kr_newa (N := 6) kd_X8_init_46 (by decide) (by decide) (by decide) (Nat.le_of_ble_eq_true rfl) (Nat.le_of_ble_eq_true rfl) (fun a5 => ?_)
  refine kr_put (k := 13) (q := (RX8, TX8, 33)) (t1 := (.array .int)) kd_X8_init_48 rfl (by decide) kw_738 rfl (by decide +kernel) rfl rfl (Nat.le_of_ble_eq_true rfl) ?_
  refine kr_fs (fs' := [.int 0, .ref a1, .int 0, .int 0, .int 0, .int 0, .int 0, .int 0, .int 20, .ref a2, .ref a3, .ref a4, .int 0, .ref a5, .int 0, .null, .int 0, .null, .int 0, .null, .int 0, .null, .null, .null, .null, .null, .null, .int 0, .int 0, .null, .int 0, .int 0, .null]) rfl rfl ?_
  refine kr_aload (k := 0) (a := h0) kd_X8_init_51 rfl ?_
  refine kr_iconst (v := 3) kd_X8_init_52 (by decide) ?_
  refine kr_newa (N := 3) kd_X8_init_53 (by decide) (by decide) (by decide) (Nat.le_of_ble_eq_true rfl) (Nat.le_of_ble_eq_true rfl) (fun a6 => ?_)
  refine kr_put (k := 15) (q := (RX8, TX8, 33)) (t1 := (.array .int)) kd_X8_init_55 rfl (by decide) kw_740 rfl (by decide +kernel) rfl rfl (Nat.le_of_ble_eq_true rfl) ?_
  refine kr_fs (fs' := [.int 0, .ref a1, .int 0, .int 0, .int 0, .int 0, .int 0, .int 0, .int 20, .ref a2, .ref a3, .ref a4, .int 0, .ref a5, .int 0, .ref a6, .int 0, .null, .int 0, .null, .int 0, .null, .null, .null, .null, .null, .null, .int 0, .int 0, .null, .int 0, .int 0, .null]) rfl rfl ?_
  refine kr_aload (k := 0) (a := h0) kd_X8_init_58 rfl ?_
  refine kr_bipush (v := 8) kd_X8_init_59 (by decide) ?_
  refine kr_newa (N := 8) kd_X8_init_61 (by decide) (by decide) (by decide) (Nat.le_of_ble_eq_true rfl) (Nat.le_of_ble_eq_true rfl) (fun a7 => ?_)
  refine kr_put (k := 17) (q := (RX8, TX8, 33)) (t1 := (.array .int)) kd_X8_init_63 rfl (by decide) kw_742 rfl (by decide +kernel) rfl rfl (Nat.le_of_ble_eq_true rfl) ?_
  refine kr_fs (fs' := [.int 0, .ref a1, .int 0, .int 0, .int 0, .int 0, .int 0, .int 0, .int 20, .ref a2, .ref a3, .ref a4, .int 0, .ref a5, .int 0, .ref a6, .int 0, .ref a7, .int 0, .null, .int 0, .null, .null, .null, .null, .null, .null, .int 0, .int 0, .null, .int 0, .int 0, .null]) rfl rfl ?_
  refine kr_aload (k := 0) (a := h0) kd_X8_init_66 rfl ?_
  refine kr_sipush (v := 360) kd_X8_init_67 (by decide) ?_
  refine kr_newa (N := 360) kd_X8_init_70 (by decide) (by decide) (by decide) (Nat.le_of_ble_eq_true rfl) (Nat.le_of_ble_eq_true rfl) (fun a8 => ?_)
  refine kr_put (k := 19) (q := (RX8, TX8, 33)) (t1 := (.array .int)) kd_X8_init_72 rfl (by decide) kw_744 rfl (by decide +kernel) rfl rfl (Nat.le_of_ble_eq_true rfl) ?_
  refine kr_fs (fs' := [.int 0, .ref a1, .int 0, .int 0, .int 0, .int 0, .int 0, .int 0, .int 20, .ref a2, .ref a3, .ref a4, .int 0, .ref a5, .int 0, .ref a6, .int 0, .ref a7, .int 0, .ref a8, .int 0, .null, .null, .null, .null, .null, .null, .int 0, .int 0, .null, .int 0, .int 0, .null]) rfl rfl ?_
  refine kr_aload (k := 0) (a := h0) kd_X8_init_75 rfl ?_
  refine kr_iconst (v := 2) kd_X8_init_76 (by decide) ?_
  refine kr_newz (N := 2) kd_X8_init_77 (by decide) (by decide) (by decide) (Nat.le_of_ble_eq_true rfl) (Nat.le_of_ble_eq_true rfl) (fun a9 => ?_)
  refine kr_put (k := 21) (q := (RX8, TX8, 33)) (t1 := (.array .boolean)) kd_X8_init_79 rfl (by decide) kw_746 rfl (by decide +kernel) rfl rfl (Nat.le_of_ble_eq_true rfl) ?_
  refine kr_fs (fs' := [.int 0, .ref a1, .int 0, .int 0, .int 0, .int 0, .int 0, .int 0, .int 20, .ref a2, .ref a3, .ref a4, .int 0, .ref a5, .int 0, .ref a6, .int 0, .ref a7, .int 0, .ref a8, .int 0, .ref a9, .null, .null, .null, .null, .null, .int 0, .int 0, .null, .int 0, .int 0, .null]) rfl rfl ?_
  refine kr_aload (k := 0) (a := h0) kd_X8_init_82 rfl ?_
  refine kr_bipush (v := 72) kd_X8_init_83 (by decide) ?_
  refine kr_newa (N := 72) kd_X8_init_85 (by decide) (by decide) (by decide) (Nat.le_of_ble_eq_true rfl) (Nat.le_of_ble_eq_true rfl) (fun a10 => ?_)
  refine kr_put (k := 22) (q := (RX8, TX8, 33)) (t1 := (.array .int)) kd_X8_init_87 rfl (by decide) kw_747 rfl (by decide +kernel) rfl rfl (Nat.le_of_ble_eq_true rfl) ?_
  refine kr_fs (fs' := [.int 0, .ref a1, .int 0, .int 0, .int 0, .int 0, .int 0, .int 0, .int 20, .ref a2, .ref a3, .ref a4, .int 0, .ref a5, .int 0, .ref a6, .int 0, .ref a7, .int 0, .ref a8, .int 0, .ref a9, .ref a10, .null, .null, .null, .null, .int 0, .int 0, .null, .int 0, .int 0, .null]) rfl rfl ?_
  refine kr_aload (k := 0) (a := h0) kd_X8_init_90 rfl ?_
  refine kr_sipush (v := 720) kd_X8_init_91 (by decide) ?_
  refine kr_newa (N := 720) kd_X8_init_94 (by decide) (by decide) (by decide) (Nat.le_of_ble_eq_true rfl) (Nat.le_of_ble_eq_true rfl) (fun a11 => ?_)
  refine kr_put (k := 23) (q := (RX8, TX8, 33)) (t1 := (.array .int)) kd_X8_init_96 rfl (by decide) kw_748 rfl (by decide +kernel) rfl rfl (Nat.le_of_ble_eq_true rfl) ?_
  refine kr_fs (fs' := [.int 0, .ref a1, .int 0, .int 0, .int 0, .int 0, .int 0, .int 0, .int 20, .ref a2, .ref a3, .ref a4, .int 0, .ref a5, .int 0, .ref a6, .int 0, .ref a7, .int 0, .ref a8, .int 0, .ref a9, .ref a10, .ref a11, .null, .null, .null, .int 0, .int 0, .null, .int 0, .int 0, .null]) rfl rfl ?_
  refine kr_aload (k := 0) (a := h0) kd_X8_init_99 rfl ?_
  refine kr_iconst (v := 2) kd_X8_init_100 (by decide) ?_
  refine kr_newa (N := 2) kd_X8_init_101 (by decide) (by decide) (by decide) (Nat.le_of_ble_eq_true rfl) (Nat.le_of_ble_eq_true rfl) (fun a12 => ?_)
  refine kr_put (k := 24) (q := (RX8, TX8, 33)) (t1 := (.array .int)) kd_X8_init_103 rfl (by decide) kw_749 rfl (by decide +kernel) rfl rfl (Nat.le_of_ble_eq_true rfl) ?_
  refine kr_fs (fs' := [.int 0, .ref a1, .int 0, .int 0, .int 0, .int 0, .int 0, .int 0, .int 20, .ref a2, .ref a3, .ref a4, .int 0, .ref a5, .int 0, .ref a6, .int 0, .ref a7, .int 0, .ref a8, .int 0, .ref a9, .ref a10, .ref a11, .ref a12, .null, .null, .int 0, .int 0, .null, .int 0, .int 0, .null]) rfl rfl ?_
  refine kr_aload (k := 0) (a := h0) kd_X8_init_106 rfl ?_
  refine kr_bipush (v := 32) kd_X8_init_107 (by decide) ?_
  refine kr_newa (N := 32) kd_X8_init_109 (by decide) (by decide) (by decide) (Nat.le_of_ble_eq_true rfl) (Nat.le_of_ble_eq_true rfl) (fun a13 => ?_)
  refine kr_put (k := 25) (q := (RX8, TX8, 33)) (t1 := (.array .int)) kd_X8_init_111 rfl (by decide) kw_750 rfl (by decide +kernel) rfl rfl (Nat.le_of_ble_eq_true rfl) ?_
  refine kr_fs (fs' := [.int 0, .ref a1, .int 0, .int 0, .int 0, .int 0, .int 0, .int 0, .int 20, .ref a2, .ref a3, .ref a4, .int 0, .ref a5, .int 0, .ref a6, .int 0, .ref a7, .int 0, .ref a8, .int 0, .ref a9, .ref a10, .ref a11, .ref a12, .ref a13, .null, .int 0, .int 0, .null, .int 0, .int 0, .null]) rfl rfl ?_
  refine kr_aload (k := 0) (a := h0) kd_X8_init_114 rfl ?_
  refine kr_bipush (v := 32) kd_X8_init_115 (by decide) ?_
  refine kr_newa (N := 32) kd_X8_init_117 (by decide) (by decide) (by decide) (Nat.le_of_ble_eq_true rfl) (Nat.le_of_ble_eq_true rfl) (fun a14 => ?_)
  refine kr_put (k := 26) (q := (RX8, TX8, 33)) (t1 := (.array .int)) kd_X8_init_119 rfl (by decide) kw_751 rfl (by decide +kernel) rfl rfl (Nat.le_of_ble_eq_true rfl) ?_
  refine kr_fs (fs' := [.int 0, .ref a1, .int 0, .int 0, .int 0, .int 0, .int 0, .int 0, .int 20, .ref a2, .ref a3, .ref a4, .int 0, .ref a5, .int 0, .ref a6, .int 0, .ref a7, .int 0, .ref a8, .int 0, .ref a9, .ref a10, .ref a11, .ref a12, .ref a13, .ref a14, .int 0, .int 0, .null, .int 0, .int 0, .null]) rfl rfl ?_
  refine kr_aload (k := 0) (a := h0) kd_X8_init_122 rfl ?_
  refine kr_bipush (v := 33) kd_X8_init_123 (by decide) ?_
  refine kr_newa (N := 33) kd_X8_init_125 (by decide) (by decide) (by decide) (Nat.le_of_ble_eq_true rfl) (Nat.le_of_ble_eq_true rfl) (fun a15 => ?_)
  refine kr_put (k := 29) (q := (RX8, TX8, 33)) (t1 := (.array .int)) kd_X8_init_127 rfl (by decide) kw_754 rfl (by decide +kernel) rfl rfl (Nat.le_of_ble_eq_true rfl) ?_
  refine kr_fs (fs' := [.int 0, .ref a1, .int 0, .int 0, .int 0, .int 0, .int 0, .int 0, .int 20, .ref a2, .ref a3, .ref a4, .int 0, .ref a5, .int 0, .ref a6, .int 0, .ref a7, .int 0, .ref a8, .int 0, .ref a9, .ref a10, .ref a11, .ref a12, .ref a13, .ref a14, .int 0, .int 0, .ref a15, .int 0, .int 0, .null]) rfl rfl ?_
  refine kr_aload (k := 0) (a := h0) kd_X8_init_130 rfl ?_
  refine kr_iconst (v := 3) kd_X8_init_131 (by decide) ?_
  refine kr_newa (N := 3) kd_X8_init_132 (by decide) (by decide) (by decide) (Nat.le_of_ble_eq_true rfl) (Nat.le_of_ble_eq_true rfl) (fun a16 => ?_)
  refine kr_put (k := 32) (q := (RX8, TX8, 33)) (t1 := (.array .int)) kd_X8_init_134 rfl (by decide) kw_757 rfl (by decide +kernel) rfl rfl (Nat.le_of_ble_eq_true rfl) ?_
  refine kr_fs (fs' := [.int 0, .ref a1, .int 0, .int 0, .int 0, .int 0, .int 0, .int 0, .int 20, .ref a2, .ref a3, .ref a4, .int 0, .ref a5, .int 0, .ref a6, .int 0, .ref a7, .int 0, .ref a8, .int 0, .ref a9, .ref a10, .ref a11, .ref a12, .ref a13, .ref a14, .int 0, .int 0, .ref a15, .int 0, .int 0, .ref a16]) rfl rfl ?_
  exact kr_ret kd_X8_init_137 (⟨fun i => [a1, a2, a3, a4, a5, a6, a7, a8, a9, a10, a11, a12, a13, a14, a15, a16].getD i 0, rfl⟩) (Nat.le_of_ble_eq_true rfl) (Nat.le_of_ble_eq_true rfl)
