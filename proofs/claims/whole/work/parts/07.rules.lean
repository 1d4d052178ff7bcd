/-! each instruction's rule -/
section JN
variable {X : jX} {T : jT} {d mi pc : Nat} {ls st : List Value} {M : jMem} {Q : Option Value → jMem → Prop} {c' : jCfg} {ob : Prop}
theorem jn_iconst {n : Int} (hd : decode (jM mi).2.1 pc = .ok (.iconst n, 1)) (h : jRun X T d mi (pc + 1, ls, .int (Int32.ofInt n) :: st, M) Q) : jRun X T d mi (pc, ls, st, M) Q :=
  fun p e s m args below meth cd H locs sl C hW hI hS hL => lv_iconst C.1 C.2.1 hd rfl (h p e s m args below meth cd H locs sl C hW hI hS hL)
theorem jn_bipush {n : Int} (hd : decode (jM mi).2.1 pc = .ok (.bipush n, 2)) (h : jRun X T d mi (pc + 2, ls, .int (Int8.ofInt n).toInt32 :: st, M) Q) : jRun X T d mi (pc, ls, st, M) Q :=
  fun p e s m args below meth cd H locs sl C hW hI hS hL => lv_bipush C.1 C.2.1 hd rfl (h p e s m args below meth cd H locs sl C hW hI hS hL)
theorem jn_sipush {n : Int} (hd : decode (jM mi).2.1 pc = .ok (.sipush n, 3)) (h : jRun X T d mi (pc + 3, ls, .int (Int16.ofInt n).toInt32 :: st, M) Q) : jRun X T d mi (pc, ls, st, M) Q :=
  fun p e s m args below meth cd H locs sl C hW hI hS hL => lv_sipush C.1 C.2.1 hd rfl (h p e s m args below meth cd H locs sl C hW hI hS hL)
theorem jn_lconst {n : Fin 2} (hd : decode (jM mi).2.1 pc = .ok (.lconst n, 1)) (h : jRun X T d mi (pc + 1, ls, .long (Int64.ofNat (n : Nat)) :: st, M) Q) : jRun X T d mi (pc, ls, st, M) Q :=
  fun p e s m args below meth cd H locs sl C hW hI hS hL => lv_lconst C.1 C.2.1 hd rfl (h p e s m args below meth cd H locs sl C hW hI hS hL)
theorem jn_ldc {idx n pl : Nat} (hd : decode (jM mi).2.1 pc = .ok (.ldc idx, 2)) (hw : lw_tbl[pl]? = some (.constant (jM mi).1.cls idx (Int32.ofNat n))) (h : jRun X T d mi (pc + 2, ls, .int (Int32.ofNat n) :: st, M) Q) : jRun X T d mi (pc, ls, st, M) Q :=
  fun p e s m args below meth cd H locs sl C hW hI hS hL => lv_ldc C.1 C.2.1 C.2.2.2.2.2.1 (C.2.2.2.2.2.2 _ (jtb hw rfl)) hd (h p e s m args below meth cd H locs sl C hW hI hS hL)
theorem jn_ldcw {idx n pl : Nat} (hd : decode (jM mi).2.1 pc = .ok (.ldc_w idx, 3)) (hw : lw_tbl[pl]? = some (.constant (jM mi).1.cls idx (Int32.ofNat n))) (h : jRun X T d mi (pc + 3, ls, .int (Int32.ofNat n) :: st, M) Q) : jRun X T d mi (pc, ls, st, M) Q :=
  fun p e s m args below meth cd H locs sl C hW hI hS hL => lv_ldcw C.1 C.2.1 C.2.2.2.2.2.1 (C.2.2.2.2.2.2 _ (jtb hw rfl)) hd (h p e s m args below meth cd H locs sl C hW hI hS hL)
theorem jn_ldc2 {idx n pl : Nat} (hd : decode (jM mi).2.1 pc = .ok (.ldc2_w idx, 3)) (hw : lw_tbl[pl]? = some (.constantLong (jM mi).1.cls idx (Int64.ofNat n))) (h : jRun X T d mi (pc + 3, ls, .long (Int64.ofNat n) :: st, M) Q) : jRun X T d mi (pc, ls, st, M) Q :=
  fun p e s m args below meth cd H locs sl C hW hI hS hL => lv_ldc2 C.1 C.2.1 C.2.2.2.2.2.1 (C.2.2.2.2.2.2 _ (jtb hw rfl)) hd (h p e s m args below meth cd H locs sl C hW hI hS hL)
theorem jLR.at {ad : Nat → Nat} {sl : Array Slot} {n i : Nat} {v : Value} (hL : jLR ad ls sl n) (h : jAt ls i = v) (hv : v ≠ .null) : sl[i]? = some (.val (jtr ad v)) := by
  subst h
  exact hL.2.2.2 i hv
theorem jn_iload_n {k : Fin 4} (hd : decode (jM mi).2.1 pc = .ok (.iload_n k, 1)) (hs : jIld (pc + 1) ls st M k = some (.inl c', ob)) (h : jRun X T d mi c' Q) : jRun X T d mi (pc, ls, st, M) Q := by
  unfold jIld at hs
  split at hs
  · rename_i x hx
    cases hs
    exact fun p e s m args below meth cd H locs sl C hW hI hS hL => lv_iload_n C.1 C.2.1 hd rfl (hL.at hx (fun q => by cases q)) (h p e s m args below meth cd H locs sl C hW hI hS hL)
  · cases hs
theorem jn_iload {i : Nat} (hd : decode (jM mi).2.1 pc = .ok (.iload i, 2)) (hs : jIld (pc + 2) ls st M i = some (.inl c', ob)) (h : jRun X T d mi c' Q) : jRun X T d mi (pc, ls, st, M) Q := by
  unfold jIld at hs
  split at hs
  · rename_i x hx
    cases hs
    exact fun p e s m args below meth cd H locs sl C hW hI hS hL => lv_iload C.1 C.2.1 hd (hL.at hx (fun q => by cases q)) (h p e s m args below meth cd H locs sl C hW hI hS hL)
  · cases hs
theorem jn_lload_n {k : Fin 4} (hd : decode (jM mi).2.1 pc = .ok (.lload_n k, 1)) (hs : jLld (pc + 1) ls st M k = some (.inl c', ob)) (h : jRun X T d mi c' Q) : jRun X T d mi (pc, ls, st, M) Q := by
  unfold jLld at hs
  split at hs
  · rename_i x hx
    cases hs
    exact fun p e s m args below meth cd H locs sl C hW hI hS hL => lv_lload_n C.1 C.2.1 hd rfl (hL.at hx (fun q => by cases q)) (h p e s m args below meth cd H locs sl C hW hI hS hL)
  · cases hs
theorem jn_lload {i : Nat} (hd : decode (jM mi).2.1 pc = .ok (.lload i, 2)) (hs : jLld (pc + 2) ls st M i = some (.inl c', ob)) (h : jRun X T d mi c' Q) : jRun X T d mi (pc, ls, st, M) Q := by
  unfold jLld at hs
  split at hs
  · rename_i x hx
    cases hs
    exact fun p e s m args below meth cd H locs sl C hW hI hS hL => lv_lload C.1 C.2.1 hd (hL.at hx (fun q => by cases q)) (h p e s m args below meth cd H locs sl C hW hI hS hL)
  · cases hs
theorem jn_aload_n {k : Fin 4} (hd : decode (jM mi).2.1 pc = .ok (.aload_n k, 1)) (hs : jAld (pc + 1) ls st M k = some (.inl c', ob)) (h : jRun X T d mi c' Q) : jRun X T d mi (pc, ls, st, M) Q := by
  unfold jAld at hs
  split at hs
  · rename_i x hx
    cases hs
    exact fun p e s m args below meth cd H locs sl C hW hI hS hL => lv_aload_n C.1 C.2.1 hd rfl (hL.at hx (fun q => by cases q)) (h p e s m args below meth cd H locs sl C hW hI hS hL)
  · cases hs
theorem jn_aload {i : Nat} (hd : decode (jM mi).2.1 pc = .ok (.aload i, 2)) (hs : jAld (pc + 2) ls st M i = some (.inl c', ob)) (h : jRun X T d mi c' Q) : jRun X T d mi (pc, ls, st, M) Q := by
  unfold jAld at hs
  split at hs
  · rename_i x hx
    cases hs
    exact fun p e s m args below meth cd H locs sl C hW hI hS hL => lv_aload C.1 C.2.1 hd (hL.at hx (fun q => by cases q)) (h p e s m args below meth cd H locs sl C hW hI hS hL)
  · cases hs
theorem jbif {α : Type} {b : Bool} {x y : α} (h : (bif b then some x else none) = some y) : b = true ∧ x = y := by
  cases b with
  | true => exact ⟨rfl, Option.some.inj h⟩
  | false => cases h
theorem jgd {n i : Nat} (h : (Nat.blt i ls.length && jNl ls i) = true) : i < ls.length ∧ jNl ls i = true := by
  rw [Bool.and_eq_true] at h
  exact ⟨Nat.le_of_ble_eq_true h.1, h.2⟩
theorem jn_istore_n {k : Fin 4} (hd : decode (jM mi).2.1 pc = .ok (.istore_n k, 1)) (hs : jIst (pc + 1) ls st M k = some (.inl c', ob)) (h : jRun X T d mi c' Q) : jRun X T d mi (pc, ls, st, M) Q := by
  unfold jIst at hs
  split at hs
  · rename_i x r
    obtain ⟨g, e⟩ := jbif hs
    obtain ⟨g1, g2⟩ := jgd (n := 0) g
    cases e
    exact fun p e s m args below meth cd H locs sl C hW hI hS hL => lv_istore_n C.1 C.2.1 hd rfl hL.has (hL.1 ▸ g1) rfl (fun sl' hl => h p e s m args below meth cd H locs sl' C hW hI hS (hL.store g1 g2 hl))
  · cases hs
theorem jn_istore {k : Nat} (hd : decode (jM mi).2.1 pc = .ok (.istore k, 2)) (hs : jIst (pc + 2) ls st M k = some (.inl c', ob)) (h : jRun X T d mi c' Q) : jRun X T d mi (pc, ls, st, M) Q := by
  unfold jIst at hs
  split at hs
  · rename_i x r
    obtain ⟨g, e⟩ := jbif hs
    obtain ⟨g1, g2⟩ := jgd (n := 0) g
    cases e
    exact fun p e s m args below meth cd H locs sl C hW hI hS hL => lv_istore C.1 C.2.1 hd hL.has (hL.1 ▸ g1) rfl (fun sl' hl => h p e s m args below meth cd H locs sl' C hW hI hS (hL.store g1 g2 hl))
  · cases hs
theorem jn_astore_n {k : Fin 4} (hd : decode (jM mi).2.1 pc = .ok (.astore_n k, 1)) (hs : jAst (pc + 1) ls st M k = some (.inl c', ob)) (h : jRun X T d mi c' Q) : jRun X T d mi (pc, ls, st, M) Q := by
  unfold jAst at hs
  split at hs
  · rename_i x r
    obtain ⟨g, e⟩ := jbif hs
    obtain ⟨g1, g2⟩ := jgd (n := 0) g
    cases e
    exact fun p e s m args below meth cd H locs sl C hW hI hS hL => lv_astore_n C.1 C.2.1 hd rfl hL.has (hL.1 ▸ g1) rfl (fun sl' hl => h p e s m args below meth cd H locs sl' C hW hI hS (hL.store (v := .ref x) g1 g2 hl))
  · cases hs
theorem jn_astore {k : Nat} (hd : decode (jM mi).2.1 pc = .ok (.astore k, 2)) (hs : jAst (pc + 2) ls st M k = some (.inl c', ob)) (h : jRun X T d mi c' Q) : jRun X T d mi (pc, ls, st, M) Q := by
  unfold jAst at hs
  split at hs
  · rename_i x r
    obtain ⟨g, e⟩ := jbif hs
    obtain ⟨g1, g2⟩ := jgd (n := 0) g
    cases e
    exact fun p e s m args below meth cd H locs sl C hW hI hS hL => lv_astore C.1 C.2.1 hd hL.has (hL.1 ▸ g1) rfl (fun sl' hl => h p e s m args below meth cd H locs sl' C hW hI hS (hL.store (v := .ref x) g1 g2 hl))
  · cases hs
theorem jn_iinc {i : Nat} {n : Int} (hd : decode (jM mi).2.1 pc = .ok (.iinc i n, 3)) (hs : jInc (pc + 3) ls st M i n = some (.inl c', ob)) (h : jRun X T d mi c' Q) : jRun X T d mi (pc, ls, st, M) Q := by
  unfold jInc at hs
  split at hs
  · rename_i x hx
    obtain ⟨g, e⟩ := jbif hs
    obtain ⟨g1, g2⟩ := jgd (n := 0) g
    cases e
    intro p e s m args below meth cd H locs sl C hW hI hS hL
    have hm := jLst_mem (ad := X.2.2.2) (ls := ls) (i := i) (by rw [hx]; exact fun q => by cases q)
    rw [hx] at hm
    obtain ⟨k, hk⟩ := List.getElem?_of_mem hm
    exact lv_iinc C.1 C.2.1 hd hL.has (k := k) hk rfl (hL.1 ▸ g1) rfl (fun sl' hl => h p e s m args below meth cd H locs sl' C hW hI hS (hL.store (v := .int (x + Int32.ofInt n)) g1 g2 hl))
  · cases hs
theorem jBin_eq {pc1 : Nat} {f : Int32 → Int32 → Int32} {ob' : Int32 → Prop} (hs : jBin pc1 ls st M f ob' = some (.inl c', ob)) : ∃ x y r, st = .int y :: .int x :: r ∧ c' = (pc1, ls, .int (f x y) :: r, M) ∧ ob = ob' y := by
  unfold jBin at hs
  split at hs
  · rename_i y x r
    cases hs
    exact ⟨x, y, r, rfl, rfl, rfl⟩
  · cases hs
end JN
