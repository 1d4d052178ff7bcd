/-! arithmetic, branches, cells, calls, returns -/
section JO
variable {X : jX} {T : jT} {d mi pc : Nat} {ls st : List Value} {M : jMem} {Q : Option Value → jMem → Prop} {c' : jCfg} {ob : Prop}
theorem jn_iadd (hd : decode (jM mi).2.1 pc = .ok (.iadd, 1)) (hs : jBin (pc + 1) ls st M (fun x y => x + y) (fun _ => True) = some (.inl c', ob)) (hob : ob) (h : jRun X T d mi c' Q) : jRun X T d mi (pc, ls, st, M) Q := by
  obtain ⟨x, y, r, rfl, rfl, rfl⟩ := jBin_eq hs
  exact fun p e s m args below meth cd H locs sl C hW hI hS hL => lv_iadd C.1 C.2.1 hd (h p e s m args below meth cd H locs sl C hW hI hS hL)
theorem jn_isub (hd : decode (jM mi).2.1 pc = .ok (.isub, 1)) (hs : jBin (pc + 1) ls st M (fun x y => x - y) (fun _ => True) = some (.inl c', ob)) (hob : ob) (h : jRun X T d mi c' Q) : jRun X T d mi (pc, ls, st, M) Q := by
  obtain ⟨x, y, r, rfl, rfl, rfl⟩ := jBin_eq hs
  exact fun p e s m args below meth cd H locs sl C hW hI hS hL => lv_isub C.1 C.2.1 hd (h p e s m args below meth cd H locs sl C hW hI hS hL)
theorem jn_imul (hd : decode (jM mi).2.1 pc = .ok (.imul, 1)) (hs : jBin (pc + 1) ls st M (fun x y => x * y) (fun _ => True) = some (.inl c', ob)) (hob : ob) (h : jRun X T d mi c' Q) : jRun X T d mi (pc, ls, st, M) Q := by
  obtain ⟨x, y, r, rfl, rfl, rfl⟩ := jBin_eq hs
  exact fun p e s m args below meth cd H locs sl C hW hI hS hL => lv_imul C.1 C.2.1 hd (h p e s m args below meth cd H locs sl C hW hI hS hL)
theorem jn_iand (hd : decode (jM mi).2.1 pc = .ok (.iand, 1)) (hs : jBin (pc + 1) ls st M (fun x y => x &&& y) (fun _ => True) = some (.inl c', ob)) (hob : ob) (h : jRun X T d mi c' Q) : jRun X T d mi (pc, ls, st, M) Q := by
  obtain ⟨x, y, r, rfl, rfl, rfl⟩ := jBin_eq hs
  exact fun p e s m args below meth cd H locs sl C hW hI hS hL => lv_iand C.1 C.2.1 hd (h p e s m args below meth cd H locs sl C hW hI hS hL)
theorem jn_ior (hd : decode (jM mi).2.1 pc = .ok (.ior, 1)) (hs : jBin (pc + 1) ls st M (fun x y => x ||| y) (fun _ => True) = some (.inl c', ob)) (hob : ob) (h : jRun X T d mi c' Q) : jRun X T d mi (pc, ls, st, M) Q := by
  obtain ⟨x, y, r, rfl, rfl, rfl⟩ := jBin_eq hs
  exact fun p e s m args below meth cd H locs sl C hW hI hS hL => lv_ior C.1 C.2.1 hd (h p e s m args below meth cd H locs sl C hW hI hS hL)
theorem jn_ixor (hd : decode (jM mi).2.1 pc = .ok (.ixor, 1)) (hs : jBin (pc + 1) ls st M (fun x y => x ^^^ y) (fun _ => True) = some (.inl c', ob)) (hob : ob) (h : jRun X T d mi c' Q) : jRun X T d mi (pc, ls, st, M) Q := by
  obtain ⟨x, y, r, rfl, rfl, rfl⟩ := jBin_eq hs
  exact fun p e s m args below meth cd H locs sl C hW hI hS hL => lv_ixor C.1 C.2.1 hd (h p e s m args below meth cd H locs sl C hW hI hS hL)
theorem jn_ishl (hd : decode (jM mi).2.1 pc = .ok (.ishl, 1)) (hs : jBin (pc + 1) ls st M (fun x y => x <<< (y &&& 31)) (fun _ => True) = some (.inl c', ob)) (hob : ob) (h : jRun X T d mi c' Q) : jRun X T d mi (pc, ls, st, M) Q := by
  obtain ⟨x, y, r, rfl, rfl, rfl⟩ := jBin_eq hs
  exact fun p e s m args below meth cd H locs sl C hW hI hS hL => lv_ishl C.1 C.2.1 hd (h p e s m args below meth cd H locs sl C hW hI hS hL)
theorem jn_ishr (hd : decode (jM mi).2.1 pc = .ok (.ishr, 1)) (hs : jBin (pc + 1) ls st M (fun x y => x >>> (y &&& 31)) (fun _ => True) = some (.inl c', ob)) (hob : ob) (h : jRun X T d mi c' Q) : jRun X T d mi (pc, ls, st, M) Q := by
  obtain ⟨x, y, r, rfl, rfl, rfl⟩ := jBin_eq hs
  exact fun p e s m args below meth cd H locs sl C hW hI hS hL => lv_ishr C.1 C.2.1 hd (h p e s m args below meth cd H locs sl C hW hI hS hL)
theorem jn_iushr (hd : decode (jM mi).2.1 pc = .ok (.iushr, 1)) (hs : jBin (pc + 1) ls st M (fun x y => (x.toUInt32 >>> (y.toUInt32 &&& Int32.toUInt32 31)).toInt32) (fun _ => True) = some (.inl c', ob)) (hob : ob) (h : jRun X T d mi c' Q) : jRun X T d mi (pc, ls, st, M) Q := by
  obtain ⟨x, y, r, rfl, rfl, rfl⟩ := jBin_eq hs
  exact fun p e s m args below meth cd H locs sl C hW hI hS hL => lv_iushr C.1 C.2.1 hd rfl (h p e s m args below meth cd H locs sl C hW hI hS hL)
theorem jn_idiv (hd : decode (jM mi).2.1 pc = .ok (.idiv, 1)) (hs : jBin (pc + 1) ls st M (fun x y => x / y) (fun y => ¬ y = 0) = some (.inl c', ob)) (hob : ob) (h : jRun X T d mi c' Q) : jRun X T d mi (pc, ls, st, M) Q := by
  obtain ⟨x, y, r, rfl, rfl, rfl⟩ := jBin_eq hs
  exact fun p e s m args below meth cd H locs sl C hW hI hS hL => lv_idiv C.1 C.2.1 hd hob (h p e s m args below meth cd H locs sl C hW hI hS hL)
theorem jn_irem (hd : decode (jM mi).2.1 pc = .ok (.irem, 1)) (hs : jBin (pc + 1) ls st M (fun x y => x - x / y * y) (fun y => ¬ y = 0) = some (.inl c', ob)) (hob : ob) (h : jRun X T d mi c' Q) : jRun X T d mi (pc, ls, st, M) Q := by
  obtain ⟨x, y, r, rfl, rfl, rfl⟩ := jBin_eq hs
  exact fun p e s m args below meth cd H locs sl C hW hI hS hL => lv_irem C.1 C.2.1 hd hob (h p e s m args below meth cd H locs sl C hW hI hS hL)
theorem jn_ineg (hd : decode (jM mi).2.1 pc = .ok (.ineg, 1)) (hs : jNeg (pc + 1) ls st M = some (.inl c', ob)) (h : jRun X T d mi c' Q) : jRun X T d mi (pc, ls, st, M) Q := by
  unfold jNeg at hs
  split at hs
  · cases hs
    exact fun p e s m args below meth cd H locs sl C hW hI hS hL => lv_ineg C.1 C.2.1 hd (h p e s m args below meth cd H locs sl C hW hI hS hL)
  · cases hs
theorem jn_i2l (hd : decode (jM mi).2.1 pc = .ok (.i2l, 1)) (hs : jI2l (pc + 1) ls st M = some (.inl c', ob)) (h : jRun X T d mi c' Q) : jRun X T d mi (pc, ls, st, M) Q := by
  unfold jI2l at hs
  split at hs
  · cases hs
    exact fun p e s m args below meth cd H locs sl C hW hI hS hL => lv_i2l C.1 C.2.1 hd rfl (h p e s m args below meth cd H locs sl C hW hI hS hL)
  · cases hs
theorem jn_lcmp (hd : decode (jM mi).2.1 pc = .ok (.lcmp, 1)) (hs : jLcm (pc + 1) ls st M = some (.inl c', ob)) (h : jRun X T d mi c' Q) : jRun X T d mi (pc, ls, st, M) Q := by
  unfold jLcm at hs
  split at hs
  · cases hs
    exact fun p e s m args below meth cd H locs sl C hW hI hS hL => W.lcmp C.1 C.2.1 hd (h p e s m args below meth cd H locs sl C hW hI hS hL)
  · cases hs
theorem jn_dup (hd : decode (jM mi).2.1 pc = .ok (.dup, 1)) (hs : jDup (pc + 1) ls st M = some (.inl c', ob)) (h : jRun X T d mi c' Q) : jRun X T d mi (pc, ls, st, M) Q := by
  unfold jDup at hs
  split at hs
  · cases hs
    exact fun p e s m args below meth cd H locs sl C hW hI hS hL => lv_dup C.1 C.2.1 hd rfl (h p e s m args below meth cd H locs sl C hW hI hS hL)
  · cases hs
    exact fun p e s m args below meth cd H locs sl C hW hI hS hL => lv_dup C.1 C.2.1 hd rfl (h p e s m args below meth cd H locs sl C hW hI hS hL)
  · cases hs
theorem jn_dup_x1 (hd : decode (jM mi).2.1 pc = .ok (.dup_x1, 1)) (hs : jDx1 (pc + 1) ls st M = some (.inl c', ob)) (h : jRun X T d mi c' Q) : jRun X T d mi (pc, ls, st, M) Q := by
  unfold jDx1 at hs
  split at hs
  · cases hs
    exact fun p e s m args below meth cd H locs sl C hW hI hS hL => lv_dup_x1 C.1 C.2.1 hd rfl rfl (h p e s m args below meth cd H locs sl C hW hI hS hL)
  · cases hs
theorem jn_dup2 (hd : decode (jM mi).2.1 pc = .ok (.dup2, 1)) (hs : jDu2 (pc + 1) ls st M = some (.inl c', ob)) (h : jRun X T d mi c' Q) : jRun X T d mi (pc, ls, st, M) Q := by
  unfold jDu2 at hs
  split at hs
  · cases hs
    exact fun p e s m args below meth cd H locs sl C hW hI hS hL => lv_dup2_11 C.1 C.2.1 hd rfl rfl (h p e s m args below meth cd H locs sl C hW hI hS hL)
  · cases hs
theorem jn_if_eq {off : Int} {aux : List Nat} (hd : decode (jM mi).2.1 pc = .ok (.ifCond .eq off, 3)) (ha : ∀ t, aux = [t] → (pc : Int) + off = (t : Int)) (hs : jIf (pc + 3) ls st M .eq aux = some (.inl c', ob)) (h : jRun X T d mi c' Q) : jRun X T d mi (pc, ls, st, M) Q := by
  unfold jIf at hs
  split at hs
  · rename_i x r t
    cases hs
    intro p e s m args below meth cd H locs sl C hW hI hS hL
    have h1 := h p e s m args below meth cd H locs sl C hW hI hS hL
    refine lv_if_eq C.1 C.2.1 hd (ha t rfl) (fun g => ?_) (fun g => ?_)
    · simpa [jC1, g] using h1
    · simpa [jC1, g] using h1
  · cases hs
theorem jn_ic_eq {off : Int} {aux : List Nat} (hd : decode (jM mi).2.1 pc = .ok (.if_icmp .eq off, 3)) (ha : ∀ t, aux = [t] → (pc : Int) + off = (t : Int)) (hs : jIc (pc + 3) ls st M .eq aux = some (.inl c', ob)) (h : jRun X T d mi c' Q) : jRun X T d mi (pc, ls, st, M) Q := by
  unfold jIc at hs
  split at hs
  · rename_i y x r t
    cases hs
    intro p e s m args below meth cd H locs sl C hW hI hS hL
    have h1 := h p e s m args below meth cd H locs sl C hW hI hS hL
    refine lv_icmp_eq C.1 C.2.1 hd (ha t rfl) (fun g => ?_) (fun g => ?_)
    · simpa [jC2, g] using h1
    · simpa [jC2, g] using h1
  · cases hs
theorem jn_if_ne {off : Int} {aux : List Nat} (hd : decode (jM mi).2.1 pc = .ok (.ifCond .ne off, 3)) (ha : ∀ t, aux = [t] → (pc : Int) + off = (t : Int)) (hs : jIf (pc + 3) ls st M .ne aux = some (.inl c', ob)) (h : jRun X T d mi c' Q) : jRun X T d mi (pc, ls, st, M) Q := by
  unfold jIf at hs
  split at hs
  · rename_i x r t
    cases hs
    intro p e s m args below meth cd H locs sl C hW hI hS hL
    have h1 := h p e s m args below meth cd H locs sl C hW hI hS hL
    refine lv_if_ne C.1 C.2.1 hd (ha t rfl) (fun g => ?_) (fun g => ?_)
    · simpa [jC1, g] using h1
    · simpa [jC1, g] using h1
  · cases hs
theorem jn_ic_ne {off : Int} {aux : List Nat} (hd : decode (jM mi).2.1 pc = .ok (.if_icmp .ne off, 3)) (ha : ∀ t, aux = [t] → (pc : Int) + off = (t : Int)) (hs : jIc (pc + 3) ls st M .ne aux = some (.inl c', ob)) (h : jRun X T d mi c' Q) : jRun X T d mi (pc, ls, st, M) Q := by
  unfold jIc at hs
  split at hs
  · rename_i y x r t
    cases hs
    intro p e s m args below meth cd H locs sl C hW hI hS hL
    have h1 := h p e s m args below meth cd H locs sl C hW hI hS hL
    refine lv_icmp_ne C.1 C.2.1 hd (ha t rfl) (fun g => ?_) (fun g => ?_)
    · simpa [jC2, g] using h1
    · simpa [jC2, g] using h1
  · cases hs
theorem jn_if_lt {off : Int} {aux : List Nat} (hd : decode (jM mi).2.1 pc = .ok (.ifCond .lt off, 3)) (ha : ∀ t, aux = [t] → (pc : Int) + off = (t : Int)) (hs : jIf (pc + 3) ls st M .lt aux = some (.inl c', ob)) (h : jRun X T d mi c' Q) : jRun X T d mi (pc, ls, st, M) Q := by
  unfold jIf at hs
  split at hs
  · rename_i x r t
    cases hs
    intro p e s m args below meth cd H locs sl C hW hI hS hL
    have h1 := h p e s m args below meth cd H locs sl C hW hI hS hL
    refine lv_if_lt C.1 C.2.1 hd (ha t rfl) (fun g => ?_) (fun g => ?_)
    · simpa [jC1, g] using h1
    · simpa [jC1, g] using h1
  · cases hs
theorem jn_ic_lt {off : Int} {aux : List Nat} (hd : decode (jM mi).2.1 pc = .ok (.if_icmp .lt off, 3)) (ha : ∀ t, aux = [t] → (pc : Int) + off = (t : Int)) (hs : jIc (pc + 3) ls st M .lt aux = some (.inl c', ob)) (h : jRun X T d mi c' Q) : jRun X T d mi (pc, ls, st, M) Q := by
  unfold jIc at hs
  split at hs
  · rename_i y x r t
    cases hs
    intro p e s m args below meth cd H locs sl C hW hI hS hL
    have h1 := h p e s m args below meth cd H locs sl C hW hI hS hL
    refine lv_icmp_lt C.1 C.2.1 hd (ha t rfl) (fun g => ?_) (fun g => ?_)
    · simpa [jC2, g] using h1
    · simpa [jC2, g] using h1
  · cases hs
theorem jn_if_ge {off : Int} {aux : List Nat} (hd : decode (jM mi).2.1 pc = .ok (.ifCond .ge off, 3)) (ha : ∀ t, aux = [t] → (pc : Int) + off = (t : Int)) (hs : jIf (pc + 3) ls st M .ge aux = some (.inl c', ob)) (h : jRun X T d mi c' Q) : jRun X T d mi (pc, ls, st, M) Q := by
  unfold jIf at hs
  split at hs
  · rename_i x r t
    cases hs
    intro p e s m args below meth cd H locs sl C hW hI hS hL
    have h1 := h p e s m args below meth cd H locs sl C hW hI hS hL
    refine lv_if_ge C.1 C.2.1 hd (ha t rfl) (fun g => ?_) (fun g => ?_)
    · simpa [jC1, g] using h1
    · simpa [jC1, g] using h1
  · cases hs
theorem jn_ic_ge {off : Int} {aux : List Nat} (hd : decode (jM mi).2.1 pc = .ok (.if_icmp .ge off, 3)) (ha : ∀ t, aux = [t] → (pc : Int) + off = (t : Int)) (hs : jIc (pc + 3) ls st M .ge aux = some (.inl c', ob)) (h : jRun X T d mi c' Q) : jRun X T d mi (pc, ls, st, M) Q := by
  unfold jIc at hs
  split at hs
  · rename_i y x r t
    cases hs
    intro p e s m args below meth cd H locs sl C hW hI hS hL
    have h1 := h p e s m args below meth cd H locs sl C hW hI hS hL
    refine lv_icmp_ge C.1 C.2.1 hd (ha t rfl) (fun g => ?_) (fun g => ?_)
    · simpa [jC2, g] using h1
    · simpa [jC2, g] using h1
  · cases hs
theorem jn_if_gt {off : Int} {aux : List Nat} (hd : decode (jM mi).2.1 pc = .ok (.ifCond .gt off, 3)) (ha : ∀ t, aux = [t] → (pc : Int) + off = (t : Int)) (hs : jIf (pc + 3) ls st M .gt aux = some (.inl c', ob)) (h : jRun X T d mi c' Q) : jRun X T d mi (pc, ls, st, M) Q := by
  unfold jIf at hs
  split at hs
  · rename_i x r t
    cases hs
    intro p e s m args below meth cd H locs sl C hW hI hS hL
    have h1 := h p e s m args below meth cd H locs sl C hW hI hS hL
    refine lv_if_gt C.1 C.2.1 hd (ha t rfl) (fun g => ?_) (fun g => ?_)
    · simpa [jC1, g] using h1
    · simpa [jC1, g] using h1
  · cases hs
theorem jn_ic_gt {off : Int} {aux : List Nat} (hd : decode (jM mi).2.1 pc = .ok (.if_icmp .gt off, 3)) (ha : ∀ t, aux = [t] → (pc : Int) + off = (t : Int)) (hs : jIc (pc + 3) ls st M .gt aux = some (.inl c', ob)) (h : jRun X T d mi c' Q) : jRun X T d mi (pc, ls, st, M) Q := by
  unfold jIc at hs
  split at hs
  · rename_i y x r t
    cases hs
    intro p e s m args below meth cd H locs sl C hW hI hS hL
    have h1 := h p e s m args below meth cd H locs sl C hW hI hS hL
    refine lv_icmp_gt C.1 C.2.1 hd (ha t rfl) (fun g => ?_) (fun g => ?_)
    · simpa [jC2, g] using h1
    · simpa [jC2, g] using h1
  · cases hs
theorem jn_if_le {off : Int} {aux : List Nat} (hd : decode (jM mi).2.1 pc = .ok (.ifCond .le off, 3)) (ha : ∀ t, aux = [t] → (pc : Int) + off = (t : Int)) (hs : jIf (pc + 3) ls st M .le aux = some (.inl c', ob)) (h : jRun X T d mi c' Q) : jRun X T d mi (pc, ls, st, M) Q := by
  unfold jIf at hs
  split at hs
  · rename_i x r t
    cases hs
    intro p e s m args below meth cd H locs sl C hW hI hS hL
    have h1 := h p e s m args below meth cd H locs sl C hW hI hS hL
    refine lv_if_le C.1 C.2.1 hd (ha t rfl) (fun g => ?_) (fun g => ?_)
    · simpa [jC1, g] using h1
    · simpa [jC1, g] using h1
  · cases hs
theorem jn_ic_le {off : Int} {aux : List Nat} (hd : decode (jM mi).2.1 pc = .ok (.if_icmp .le off, 3)) (ha : ∀ t, aux = [t] → (pc : Int) + off = (t : Int)) (hs : jIc (pc + 3) ls st M .le aux = some (.inl c', ob)) (h : jRun X T d mi c' Q) : jRun X T d mi (pc, ls, st, M) Q := by
  unfold jIc at hs
  split at hs
  · rename_i y x r t
    cases hs
    intro p e s m args below meth cd H locs sl C hW hI hS hL
    have h1 := h p e s m args below meth cd H locs sl C hW hI hS hL
    refine lv_icmp_le C.1 C.2.1 hd (ha t rfl) (fun g => ?_) (fun g => ?_)
    · simpa [jC2, g] using h1
    · simpa [jC2, g] using h1
  · cases hs
theorem jn_goto {off : Int} {aux : List Nat} (hd : decode (jM mi).2.1 pc = .ok (.goto off, 3)) (ha : ∀ t, aux = [t] → (pc : Int) + off = (t : Int)) (hs : jGoto ls st M aux = some (.inl c', ob)) (h : jRun X T d mi c' Q) : jRun X T d mi (pc, ls, st, M) Q := by
  unfold jGoto at hs
  split at hs
  · rename_i t
    cases hs
    exact fun p e s m args below meth cd H locs sl C hW hI hS hL => lv_goto C.1 C.2.1 hd (ha t rfl) (h p e s m args below meth cd H locs sl C hW hI hS hL)
  · cases hs
theorem jSw_out (x : Int32) : ∀ (ts : List Nat) (lo : Int) (dd : Nat), 0 ≤ lo → lo + ts.length ≤ 1000 → (x.toInt < lo ∨ lo + ts.length ≤ x.toInt) → jSw x lo ts dd = dd
  | [], lo, dd, _, _, _ => rfl
  | t :: r, lo, dd, h0, h1, h2 => by
    simp only [List.length_cons] at h1 h2
    have hn : ¬ x = Int32.ofInt lo := by
      intro q
      have : x.toInt = lo := by rw [q]; exact Int32.toInt_ofInt_of_le (by omega) (by omega)
      omega
    simp only [jSw, if_neg hn]
    exact jSw_out x r (lo + 1) dd (by omega) (by omega) (by omega)
theorem jSw_in (x : Int32) : ∀ (ts : List Nat) (lo : Int) (dd : Nat), 0 ≤ lo → lo + ts.length ≤ 1000 → lo ≤ x.toInt → x.toInt < lo + ts.length → ts[(x.toInt - lo).toNat]? = some (jSw x lo ts dd)
  | [], lo, dd, _, _, h2, h3 => by simp at h3; omega
  | t :: r, lo, dd, h0, h1, h2, h3 => by
    simp only [List.length_cons] at h1 h3
    by_cases q : x.toInt = lo
    · have : x = Int32.ofInt lo := by
        apply Int32.toInt_inj.mp
        rw [q]
        exact (Int32.toInt_ofInt_of_le (by omega) (by omega)).symm
      simp only [jSw, if_pos this]
      rw [q]
      simp
    · have hn : ¬ x = Int32.ofInt lo := by
        intro z
        exact q (by rw [z]; exact Int32.toInt_ofInt_of_le (by omega) (by omega))
      simp only [jSw, if_neg hn]
      have e : (x.toInt - lo).toNat = (x.toInt - (lo + 1)).toNat + 1 := by omega
      rw [e, List.getElem?_cons_succ]
      exact jSw_in x r (lo + 1) dd (by omega) (by omega) (by omega) (by omega)
theorem jn_tsw {df lo hi : Int} {offs : Array Int} {len : Nat} {aux : List Nat} (hd : decode (jM mi).2.1 pc = .ok (.tableswitch df lo hi offs, len))
    (ha : ∀ dd ts, aux = dd :: ts → (pc : Int) + df = (dd : Int) ∧ offs.toList.map (fun o => (pc : Int) + o) = ts.map (fun t : Nat => (t : Int)) ∧ 0 ≤ lo ∧ lo + ts.length ≤ 1000 ∧ hi + 1 = lo + ts.length) (hs : jTsw ls st M lo aux = some (.inl c', ob)) (h : jRun X T d mi c' Q) : jRun X T d mi (pc, ls, st, M) Q := by
  unfold jTsw at hs
  split at hs
  · rename_i x r dd ts
    cases hs
    obtain ⟨h1, h2, h3, h4, h5⟩ := ha dd ts rfl
    intro p e s m args below meth cd H locs sl C hW hI hS hL
    have hk := h p e s m args below meth cd H locs sl C hW hI hS hL
    by_cases g : x.toInt < lo ∨ hi < x.toInt
    · rw [show jSw x lo ts dd = dd from jSw_out x ts lo dd h3 h4 (by omega)] at hk
      exact lv_tableOut C.1 C.2.1 hd g h1 hk
    · have g1 := jSw_in x ts lo dd h3 h4 (by omega) (by omega)
      have g2 : (offs.toList.map (fun o => (pc : Int) + o))[(x.toInt - lo).toNat]? = some ((jSw x lo ts dd : Nat) : Int) := by rw [h2, List.getElem?_map, g1]; rfl
      rw [List.getElem?_map] at g2
      cases ho : offs.toList[(x.toInt - lo).toNat]? with
      | none => rw [ho] at g2; cases g2
      | some o =>
        rw [ho] at g2
        rw [Array.getElem?_toList] at ho
        exact lv_tableIn C.1 C.2.1 hd (fun q => g (Or.inl q)) (fun q => g (Or.inr q)) ho (Option.some.inj g2) hk
  · cases hs
end JO
