/-! fields, arrays, calls, returns -/
theorem jFl_spec {mi idx ci k kd pl : Nat} (h : jFl mi idx ci k kd pl = true) : ∃ q, vwCl[ci]? = some q ∧ k < q.2.2 ∧ lw_tbl[pl]? = some (.fieldLink (jM mi).1.cls idx (q.2.1 k).1 (q.2.1 k).2.1 (q.2.1 k).2.2.1) ∧ jFk ci k = kd ∧ jNf ci = q.2.2 ∧ ci < 9 := by
  unfold jFl at h
  split at h
  · rename_i q hq
    simp only [Bool.and_eq_true, decide_eq_true_eq] at h
    exact ⟨q, hq, h⟩
  · cases h
theorem jFp_spec {ci k kd : Nat} {q : vw_C} (hq : vwCl[ci]? = some q) (h : jFp ci k kd = true) : (q.2.1 k).2.2.2 = false ∧ ((kd = 1 ∧ parseFieldDescriptor (q.2.1 k).2.2.1 = some .int) ∨ (kd = 2 ∧ parseFieldDescriptor (q.2.1 k).2.2.1 = some .boolean)) := by
  unfold jFp at h
  rw [hq] at h
  simp only [Bool.and_eq_true, decide_eq_true_eq] at h
  obtain ⟨h1, h2⟩ := h
  refine ⟨h1, ?_⟩
  split at h2
  · exact Or.inl ⟨rfl, decide_eq_true_eq.mp h2⟩
  · exact Or.inr ⟨rfl, decide_eq_true_eq.mp h2⟩
  · cases h2
theorem jMchk_u {f : Nat} (h : f < jTab.length) : .initialized (jM f).1.cls ∈ jTb ∧ ((jM f).1.cls ≠ "java/lang/invoke/MethodHandle" ∧ (jM f).1.cls ≠ "java/lang/invoke/VarHandle" ∧ (parseMethodDescriptor (jM f).1.desc).map (fun d => d.parameters.length) = some (jM f).2.2.2.2.2.1) ∧ Jvm.plainName (jM f).1.cls = true ∧ (jM f).2.2.1 ≤ 21 ∧
    ((jM f).2.2.2.2.2.2.1 = 0 → .instanceMethod (jM f).1 ∈ jTb ∧ .selects (jM f).1.cls (jM f).1 (jM f).1 ∈ jTb ∧ ∃ q, vwCl[(jM f).2.2.2.2.1]? = some q ∧ q.1 = (jM f).1.cls) ∧ ((jM f).2.2.2.2.2.2.1 = 1 → .static (jM f).1 ∈ jTb) := by
  have g := jMc f h
  unfold jMchk at g
  generalize jM f = z at g
  obtain ⟨y, cd, ml, rt, oc, n, st, pls⟩ := z
  dsimp only at g ⊢
  split at g
  · rename_i p0 p1 p2 p3
    simp only [Bool.and_eq_true, decide_eq_true_eq] at g
    obtain ⟨g1, g2, g3, g4, g5⟩ := g
    refine ⟨jtb g1 rfl, g2, g3, g4, fun e => ?_, fun e => ?_⟩
    · subst e
      simp only [Bool.and_eq_true, decide_eq_true_eq] at g5
      obtain ⟨k1, k2, k3⟩ := g5
      refine ⟨jtb k1 rfl, jtb k2 rfl, ?_⟩
      cases hq : vwCl[oc]? with
      | none => rw [hq] at k3; cases k3
      | some q => rw [hq] at k3; exact ⟨q, rfl, Option.some.inj k3⟩
    · subst e
      exact jtb (decide_eq_true_eq.mp g5) rfl
  · cases g
theorem jsum {ad : Nat → Nat} : ∀ (r : List Value) (n : Nat), r.length ≤ n → ((r.map (jtr ad)).map fun v => v.category).sum ≤ 2 * n
  | [], n, _ => by simp
  | v :: r, n, h => by
    cases n with
    | zero => simp at h
    | succ n =>
      have h1 := jsum (ad := ad) r n (by simpa using h)
      have h2 : (jtr ad v).category ≤ 2 := by rw [jtr_cat]; cases v <;> simp [Value.category]
      simp only [List.map_cons, List.sum_cons] at h1 ⊢
      omega
section JP
variable {X : jX} {T : jT} {d mi pc : Nat} {ls st : List Value} {M : jMem} {Q : Option Value → jMem → Prop} {c' : jCfg} {ob : Prop}
theorem jn_get {idx : Nat} {aux : List Nat} (hd : decode (jM mi).2.1 pc = .ok (.getfield idx, 3)) (ha : ∀ ci k kd pl, aux = [ci, k, kd, pl] → jFl mi idx ci k kd pl = true) (hs : jGet T (pc + 3) ls st M aux = some (.inl c', ob)) (hob : ob) (h : jRun X T d mi c' Q) : jRun X T d mi (pc, ls, st, M) Q := by
  unfold jGet at hs
  split at hs
  · rename_i i r ci k kd pl
    obtain ⟨q, hq, hk, hl, hf, hN, hc9⟩ := jFl_spec (ha ci k kd pl rfl)
    obtain ⟨ty, hin, hnm, hty⟩ := jCls_all q (List.mem_of_getElem? hq)
    have hT : jKd T i = ci := by
      cases hb : Nat.beq kd 0 <;> rw [hb] at hs <;> cases hs <;> exact hob
    intro p e s m args below meth cd H locs sl C hW hI hS hL
    have hi := jKd_lt hT (by omega)
    have he := jWl_at (X := X) (M := M) hi
    rw [jCell_o hT hc9] at he
    refine va_get (C := q.1) (T := q.2.1) (N := q.2.2) (v := jFv X.2.2.2 T M i ci k) C.1 C.2.1 C.2.2.2.2.2.2 hin C.2.2.2.2.2.1 hW.2 hW.1 i he hq k hk (C.2.2.2.2.2.2 _ (jtb hl rfl)) (fun _ h9 => h9) (by simp [hN, hk]) hd ?_
    by_cases e0 : kd = 0
    · subst e0
      cases hs
      have e1 : jFv X.2.2.2 T M i ci k = .ref (X.2.2.2 (jRf T i k)) := by unfold jFv; rw [if_pos hf]
      rw [e1]
      exact h p e s m args below meth cd H locs sl C hW hI hS hL
    · have hb : Nat.beq kd 0 = false := by
        cases kd with
        | zero => exact absurd rfl e0
        | succ n => rfl
      rw [hb] at hs
      cases hs
      have e1 : jFv X.2.2.2 T M i ci k = .int (M i k) := by unfold jFv; rw [if_neg (by rw [hf]; exact e0)]
      rw [e1]
      exact h p e s m args below meth cd H locs sl C hW hI hS hL
  · cases hs
theorem jfit_z {v : Int32} (h : v = 0 ∨ v = 1) : narrow .boolean (.int v) = .int v ∧ fits .boolean (.int v) = true ∧ vp_nar .boolean v = v := by
  rcases h with rfl | rfl <;> decide +kernel
theorem jn_put {idx : Nat} {aux : List Nat} (hd : decode (jM mi).2.1 pc = .ok (.putfield idx, 3)) (ha : ∀ ci k kd pl, aux = [ci, k, kd, pl] → jFl mi idx ci k kd pl = true ∧ jFp ci k kd = true) (hs : jPut T (pc + 3) ls st M aux = some (.inl c', ob)) (hob : ob) (h : jRun X T d mi c' Q) : jRun X T d mi (pc, ls, st, M) Q := by
  unfold jPut at hs
  split at hs
  · rename_i v i r ci k kd pl
    obtain ⟨ha1, ha2⟩ := ha ci k kd pl rfl
    obtain ⟨q, hq, hk, hl, hf, hN, hc9⟩ := jFl_spec ha1
    obtain ⟨hfin, hkd⟩ := jFp_spec hq ha2
    obtain ⟨ty, hin, hnm, hty⟩ := jCls_all q (List.mem_of_getElem? hq)
    have hall : c' = (pc + 3, ls, r, jSC M i (upd (M i) k v)) ∧ jKd T i = ci ∧ ∃ t1, parseFieldDescriptor (q.2.1 k).2.2.1 = some t1 ∧ narrow t1 (.int v) = .int v ∧ fits t1 (.int v) = true := by
      rcases hkd with ⟨rfl, h1⟩ | ⟨rfl, h1⟩
      · cases hs
        exact ⟨rfl, hob, .int, h1, rfl, rfl⟩
      · cases hs
        exact ⟨rfl, hob.1, .boolean, h1, (jfit_z hob.2).1, (jfit_z hob.2).2.1⟩
    obtain ⟨rfl, hT, t1, hd1, hn1, hf1⟩ := hall
    have hk0 : jFk ci k ≠ 0 := by rcases hkd with ⟨h1, -⟩ | ⟨h1, -⟩ <;> omega
    intro p e s m args below meth cd H locs sl C hW hI hS hL
    have hi := jKd_lt hT (by omega)
    have he := jWl_at (X := X) (M := M) hi
    rw [jCell_o hT hc9] at he
    refine va_put (C := q.1) (T := q.2.1) (N := q.2.2) C.1 C.2.1 C.2.2.2.2.2.2 hin ty hty hnm C.2.2.2.2.2.1 hW.2 hW.1 (jD_of hI) hS i he hq k hk (C.2.2.2.2.2.2 _ (jtb hl rfl)) (fun _ h9 => h9) hfin hd1 hn1 hf1 (by simp [hN, hk]) hd (fun H1 locs1 hP1 _ hS1 => ?_)
    have hP1 : va_P X.2.1 vwCl ((jWl X T M).set i (X.2.2.2 i, .inr (ci, ((List.range (jNf ci)).map (jFv X.2.2.2 T M i ci)).set k (.int v)))) H1 := hP1
    rw [jFv_upd hk0, ← jCell_o (M := jSC M i (upd (M i) k v)) hT hc9, jWl_set] at hP1
    exact h p e s m args below meth cd H1 locs1 sl C ⟨hP1, hW.2⟩ hI hS1 hL
  · cases hs
theorem jSC_s {i : Nat} {f : Nat → Int32} : jSC M i f i = f := by simp [jSC]
theorem jSC_n {i c : Nat} {f : Nat → Int32} (h : c ≠ i) : jSC M i f c = M c := by simp [jSC, h]
theorem jn_iald (hd : decode (jM mi).2.1 pc = .ok (.iaload, 1)) (hs : jAl T 9 (pc + 1) ls st M = some (.inl c', ob)) (hob : ob) (h : jRun X T d mi c' Q) : jRun X T d mi (pc, ls, st, M) Q := by
  unfold jAl at hs
  split at hs
  · rename_i j a r
    cases hs
    intro p e s m args below meth cd H locs sl C hW hI hS hL
    have he := jWl_at (X := X) (M := M) (jKd_lt hob.1 (by omega))
    rw [jCell_i hob.1] at he
    exact va_iald C.1 C.2.1 hW.2 hW.1 a 0 he rfl hob.2 hd (h p e s m args below meth cd H locs sl C hW hI hS hL)
  · cases hs
theorem jn_zald (hd : decode (jM mi).2.1 pc = .ok (.baload, 1)) (hs : jAl T 10 (pc + 1) ls st M = some (.inl c', ob)) (hob : ob) (h : jRun X T d mi c' Q) : jRun X T d mi (pc, ls, st, M) Q := by
  unfold jAl at hs
  split at hs
  · rename_i j a r
    cases hs
    intro p e s m args below meth cd H locs sl C hW hI hS hL
    have he := jWl_at (X := X) (M := M) (jKd_lt hob.1 (by omega))
    rw [jCell_z hob.1] at he
    exact va_zald C.1 C.2.1 hW.2 hW.1 a 1 he rfl hob.2 hd (h p e s m args below meth cd H locs sl C hW hI hS hL)
  · cases hs
theorem jn_iast (hd : decode (jM mi).2.1 pc = .ok (.iastore, 1)) (hs : jAs T (pc + 1) ls st M = some (.inl c', ob)) (hob : ob) (h : jRun X T d mi c' Q) : jRun X T d mi (pc, ls, st, M) Q := by
  unfold jAs at hs
  split at hs
  · rename_i v j a r
    cases hs
    intro p e s m args below meth cd H locs sl C hW hI hS hL
    have he := jWl_at (X := X) (M := M) (jKd_lt hob.1 (by omega))
    rw [jCell_i hob.1] at he
    refine va_iast C.1 C.2.1 hW.2 hW.1 (jD_of hI) hS a 0 he rfl hob.2 hd (fun H1 locs1 hP1 _ hS1 => ?_)
    have e1 := jCell_i (X := X) (M := jSC M a (upd (M a) j.toNatClampNeg v)) hob.1
    rw [jSC_s] at e1
    rw [← e1, jWl_set] at hP1
    exact h p e s m args below meth cd H1 locs1 sl C ⟨hP1, hW.2⟩ hI hS1 hL
  · cases hs
theorem jn_zast (hd : decode (jM mi).2.1 pc = .ok (.bastore, 1)) (hs : jZs T (pc + 1) ls st M = some (.inl c', ob)) (hob : ob) (h : jRun X T d mi c' Q) : jRun X T d mi (pc, ls, st, M) Q := by
  unfold jZs at hs
  split at hs
  · rename_i v j a r
    cases hs
    intro p e s m args below meth cd H locs sl C hW hI hS hL
    have he := jWl_at (X := X) (M := M) (jKd_lt hob.1 (by omega))
    rw [jCell_z hob.1] at he
    refine va_zast C.1 C.2.1 hW.2 hW.1 (jD_of hI) hS a 1 he rfl hob.2.1 hd (fun H1 locs1 hP1 _ hS1 => ?_)
    have e1 := jCell_z (X := X) (M := jSC M a (upd (M a) j.toNatClampNeg v)) hob.1
    rw [jSC_s] at e1
    rw [(jfit_z hob.2.2).2.2, ← e1, jWl_set] at hP1
    exact h p e s m args below meth cd H1 locs1 sl C ⟨hP1, hW.2⟩ hI hS1 hL
  · cases hs
theorem jn_alen (hd : decode (jM mi).2.1 pc = .ok (.arraylength, 1)) (hs : jLen T (pc + 1) ls st M = some (.inl c', ob)) (hob : ob) (h : jRun X T d mi c' Q) : jRun X T d mi (pc, ls, st, M) Q := by
  unfold jLen at hs
  split at hs
  · rename_i a r
    cases hs
    intro p e s m args below meth cd H locs sl C hW hI hS hL
    have he := jWl_at (X := X) (M := M) (jKd_lt hob (by omega))
    rw [jCell_i hob] at he
    exact va_alen C.1 C.2.1 hW.2 hW.1 a 0 he rfl rfl hd (h p e s m args below meth cd H locs sl C hW hI hS hL)
  · cases hs
theorem jn_cpy {idx pl : Nat} (hd : decode (jM mi).2.1 pc = .ok (.invokestatic idx, 3)) (hl : lw_tbl[pl]? = some (.methodLink (jM mi).1.cls idx arraycopyName)) (hs : jCpy T (pc + 3) ls st M = some (.inl c', ob)) (hob : ob) (h : jRun X T d mi c' Q) : jRun X T d mi (pc, ls, st, M) Q := by
  unfold jCpy at hs
  split at hs
  · rename_i n dp b sp a r
    obtain ⟨g, e⟩ := jbif hs
    cases e
    obtain ⟨o1, o2, o3, o4, o5, o6, o7⟩ := hob
    intro p e s m args below meth cd H locs sl C hW hI hS hL
    have he := jWl_at (X := X) (M := M) (jKd_lt o1 (by omega))
    rw [jCell_i o1] at he
    have he2 := jWl_at (X := X) (M := M) (jKd_lt o2 (by omega))
    rw [jCell_i o2] at he2
    have hr := jsum (ad := X.2.2.2) r 4 (Nat.le_of_ble_eq_true g)
    have hfr : 1 ≤ (jRm d).frames := Nat.succ_le_succ (Nat.zero_le _)
    have hw7 : nativeFrameWords "java/lang/System" "arraycopy" 5 = 7 := by decide +kernel
    have hlo : ((r.map (jtr X.2.2.2)).map fun v => v.category).sum + (nativeFrameWords "java/lang/System" "arraycopy" 5 + 11) ≤ (jRm d).locals := by
      show _ ≤ 40 * (d + 1)
      omega
    refine va_copyi C.1 C.2.1 (C.2.2.2.2.1.trans hL.2.1.symm) C.2.2.2.2.2.1 (C.2.2.2.2.2.2 _ (jtb hl rfl)) (C.2.2.2.2.2.2 _ jw_cpy.1) (C.2.2.2.2.2.2 _ jw_cpy.2.1) (C.2.2.2.2.2.2 _ jw_cpy.2.2) hW.2 hW.1 (jD_of hI) hS a b 0 0 he he2 rfl rfl rfl o3 o4 o5 o6 o7 (fun _ _ => rfl) hfr hlo hd (fun H1 locs1 hP1 _ hS1 => ?_)
    have e1 := jCell_i (X := X) (M := jSC M b (va_cpy (M a) (M b) sp.toNatClampNeg dp.toNatClampNeg n.toNatClampNeg)) o2
    rw [jSC_s] at e1
    rw [← e1, jWl_set] at hP1
    exact h p e s m args below meth cd H1 locs1 sl C ⟨hP1, hW.2⟩ hI hS1 hL
  · cases hs
theorem jn_min {idx pl : Nat} (hd : decode (jM mi).2.1 pc = .ok (.invokestatic idx, 3)) (hl : lw_tbl[pl]? = some (.methodLink (jM mi).1.cls idx Lib.Math.min.name)) (hs : jMin (pc + 3) ls st M = some (.inl c', ob)) (h : jRun X T d mi c' Q) : jRun X T d mi (pc, ls, st, M) Q := by
  unfold jMin at hs
  split at hs
  · rename_i y x r
    obtain ⟨g, e⟩ := jbif hs
    cases e
    intro p e s m args below meth cd H locs sl C hW hI hS hL
    have hr := jsum (ad := X.2.2.2) r 4 (Nat.le_of_ble_eq_true g)
    have hfr : 1 ≤ (jRm d).frames := Nat.succ_le_succ (Nat.zero_le _)
    have hlo : ((r.map (jtr X.2.2.2)).map fun v => v.category).sum + 13 ≤ (jRm d).locals := by
      show _ ≤ 40 * (d + 1)
      omega
    exact va_mmin C.1 C.2.1 (C.2.2.2.2.1.trans hL.2.1.symm) C.2.2.2.2.2.1 (C.2.2.2.2.2.2 _ (jtb hl rfl)) (C.2.2.2.2.2.2 _ jw_min.1) (C.2.2.2.2.2.2 _ jw_min.2) (C.2.2.2.2.2.2 _ jw_minc) hfr hlo (Nat.zero_le _) (Nat.zero_le _) hd (h p e s m args below meth cd H locs sl C hW hI hS hL)
  · cases hs
end JP
