/-! returns, calls; a block of steps; a contract from a run -/
section JR
variable {X : jX} {T : jT} {d mi pc : Nat} {ls st : List Value} {M : jMem} {Q : Option Value → jMem → Prop} {ob : Prop}
theorem jq_of {X : jX} {T : jT} {M : jMem} {Q : Option Value → jMem → Prop} {v : Option Value} {args : Array Value} {s : State} {H : Heap} {locs : List Loc} (hq : Q v M) (hW : jWd X T M s H) (hS : va_S (jA X T) s.heap H locs) : ∀ t : State, t.heap = H → s.WarmedH t.vm → jQc X T Q args s (.returned (v.map (jtr X.2.2.2))) t := by
  intro t ht hw
  refine ⟨⟨v, M, rfl, hq, ?_⟩, hS.F ht⟩
  rw [ht]
  exact jWd_moved hw.alike hW
theorem jn_ret {e : jE} {r : Option Value × jMem} (hd : decode (jM mi).2.1 pc = .ok (e.1, jSz e.1 e.2.1)) (ha : jAux mi pc e = true) (hs : jSem T pc ls st M e = some (.inr (.inl r), ob)) (hob : ob) (hq : Q r.1 r.2) : jRun X T d mi (pc, ls, st, M) Q := by
  obtain ⟨ins, len, aux⟩ := e
  cases ins with
  | ireturn =>
    simp only [jSem, jIre] at hs
    split at hs
    · rename_i v k
      intro p e s m args below meth cd H locs sl C hW hI hS hL
      by_cases hk : k = 0
      · subst hk
        cases hs
        have hr : (jM mi).2.2.2.1 = some .int := decide_eq_true_eq.mp ha
        exact W.iret C.1 C.2.1 (C.2.2.1.trans hr) (jq_of (v := some (.int v)) hq hW hS) hS.2.2 hd C.2.2.2.1
      · have hb : Nat.beq k 0 = false := by
          cases k with
          | zero => exact absurd rfl hk
          | succ n => rfl
        rw [hb] at hs
        cases hs
        have hr : (jM mi).2.2.2.1 = some .boolean := by
          cases k with
          | zero => exact absurd rfl hk
          | succ n => exact decide_eq_true_eq.mp ha
        exact W.zret C.1 C.2.1 (C.2.2.1.trans hr) (jfit_z hob).1 (jq_of (v := some (.int v)) hq hW hS) hS.2.2 hd C.2.2.2.1
    · cases hs
  | areturn =>
    simp only [jSem, jAre] at hs
    split at hs
    · rename_i i
      cases hs
      intro p e s m args below meth cd H locs sl C hW hI hS hL
      have hr : ∃ n, (jM mi).2.2.2.1 = some (.object n) := by
        simp only [jAux] at ha
        split at ha
        · rename_i n hn
          exact ⟨n, hn⟩
        · cases ha
      obtain ⟨n, hr⟩ := hr
      exact W.aret C.1 C.2.1 (C.2.2.1.trans hr) (Or.inl ⟨n, rfl⟩) (Or.inr ⟨_, rfl⟩) (jq_of (v := some (.ref i)) hq hW hS) hS.2.2 hd C.2.2.2.1
    · cases hs
  | return_ =>
    simp only [jSem, jVre] at hs
    split at hs
    · cases hs
      intro p e s m args below meth cd H locs sl C hW hI hS hL
      have hr : (jM mi).2.2.2.1 = none := decide_eq_true_eq.mp ha
      exact W.vret C.1 C.2.1 (C.2.2.1.trans hr) (jq_of (v := none) hq hW hS) hS.2.2 hd C.2.2.2.1
    · cases hs
  | invokevirtual idx =>
    simp only [jSem, jVirt, jInv] at hs
    split at hs
    · split at hs
      · obtain ⟨-, e⟩ := jbif hs
        cases e
      · cases hs
    · cases hs
  | invokestatic idx =>
    simp only [jSem, jStat, jIns, jCpy, jMin] at hs
    split at hs
    · split at hs
      · obtain ⟨-, e⟩ := jbif hs
        cases e
      · cases hs
    · split at hs
      · obtain ⟨-, e⟩ := jbif hs
        cases e
      · cases hs
    · obtain ⟨-, e⟩ := jbif hs
      cases e
    · cases hs
  | _ =>
    exfalso
    simp only [jSem, jgo, jLdc, jLd2, jIld, jLld, jAld, jIst, jAst, jInc, jBin, jNeg, jI2l, jLcm, jDup, jDx1, jDu2, jIf, jIc, jGoto, jTsw, jGet, jPut, jAl, jAs, jZs, jLen] at hs
    first
      | (cases hs; done)
      | (split at hs <;> first | (cases hs; done) | (obtain ⟨-, e⟩ := jbif hs; cases e; done) | (revert hs; cases Nat.beq _ _ <;> intro hs <;> cases hs; done))
theorem jMCfix {p : Program} {s : State} {m : MethodId} {args : Array Value} {meth : Method} {cd : Code} (C : jMC p s m args meth cd mi) : CallFix p m cd (jM mi).2.1 (jM mi).2.2.1 s args jTb (jM mi).1.cls := ⟨C.1, C.2.1, C.2.2.2.2.1, C.2.2.2.2.2.1, C.2.2.2.2.2.2⟩
theorem jws_in {f : Nat} (h : f < jTab.length) : ∀ w ∈ jWs f, w ∈ jTb := fun w hw => (List.mem_cons.mp hw).elim (fun e => e ▸ jcd f h) id
theorem jroom {f : Nat} (h : (jM f).2.2.1 ≤ 21) : (jRm d).frames + 1 ≤ (jRm (d + 1)).frames ∧ 8 + ((jM f).2.2.1 + 11) + (jRm d).locals ≤ (jRm (d + 1)).locals := by
  refine ⟨Nat.le_refl _, ?_⟩
  show 8 + ((jM f).2.2.1 + 11) + 40 * (d + 1) ≤ 40 * (d + 1 + 1)
  omega
theorem jn_call {e : jE} {f : Nat} {As : List Value} {c1 : jCfg} {Q1 : Option Value → jMem → Prop} (hd : decode (jM mi).2.1 pc = .ok (e.1, jSz e.1 e.2.1)) (ha : jAux mi pc e = true) (hs : jSem T pc ls st M e = some (.inr (.inr (f, As, c1)), ob)) (hob : ob)
    (hM : jOk X T d f As c1.2.2.2 Q1) (h : ∀ v M1, Q1 v M1 → jRun X T (d + 1) mi (c1.1, c1.2.1, v.toList ++ c1.2.2.1, M1) Q) : jRun X T (d + 1) mi (pc, ls, st, M) Q := by
  obtain ⟨ins, len, aux⟩ := e
  cases ins with
  | invokevirtual idx =>
    simp only [jSem, jVirt, jInv] at hs
    split at hs
    · rename_i f' n x oc pl
      split at hs
      · rename_i i r hdr
        obtain ⟨g, e⟩ := jbif hs
        cases e
        simp only [Bool.and_eq_true] at g
        have g1 : r.length ≤ 4 := Nat.le_of_ble_eq_true g.1
        have g2 : (st.take n).length = n := Nat.eq_of_beq_eq_true g.2
        have hst : st = st.take n ++ .ref i :: r := by rw [← hdr, List.take_append_drop]
        simp only [jAux, Bool.and_eq_true, decide_eq_true_eq] at ha
        obtain ⟨a1, a2, a3, a4, a5⟩ := ha
        obtain ⟨u1, u2, u3, u4, u5, -⟩ := jMchk_u a5
        obtain ⟨v1, v2, q, hq, hqc⟩ := u5 a4
        rw [a2] at hq
        have hc9 : oc < 9 := (List.getElem?_eq_some_iff.mp hq).1
        intro p e s m args below meth cd H locs sl C hW hI hS hL
        have he := jWl_at (X := X) (M := M) (jKd_lt hob (by omega))
        rw [jCell_o hob hc9] at he
        refine jCallX (rest := r.map (jtr X.2.2.2)) (va_runV (b := X.2.2.2 i) (As := (st.take n).reverse.map (jtr X.2.2.2)) (jMCfix C) hM (cwV n C.2.2.2.2.2.2 (jtb_good (fun w hw => ?_)) rfl rfl rfl ⟨rfl, u2.1, u2.2.1, by rw [← a3]; exact u2.2.2⟩ (jroom u4)) ⟨jblind, ?_, fun U hU hw => ⟨rfl, ?_⟩⟩ rfl (by rw [List.length_map, List.length_reverse, g2]) hL.2.1 ?_ ?_ hd ⟨Nat.le_refl _, Nat.le_refl _⟩) hS (fun _ z => z) (fun v M1 H1 locs1 hq1 hw1 hs1 => ?_)
        · simp only [wsV] at hw
          rcases List.mem_append.mp hw with z | z
          · simp only [List.mem_cons, List.not_mem_nil, or_false] at z
            rcases z with rfl | rfl | rfl | rfl
            · exact jtb a1 rfl
            · exact v1
            · exact v2
            · exact u1
          · exact jws_in a5 w z
        · have := va_recv hW.2 hW.1 hq he
          rw [hqc] at this
          exact this
        · show jWd X T M U U.heap
          rw [hU]
          exact jWd_moved hw.alike hW
        · show st.map (jtr X.2.2.2) = _
          conv => lhs; rw [hst]
          simp [jtr]
        · exact lv_room (jsum r 4 g1)
        · have hk := h v M1 hq1 p e s m args below meth cd H1 locs1 sl C hw1 hI hs1 hL
          cases v with
          | none => exact hk
          | some v => exact hk
      · cases hs
    · cases hs
  | invokestatic idx =>
    simp only [jSem, jStat, jIns, jCpy, jMin] at hs
    split at hs
    · split at hs
      · obtain ⟨-, e⟩ := jbif hs
        cases e
      · cases hs
    · split at hs
      · obtain ⟨-, e⟩ := jbif hs
        cases e
      · cases hs
    · rename_i f' n x y pl
      obtain ⟨g, e⟩ := jbif hs
      cases e
      simp only [Bool.and_eq_true] at g
      have g1 : (st.drop n).length ≤ 4 := Nat.le_of_ble_eq_true g.1
      have g2 : (st.take n).length = n := Nat.eq_of_beq_eq_true g.2
      have hst : st = st.take n ++ st.drop n := by rw [List.take_append_drop]
      simp only [jAux, Bool.and_eq_true, decide_eq_true_eq] at ha
      obtain ⟨a1, a3, a4, a5⟩ := ha
      obtain ⟨u1, u2, u3, u4, -, u5⟩ := jMchk_u a5
      have v1 := u5 a4
      intro p e s m args below meth cd H locs sl C hW hI hS hL
      refine jCallX (rest := (st.drop n).map (jtr X.2.2.2)) (va_runS (As := (st.take n).reverse.map (jtr X.2.2.2)) (jMCfix C) hM (va_cwS n C.2.2.2.2.2.2 (jtb_good (fun w hw => ?_)) rfl rfl rfl ⟨u2.1, u2.2.1, by rw [← a3]; exact u2.2.2⟩ (jroom u4)) ⟨jblind, fun U hU hw => ⟨rfl, ?_⟩⟩ rfl (by rw [List.length_map, List.length_reverse, g2]) hL.2.1 ?_ ?_ hd ⟨Nat.le_refl _, Nat.le_refl _⟩) hS (fun _ z => z) (fun v M1 H1 locs1 hq1 hw1 hs1 => ?_)
      · simp only [va_wsS] at hw
        rcases List.mem_append.mp hw with z | z
        · simp only [List.mem_cons, List.not_mem_nil, or_false] at z
          rcases z with rfl | rfl | rfl
          · exact jtb a1 rfl
          · exact v1
          · exact u1
        · exact jws_in a5 w z
      · show jWd X T M U U.heap
        rw [hU]
        exact jWd_moved hw.alike hW
      · show st.map (jtr X.2.2.2) = _
        conv => lhs; rw [hst]
        simp
      · exact lv_room (jsum (st.drop n) 4 g1)
      · have hk := h v M1 hq1 p e s m args below meth cd H1 locs1 sl C hw1 hI hs1 hL
        cases v with
        | none => exact hk
        | some v => exact hk
    · cases hs
  | ireturn =>
    simp only [jSem, jIre] at hs
    split at hs
    · revert hs
      cases Nat.beq _ _ <;> intro hs <;> cases hs
    · cases hs
  | areturn =>
    simp only [jSem, jAre] at hs
    split at hs <;> cases hs
  | return_ =>
    simp only [jSem, jVre] at hs
    split at hs <;> cases hs
  | _ =>
    exfalso
    simp only [jSem, jgo, jLdc, jLd2, jIld, jLld, jAld, jIst, jAst, jInc, jBin, jNeg, jI2l, jLcm, jDup, jDx1, jDu2, jIf, jIc, jGoto, jTsw, jGet, jPut, jAl, jAs, jZs, jLen] at hs
    first
      | (cases hs; done)
      | (split at hs <;> first | (cases hs; done) | (obtain ⟨-, e⟩ := jbif hs; cases e; done) | (revert hs; cases Nat.beq _ _ <;> intro hs <;> cases hs; done))
end JR
