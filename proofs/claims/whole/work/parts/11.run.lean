/-! one step whatever the instruction; a block; a contract from its run -/
section JS
variable {X : jX} {T : jT} {d mi pc : Nat} {ls st : List Value} {M : jMem} {Q : Option Value → jMem → Prop} {ob : Prop} {c' : jCfg}
theorem jn_step {e : jE} (hd : decode (jM mi).2.1 pc = .ok (e.1, jSz e.1 e.2.1)) (ha : jAux mi pc e = true) (hs : jSem T pc ls st M e = some (.inl c', ob)) (hob : ob) (h : jRun X T d mi c' Q) : jRun X T d mi (pc, ls, st, M) Q := by
  obtain ⟨ins, len, aux⟩ := e
  cases ins with
  | iconst n => cases hs; exact jn_iconst hd h
  | bipush n => cases hs; exact jn_bipush hd h
  | sipush n => cases hs; exact jn_sipush hd h
  | lconst n => cases hs; exact jn_lconst hd h
  | ldc idx =>
    simp only [jSem, jLdc] at hs
    split at hs
    · cases hs; exact jn_ldc hd (decide_eq_true_eq.mp ha) h
    · cases hs
  | ldc_w idx =>
    simp only [jSem, jLdc] at hs
    split at hs
    · cases hs; exact jn_ldcw hd (decide_eq_true_eq.mp ha) h
    · cases hs
  | ldc2_w idx =>
    simp only [jSem, jLd2] at hs
    split at hs
    · cases hs; exact jn_ldc2 hd (decide_eq_true_eq.mp ha) h
    · cases hs
  | iload_n k => exact jn_iload_n hd hs h
  | iload k => exact jn_iload hd hs h
  | lload_n k => exact jn_lload_n hd hs h
  | lload k => exact jn_lload hd hs h
  | aload_n k => exact jn_aload_n hd hs h
  | aload k => exact jn_aload hd hs h
  | istore_n k => exact jn_istore_n hd hs h
  | istore k => exact jn_istore hd hs h
  | astore_n k => exact jn_astore_n hd hs h
  | astore k => exact jn_astore hd hs h
  | iinc i n => exact jn_iinc hd hs h
  | iadd => exact jn_iadd hd hs hob h
  | isub => exact jn_isub hd hs hob h
  | imul => exact jn_imul hd hs hob h
  | iand => exact jn_iand hd hs hob h
  | ior => exact jn_ior hd hs hob h
  | ixor => exact jn_ixor hd hs hob h
  | ishl => exact jn_ishl hd hs hob h
  | ishr => exact jn_ishr hd hs hob h
  | iushr => exact jn_iushr hd hs hob h
  | idiv => exact jn_idiv hd hs hob h
  | irem => exact jn_irem hd hs hob h
  | ineg => exact jn_ineg hd hs h
  | i2l => exact jn_i2l hd hs h
  | lcmp => exact jn_lcmp hd hs h
  | dup => exact jn_dup hd hs h
  | dup_x1 => exact jn_dup_x1 hd hs h
  | dup2 => exact jn_dup2 hd hs h
  | ifCond c off =>
    have ht : ∀ t, aux = [t] → (pc : Int) + off = (t : Int) := fun t e => by subst e; exact decide_eq_true_eq.mp ha
    cases c with
    | eq => exact jn_if_eq hd ht hs h
    | ne => exact jn_if_ne hd ht hs h
    | lt => exact jn_if_lt hd ht hs h
    | ge => exact jn_if_ge hd ht hs h
    | gt => exact jn_if_gt hd ht hs h
    | le => exact jn_if_le hd ht hs h
  | if_icmp c off =>
    have ht : ∀ t, aux = [t] → (pc : Int) + off = (t : Int) := fun t e => by subst e; exact decide_eq_true_eq.mp ha
    cases c with
    | eq => exact jn_ic_eq hd ht hs h
    | ne => exact jn_ic_ne hd ht hs h
    | lt => exact jn_ic_lt hd ht hs h
    | ge => exact jn_ic_ge hd ht hs h
    | gt => exact jn_ic_gt hd ht hs h
    | le => exact jn_ic_le hd ht hs h
  | goto off => exact jn_goto hd (fun t e => by subst e; exact decide_eq_true_eq.mp ha) hs h
  | tableswitch df lo hi offs =>
    refine jn_tsw hd (fun dd ts e => ?_) hs h
    subst e
    simp only [jAux, Bool.and_eq_true, decide_eq_true_eq] at ha
    exact ha
  | getfield idx =>
    refine jn_get hd (fun ci k kd pl e => ?_) hs hob h
    subst e
    exact ha
  | putfield idx =>
    refine jn_put hd (fun ci k kd pl e => ?_) hs hob h
    subst e
    simp only [jAux, Bool.and_eq_true] at ha
    exact ha
  | iaload => exact jn_iald hd hs hob h
  | baload => exact jn_zald hd hs hob h
  | iastore => exact jn_iast hd hs hob h
  | bastore => exact jn_zast hd hs hob h
  | arraylength => exact jn_alen hd hs hob h
  | invokevirtual idx =>
    simp only [jSem, jVirt, jInv] at hs
    split at hs
    · split at hs
      · obtain ⟨-, e⟩ := jbif hs
        cases e
      · cases hs
    · cases hs
  | invokestatic idx =>
    simp only [jSem, jStat] at hs
    split at hs
    · exact jn_cpy hd (decide_eq_true_eq.mp ha) hs hob h
    · exact jn_min hd (decide_eq_true_eq.mp ha) hs h
    · unfold jIns at hs
      obtain ⟨-, e⟩ := jbif hs
      cases e
    · cases hs
  | ireturn =>
    simp only [jSem, jIre] at hs
    split at hs
    · revert hs
      cases Nat.beq _ _ <;> intro hs <;> cases hs
    · cases hs
  | areturn =>
    simp only [jSem, jAre] at hs
    split at hs <;> cases hs
  | return_ =>
    simp only [jSem, jVre] at hs
    split at hs <;> cases hs
  | _ => cases hs
theorem jOkE_spec {e : jE} (h : jCode mi pc = some e) : decode (jM mi).2.1 pc = .ok (e.1, jSz e.1 e.2.1) ∧ jAux mi pc e = true := by
  have := jCk mi pc e h
  simp only [jOkE, Bool.and_eq_true, decide_eq_true_eq] at this
  exact this
theorem jStp_spec {k : Nat → Option jE} {c : jCfg} {r : jOut × Prop} (h : jStp T k c = some r) : ∃ e, k c.1 = some e ∧ jSem T c.1 c.2.1 c.2.2.1 c.2.2.2 e = some r := by
  unfold jStp at h
  split at h
  · rename_i e he
    exact ⟨e, he, h⟩
  · cases h
/-- a block that goes on -/
theorem jRun.cut {k : Nat → Option jE} (hk : jCode mi = k) (n : Nat) {c : jCfg} (hs : jStps T k n c = some (.inl c', ob)) (hob : ob) (h : jRun X T d mi c' Q) : jRun X T d mi c Q := by
  induction n generalizing c ob with
  | zero => cases hs; exact h
  | succ n ih =>
    simp only [jStps] at hs
    split at hs
    · rename_i c1 ob1 h1
      split at hs
      · rename_i o ob2 h2
        cases hs
        obtain ⟨e, he, hse⟩ := jStp_spec h1
        subst hk
        obtain ⟨g1, g2⟩ := jOkE_spec he
        exact jn_step g1 g2 hse hob.1 (ih h2 hob.2)
      · cases hs
    · rename_i h1
      exact absurd hs (h1 c' ob)
/-- a block that ends with the method's return -/
theorem jRun.ret {k : Nat → Option jE} (hk : jCode mi = k) (n : Nat) {c : jCfg} {v : Option Value} {M1 : jMem} (hs : jStps T k n c = some (.inr (.inl (v, M1)), ob)) (hob : ob) (h : Q v M1) : jRun X T d mi c Q := by
  induction n generalizing c ob with
  | zero => cases hs
  | succ n ih =>
    simp only [jStps] at hs
    split at hs
    · rename_i c1 ob1 h1
      split at hs
      · rename_i o ob2 h2
        cases hs
        obtain ⟨e, he, hse⟩ := jStp_spec h1
        subst hk
        obtain ⟨g1, g2⟩ := jOkE_spec he
        exact jn_step g1 g2 hse hob.1 (ih h2 hob.2)
      · cases hs
    · obtain ⟨e, he, hse⟩ := jStp_spec hs
      subst hk
      obtain ⟨g1, g2⟩ := jOkE_spec he
      exact jn_ret g1 g2 hse hob h
/-- a block that ends with a call -/
theorem jRun.call {k : Nat → Option jE} (hk : jCode mi = k) (n : Nat) {c : jCfg} {f : Nat} {As : List Value} {c1 : jCfg} {Q1 : Option Value → jMem → Prop} (hs : jStps T k n c = some (.inr (.inr (f, As, c1)), ob)) (hob : ob)
    (hM : jOk X T d f As c1.2.2.2 Q1) (h : ∀ v M1, Q1 v M1 → jRun X T (d + 1) mi (c1.1, c1.2.1, v.toList ++ c1.2.2.1, M1) Q) : jRun X T (d + 1) mi c Q := by
  induction n generalizing c ob with
  | zero => cases hs
  | succ n ih =>
    simp only [jStps] at hs
    split at hs
    · rename_i c1 ob1 h1
      split at hs
      · rename_i o ob2 h2
        cases hs
        obtain ⟨e, he, hse⟩ := jStp_spec h1
        subst hk
        obtain ⟨g1, g2⟩ := jOkE_spec he
        exact jn_step g1 g2 hse hob.1 (ih h2 hob.2)
      · cases hs
    · obtain ⟨e, he, hse⟩ := jStp_spec hs
      subst hk
      obtain ⟨g1, g2⟩ := jOkE_spec he
      exact jn_call g1 g2 hse hob hM h
/-- the locals at a method's entry -/
def jEx : List Value → List Value
  | [] => []
  | .long v :: r => .long v :: .null :: jEx r
  | .double v :: r => .double v :: .null :: jEx r
  | v :: r => v :: jEx r
def jLoc (n : Nat) (As : List Value) : List Value := jEx As ++ List.replicate (n - (jEx As).length) .null
theorem jEx_len (ad : Nat → Nat) : ∀ As : List Value, (lg_sl (As.map (jtr ad))).length = (jEx As).length
  | [] => rfl
  | v :: r => by
    have ih := jEx_len ad r
    cases v <;> simp [jEx, lg_sl, jtr, Value.category] at ih ⊢ <;> omega
theorem jEx_args (ad : Nat → Nat) : ∀ (As : List Value) (o i : Nat), jAt (jEx As) i ≠ .null → (o + i, jtr ad (jAt (jEx As) i)) ∈ lv_args o (As.map (jtr ad))
  | [], o, i, h => absurd rfl h
  | v :: r, o, i, h => by
    have ih := jEx_args ad r
    cases v with
    | long x =>
      cases i with
      | zero => simp [jEx, jAt, lv_args, jtr]
      | succ i => cases i with
        | zero => simp [jEx, jAt] at h
        | succ i =>
          simp only [jEx, jAt] at h ⊢
          have := ih (o + 2) i h
          simp only [List.map_cons, lv_args, jtr, Value.category]
          exact List.mem_cons_of_mem _ (by rw [show o + (i + 1 + 1) = o + 2 + i by omega]; exact this)
    | double x =>
      cases i with
      | zero => simp [jEx, jAt, lv_args, jtr]
      | succ i => cases i with
        | zero => simp [jEx, jAt] at h
        | succ i =>
          simp only [jEx, jAt] at h ⊢
          have := ih (o + 2) i h
          simp only [List.map_cons, lv_args, jtr, Value.category]
          exact List.mem_cons_of_mem _ (by rw [show o + (i + 1 + 1) = o + 2 + i by omega]; exact this)
    | _ =>
      cases i with
      | zero => simp [jEx, jAt, lv_args, jtr]
      | succ i =>
        simp only [jEx, jAt] at h ⊢
        have := ih (o + 1) i h
        simp only [List.map_cons, lv_args, jtr, Value.category]
        exact List.mem_cons_of_mem _ (by rw [show o + (i + 1) = o + 1 + i by omega]; exact this)
theorem jAt_app : ∀ (a : List Value) (n i : Nat), jAt (a ++ List.replicate n .null) i ≠ .null → jAt (a ++ List.replicate n .null) i = jAt a i
  | [], n, i, h => by
    exfalso
    apply h
    induction n generalizing i with
    | zero => rfl
    | succ n ih => cases i with
      | zero => rfl
      | succ i => exact ih i (fun q => h (by simpa [List.replicate, jAt] using q))
  | v :: r, n, 0, h => rfl
  | v :: r, n, i + 1, h => jAt_app r n i h
theorem jOk.intro {As : List Value} {ml : Nat} (hf : mi < jTab.length) (hml : (jM mi).2.2.1 = ml) (hle : (jEx As).length ≤ ml) (hls : jLoc ml As = ls) (hI : jInj X T) (h : jRun X T d mi (0, ls, [], M) Q) : jOk X T d mi As M Q := by
  subst hml
  subst hls
  obtain ⟨u1, u2, u3, u4, -, -⟩ := jMchk_u hf
  refine Met.ofW (cc := (jM mi).2.1) (maxL := (jM mi).2.2.1) (ret := (jM mi).2.2.2.1) u3 rfl ?_
  intro p e s m args below meth c s₁ B hml hv
  obtain ⟨rfl, hW⟩ := hv
  have hts := atoms_spec (ws := jWs mi) B.pre
  have hown : s.vm.findClass (jM mi).1.cls = some m.cls := findClass_of_methodNamed B.named
  have C : jMC p s m (As.map (jtr X.2.2.2)).toArray meth c mi := ⟨B.exec, B.bytes, B.returns, B.notSynchronized, hml, hown, fun w hw => hts w (List.mem_cons_of_mem _ hw)⟩
  have hl := lv_entry (As.map (jtr X.2.2.2)) (n := (jM mi).2.2.1) (by rw [jEx_len]; exact hle)
  rw [lg_entry_eq]
  refine h p e s m _ below meth c s.heap [] _ C hW hI va_S.rf ⟨?_, hl.1, hl.2.1, fun i hi => ?_⟩
  · show (jLoc (jM mi).2.2.1 As).length = (jM mi).2.2.1
    simp only [jLoc, List.length_append, List.length_replicate]
    omega
  · have e1 := jAt_app (jEx As) ((jM mi).2.2.1 - (jEx As).length) i hi
    have e2 : jAt (jEx As) i ≠ .null := by rw [← e1]; exact hi
    have := jEx_args X.2.2.2 As 0 i e2
    rw [Nat.zero_add] at this
    have := hl.2.2 _ this
    show _ = some (Slot.val (jtr X.2.2.2 (jAt (jEx As ++ List.replicate ((jM mi).2.2.1 - (jEx As).length) .null) i)))
    rw [e1]
    exact this
end JS
