/-! constructors: a run with a world that grows behind the new object -/
abbrev kX : Type := Launch × va_G × (ClassId × ClassId)
def kTys (Y : kX) : List (ClassId × FieldType) := [(Y.2.2.1, .int), (Y.2.2.2, .boolean)]
def kNs : List Cond := [.methodLinkNest RX7 11 yX6_init RX7, .methodLinkNest RX7 28 yX0_init RX7, .methodLinkNest RX0 9 yX5_init RX7, .methodLinkNest RX0 18 yX2_init RX7, .methodLinkNest RX4 11 yX5_init RX7]
def kNk (U : State) : Prop := ∀ w ∈ kNs, va_Nw w U
theorem kNk.warm {s U : State} (hW : s.WarmedH U.vm) (h : kNk s) : kNk U := by
  intro w hw
  have h1 := h w hw
  simp only [kNs, List.mem_cons, List.not_mem_nil, or_false] at hw
  rcases hw with rfl | rfl | rfl | rfl | rfl <;> exact va_Nw.warmM hW h1
theorem kNk.same {s U : State} (hv : s.vm = U.vm) (h : kNk s) : kNk U := by
  intro w hw
  have h1 := h w hw
  simp only [kNs, List.mem_cons, List.not_mem_nil, or_false] at hw
  rcases hw with rfl | rfl | rfl | rfl | rfl <;> exact va_Nw.same rfl hv h1
def kDf (ci : Nat) : List Value := (List.range (jNf ci)).map (fun k => if jFk ci k = 0 then .null else .int 0)
def kMC (Y : kX) (p : Program) (s : State) (m : MethodId) (args : Array Value) (meth : Method) (cd : Code) (y : MethodName) (cc : ByteArray) (nL : Nat) : Prop :=
  p.tables.exec = Jvm.exec ∧ cd.code = cc ∧ meth.sig.returnType = none ∧ meth.locks = false ∧ cd.maxLocals = nL ∧ s.vm.findClass y.cls = some m.cls ∧ (∀ w ∈ jTb, w.before args s = true) ∧ meth.name = "<init>" ∧ va_K Y.2.1 vwCl (kTys Y) s ∧ kNk s
def kRm (d mc ms : Nat) : Room := { frames := d + 1, cells := mc, slots := ms, locals := 40 * (d + 1) }
def kA (h0 ci sz : Nat) : Nat → Prop := va_A [(h0, .inr (ci, kDf ci))] sz
def kQ (Y : kX) (h0 ci sz : Nat) (post : va_W → Prop) : Array Value → State → Outcome → State → Prop := va_Qv post (fun (w1 : va_W) (t : State) => va_P Y.2.1 vwCl w1 t.heap ∧ va_D (kA h0 ci sz) w1) (kA h0 ci sz)
def kPre (Y : kX) (h0 ci sz : Nat) (U : State) : Prop := U.heap.size = sz ∧ va_P Y.2.1 vwCl [(h0, .inr (ci, kDf ci))] U.heap ∧ va_K Y.2.1 vwCl (kTys Y) U ∧ kNk U
abbrev kM : Type := MethodName × ByteArray × Nat
abbrev kN : Type := Nat × Nat × Nat
def kOk (Y : kX) (μ : kM) (ρ : kN) (h0 ci : Nat) (As : List Value) (post : va_W → Prop) : Prop := ∀ sz, Met Y.1 μ.1 (Cond.code μ.1 μ.2.1 μ.2.2 none :: jTb) (kRm ρ.1 ρ.2.1 ρ.2.2) (va_Pc (.ref h0 :: As) (kPre Y h0 ci sz)) (kQ Y h0 ci sz post) ρ.2.1 ρ.2.2 (kA h0 ci sz)
def kR (Y : kX) (μ : kM) (ρ : kN) (h0 ci sz : Nat) (post : va_W → Prop) (pc : Nat) (ls st fs : List Value) (ws : va_W) (cells slots : Nat) : Prop :=
  ∀ (p : Program) (e : Env) (s : State) (m : MethodId) (args : Array Value) (below : List Frame) (meth : Method) (cd : Code) (H : Heap) (locs : List Loc) (sl : Array Slot),
    kMC Y p s m args meth cd μ.1 μ.2.1 μ.2.2 → s.heap.size = sz → va_P Y.2.1 vwCl ((h0, .inr (ci, fs)) :: ws) H → va_D (kA h0 ci sz) ((h0, .inr (ci, fs)) :: ws) → va_S (kA h0 ci sz) s.heap H locs → jLR (fun i => i) ls sl μ.2.2 →
    W p Y.1 e (kRm ρ.1 ρ.2.1 ρ.2.2) s m args below meth cd H locs cells slots (MQ below (kQ Y h0 ci sz post) args s ρ.2.1 ρ.2.2 (kA h0 ci sz)) (F0 m pc sl st)
theorem jtr_id : ∀ As : List Value, As.map (jtr (fun i => i)) = As
  | [] => rfl
  | v :: r => by rw [List.map_cons, jtr_id r]; cases v <;> rfl
theorem k1_get {α : Type} {c : α} {i : Nat} {q : α} (h : [c][i]? = some q) : i = 0 ∧ q = c := by
  cases i with
  | zero => exact ⟨rfl, (Option.some.inj h).symm⟩
  | succ i => simp at h
theorem kD1 {h0 sz : Nat} {e : va_E} {c : va_W} (hc : c = [(h0, e)]) : va_D (va_A c sz) [(h0, e)] := by
  subst hc
  refine ⟨fun i j p q hi hj _ => by rw [(k1_get hi).1, (k1_get hj).1], fun k q hk => ?_⟩
  rw [(k1_get hk).2]
  exact Or.inl ⟨0, e, rfl⟩
theorem kP_l {D : va_G} {cl : List vw_C} {w1 w2 : va_W} {H : Heap} (h : va_P D cl (w1 ++ w2) H) : va_P D cl w1 H := fun k q hk => h k q (by rw [List.getElem?_append_left (List.getElem?_eq_some_iff.mp hk).1]; exact hk)
theorem kP_r {D : va_G} {cl : List vw_C} {w1 w2 : va_W} {H : Heap} (h : va_P D cl (w1 ++ w2) H) : va_P D cl w2 H := fun k q hk => h (w1.length + k) q (by rw [List.getElem?_append_right (Nat.le_add_right _ _), Nat.add_sub_cancel_left]; exact hk)
theorem kD_l {A : Nat → Prop} {w1 w2 : va_W} (h : va_D A (w1 ++ w2)) : va_D A w1 :=
  ⟨fun i j p q hi hj e => h.1 i j p q (by rw [List.getElem?_append_left (List.getElem?_eq_some_iff.mp hi).1]; exact hi) (by rw [List.getElem?_append_left (List.getElem?_eq_some_iff.mp hj).1]; exact hj) e,
   fun k q hk => h.2 k q (by rw [List.getElem?_append_left (List.getElem?_eq_some_iff.mp hk).1]; exact hk)⟩
theorem kJoin {A0 : Nat → Prop} {D : va_G} {cl : List vw_C} {w w1 : va_W} {c : Nat × va_E} {H H1 : Heap} (hP : va_P D cl (w ++ [c]) H) (hD : va_D A0 (w ++ [c]))
    (hk : ∀ q : Nat, q < H.size → ¬ va_A [c] H.size q → H1[q]? = H[q]?) (hF : ∀ q, va_A [c] H.size q → A0 q) (hP1 : va_P D cl w1 H1) (hD1 : va_D (va_A [c] H.size) w1) : va_P D cl (w ++ w1) H1 ∧ va_D A0 (w ++ w1) := by
  have apart : ∀ (k : Nat) (x : Nat × va_E), w[k]? = some x → x.1 < H.size ∧ ¬ va_A [c] H.size x.1 := by
    intro k x hx
    have hkl := (List.getElem?_eq_some_iff.mp hx).1
    have hx2 : (w ++ [c])[k]? = some x := by rw [List.getElem?_append_left hkl]; exact hx
    have hl := (hP k x hx2).lt
    refine ⟨hl, fun h => ?_⟩
    rcases h with ⟨k2, e, h⟩ | h
    · obtain ⟨-, h2⟩ := k1_get h
      have h3 : (w ++ [c])[w.length]? = some c := by simp
      have := hD.1 k w.length x c hx2 h3 (by rw [← h2])
      omega
    · omega
  refine ⟨va_P.app (fun k x hx => ?_) hP1, va_D.app (kD_l hD) (hD1.weaken (fun k x _ h => hF x.1 h)) (fun i j x z hx hz e => ?_)⟩
  · obtain ⟨g1, g2⟩ := apart k x hx
    exact (kP_l hP k x hx).kept (hk x.1 g1 g2)
  · exact (apart i x hx).2 (by rw [e]; exact hD1.2 j z hz)
theorem kw_oi : Cond.instanceMethod Lib.objectInit ∈ jTb ∧ Cond.code Lib.objectInit ⟨#[0xb1]⟩ 1 none ∈ jTb := ⟨jtb (i := 72) (by rfl) rfl, jtb (i := 73) (by decide +kernel) (by decide +kernel)⟩
theorem kw_ai : Cond.arrayClass .int ∈ jTb := jtb (i := 104) (by rfl) rfl
theorem kw_az : Cond.arrayClass .boolean ∈ jTb := jtb (i := 825) (by decide +kernel) rfl
theorem kFree {h0 ci sz q ci2 : Nat} {ws : va_W} {H H0 : Heap} {locs : List Loc} (hz : H0.size = sz) (hD : va_D (kA h0 ci sz) (ws ++ [(q, .inr (ci2, kDf ci2))])) (hS : va_S (kA h0 ci sz) H0 H locs) : ∀ x, kA q ci2 H.size x → kA h0 ci sz x := by
  intro x h
  rcases h with ⟨k2, e, h⟩ | h
  · obtain ⟨-, h2⟩ := k1_get h
    have h3 : (ws ++ [(q, (.inr (ci2, kDf ci2) : va_E))])[ws.length]? = some (q, .inr (ci2, kDf ci2)) := by simp
    have := hD.2 _ _ h3
    rw [show x = q from congrArg Prod.fst h2]
    exact this
  · exact Or.inr (by have := hS.1; omega)
def kCf (ci : Nat) (C2 : String) (T2 : u_T) (N : Nat) : Prop := vwCl[ci]? = some (C2, T2, N) ∧ ∃ ty : Nat → FieldType, (∀ w ∈ u_ws C2 T2 N, w ∈ jTb) ∧ (∀ k, k < N → parseFieldDescriptor (T2 k).2.2.1 = some (ty k)) ∧ Cond.instantiable C2 N ∈ jTb ∧ Cond.initialized C2 ∈ jTb ∧ ∀ j, j < N → defaultValue (ty j) = vp_V (kDf ci) j
section KR
variable {Y : kX} {μ : kM} {ρ : kN} {h0 ci sz : Nat} {post : va_W → Prop} {pc : Nat} {ls st fs : List Value} {ws : va_W} {cells slots : Nat}
theorem kOk.intro {As : List Value} (hy : plainName μ.1.cls = true) (hy1 : μ.1.name = "<init>") (hle : (jEx (.ref h0 :: As)).length ≤ μ.2.2) (hls : jLoc μ.2.2 (.ref h0 :: As) = ls) (h : ∀ sz, kR Y μ ρ h0 ci sz post 0 ls [] (kDf ci) [] 0 0) : kOk Y μ ρ h0 ci As post := by
  subst hls
  intro sz
  refine Met.ofW (cc := μ.2.1) (maxL := μ.2.2) (ret := none) hy rfl ?_
  intro p e s m args below meth c s₁ B hml hv
  obtain ⟨rfl, hsz, hP, hK, hN⟩ := hv
  have hts := atoms_spec (ws := Cond.code μ.1 μ.2.1 μ.2.2 none :: jTb) B.pre
  have hown : s.vm.findClass μ.1.cls = some m.cls := findClass_of_methodNamed B.named
  have C : kMC Y p s m (Value.ref h0 :: As).toArray meth c μ.1 μ.2.1 μ.2.2 := ⟨B.exec, B.bytes, B.returns, B.notSynchronized, hml, hown, fun w hw => hts w (List.mem_cons_of_mem _ hw), (name_of_methodNamed B.named B.method).1.trans hy1, hK, hN⟩
  have e0 := jtr_id (.ref h0 :: As)
  have hl := lv_entry ((Value.ref h0 :: As).map (jtr (fun i => i))) (n := μ.2.2) (by rw [jEx_len]; exact hle)
  have ha : ∀ i, jAt (jEx (.ref h0 :: As)) i ≠ .null → (0 + i, jtr (fun i => i) (jAt (jEx (.ref h0 :: As)) i)) ∈ lv_args 0 ((Value.ref h0 :: As).map (jtr (fun i => i))) := jEx_args (fun i => i) (.ref h0 :: As) 0
  rw [e0] at hl ha
  rw [lg_entry_eq]
  refine h sz p e s m _ below meth c s.heap [] _ C hsz hP (kD1 rfl) va_S.rf ⟨?_, hl.1, hl.2.1, fun i hi => ?_⟩
  · show (jLoc μ.2.2 (.ref h0 :: As)).length = μ.2.2
    simp only [jLoc, List.length_append, List.length_replicate]
    omega
  · have e1 := jAt_app (jEx (.ref h0 :: As)) (μ.2.2 - (jEx (.ref h0 :: As)).length) i hi
    have e2 : jAt (jEx (.ref h0 :: As)) i ≠ .null := by rw [← e1]; exact hi
    have h3 := ha i e2
    rw [Nat.zero_add] at h3
    have := hl.2.2 _ h3
    show _ = some (Slot.val (jtr (fun i => i) (jAt (jEx (.ref h0 :: As) ++ List.replicate (μ.2.2 - (jEx (.ref h0 :: As)).length) .null) i)))
    rw [e1]
    exact this
theorem kr_aload {k : Fin 4} {a : Nat} (hd : decode μ.2.1 pc = .ok (.aload_n k, 1)) (hl : jAt ls (k : Nat) = .ref a) (h : kR Y μ ρ h0 ci sz post (pc + 1) ls (.ref a :: st) fs ws cells slots) : kR Y μ ρ h0 ci sz post pc ls st fs ws cells slots :=
  fun p e s m args below meth cd H locs sl C hz hP hD hS hL => lv_aload_n C.1 C.2.1 hd rfl (hL.at hl (fun q => by cases q)) (h p e s m args below meth cd H locs sl C hz hP hD hS hL)
theorem kr_iconst {n : Int} {v : Int32} (hd : decode μ.2.1 pc = .ok (.iconst n, 1)) (hv : Int32.ofInt n = v) (h : kR Y μ ρ h0 ci sz post (pc + 1) ls (.int v :: st) fs ws cells slots) : kR Y μ ρ h0 ci sz post pc ls st fs ws cells slots :=
  fun p e s m args below meth cd H locs sl C hz hP hD hS hL => lv_iconst C.1 C.2.1 hd hv (h p e s m args below meth cd H locs sl C hz hP hD hS hL)
theorem kr_bipush {n : Int} {v : Int32} (hd : decode μ.2.1 pc = .ok (.bipush n, 2)) (hv : (Int8.ofInt n).toInt32 = v) (h : kR Y μ ρ h0 ci sz post (pc + 2) ls (.int v :: st) fs ws cells slots) : kR Y μ ρ h0 ci sz post pc ls st fs ws cells slots :=
  fun p e s m args below meth cd H locs sl C hz hP hD hS hL => lv_bipush C.1 C.2.1 hd hv (h p e s m args below meth cd H locs sl C hz hP hD hS hL)
theorem kr_sipush {n : Int} {v : Int32} (hd : decode μ.2.1 pc = .ok (.sipush n, 3)) (hv : (Int16.ofInt n).toInt32 = v) (h : kR Y μ ρ h0 ci sz post (pc + 3) ls (.int v :: st) fs ws cells slots) : kR Y μ ρ h0 ci sz post pc ls st fs ws cells slots :=
  fun p e s m args below meth cd H locs sl C hz hP hD hS hL => lv_sipush C.1 C.2.1 hd hv (h p e s m args below meth cd H locs sl C hz hP hD hS hL)
theorem kr_dup {a : Nat} (hd : decode μ.2.1 pc = .ok (.dup, 1)) (h : kR Y μ ρ h0 ci sz post (pc + 1) ls (.ref a :: .ref a :: st) fs ws cells slots) : kR Y μ ρ h0 ci sz post pc ls (.ref a :: st) fs ws cells slots :=
  fun p e s m args below meth cd H locs sl C hz hP hD hS hL => lv_dup C.1 C.2.1 hd rfl (h p e s m args below meth cd H locs sl C hz hP hD hS hL)
theorem kr_obj {idx a : Nat} (hd : decode μ.2.1 pc = .ok (.invokespecial idx, 3)) (hw : Cond.methodLink μ.1.cls idx Lib.objectInit ∈ jTb) (h : kR Y μ ρ h0 ci sz post (pc + 3) ls [] fs ws cells slots) : kR Y μ ρ h0 ci sz post pc ls [.ref a] fs ws cells slots :=
  fun p e s m args below meth cd H locs sl C hz hP hD hS hL => W.objInit C.1 C.2.1 C.2.2.2.2.2.1 (C.2.2.2.2.2.2.1 _ hw) (C.2.2.2.2.2.2.1 _ kw_oi.1) (C.2.2.2.2.2.2.1 _ kw_oi.2) rfl (hL.2.1.trans C.2.2.2.2.1.symm) rfl hd (show 1 ≤ ρ.1 + 1 by omega) (show 2 * 0 + 0 + 12 ≤ 40 * (ρ.1 + 1) by omega) (W.eq (g2 := F0 m (pc + 3) sl []) rfl (h p e s m args below meth cd H locs sl C hz hP hD hS hL))
theorem kr_newa {n : Int32} {N : Nat} (hd : decode μ.2.1 pc = .ok (.newarray .int, 2)) (hn : ¬ n < 0) (hN : n.toNatClampNeg = N) (hN4 : N ≤ 1000) (hc : cells + 1 ≤ ρ.2.1) (hs : slots + N ≤ ρ.2.2)
    (h : ∀ q, kR Y μ ρ h0 ci sz post (pc + 2) ls (.ref q :: st) fs (ws ++ [(q, .inl (Y.2.2.1, N, .inl (fun _ => 0)))]) (cells + 1) (slots + N)) : kR Y μ ρ h0 ci sz post pc ls (.int n :: st) fs ws cells slots := by
  intro p e s m args below meth cd H locs sl C hz hP hD hS hL
  have hK := C.2.2.2.2.2.2.2.2.1
  refine va_newa (atype := .int) (ty := .int) (a0 := (N, .inl (fun _ => 0))) C.1 C.2.1 (C.2.2.2.2.2.2.1 _ kw_ai) rfl hK hP hD hS (fun q hq => Or.inr (hz ▸ hq)) (fun cA => rfl) hn hN (show N * 4 ≤ 536870912 by omega) hc hs hd (fun q cA H1 hK1 hP1 hD1 hS1 => ?_)
  have h1 : s.vm.findClass ("[" ++ FieldType.toString .int) = some cA := (hK1.2 2 _ rfl).2
  have h2 : s.vm.findClass ("[" ++ FieldType.toString .int) = some Y.2.2.1 := (hK.2 0 _ rfl).2
  have e1 : cA = Y.2.2.1 := Option.some.inj (h1.symm.trans h2)
  subst e1
  exact h q p e s m args below meth cd H1 locs sl C hz hP1 hD1 hS1 hL
theorem kr_newz {n : Int32} {N : Nat} (hd : decode μ.2.1 pc = .ok (.newarray .boolean, 2)) (hn : ¬ n < 0) (hN : n.toNatClampNeg = N) (hN4 : N ≤ 1000) (hc : cells + 1 ≤ ρ.2.1) (hs : slots + N ≤ ρ.2.2)
    (h : ∀ q, kR Y μ ρ h0 ci sz post (pc + 2) ls (.ref q :: st) fs (ws ++ [(q, .inl (Y.2.2.2, N, .inl (fun _ => 0)))]) (cells + 1) (slots + N)) : kR Y μ ρ h0 ci sz post pc ls (.int n :: st) fs ws cells slots := by
  intro p e s m args below meth cd H locs sl C hz hP hD hS hL
  have hK := C.2.2.2.2.2.2.2.2.1
  refine va_newa (atype := .boolean) (ty := .boolean) (a0 := (N, .inl (fun _ => 0))) C.1 C.2.1 (C.2.2.2.2.2.2.1 _ kw_az) rfl hK hP hD hS (fun q hq => Or.inr (hz ▸ hq)) (fun cA => rfl) hn hN (show N * 1 ≤ 536870912 by omega) hc hs hd (fun q cA H1 hK1 hP1 hD1 hS1 => ?_)
  have h1 : s.vm.findClass ("[" ++ FieldType.toString .boolean) = some cA := (hK1.2 2 _ rfl).2
  have h2 : s.vm.findClass ("[" ++ FieldType.toString .boolean) = some Y.2.2.2 := (hK.2 1 _ rfl).2
  have e1 : cA = Y.2.2.2 := Option.some.inj (h1.symm.trans h2)
  subst e1
  exact h q p e s m args below meth cd H1 locs sl C hz hP1 hD1 hS1 hL
theorem kr_new {ci2 idx N : Nat} {C2 : String} {T2 : u_T} (hd : decode μ.2.1 pc = .ok (.new idx, 3)) (hcf : kCf ci2 C2 T2 N) (hl : Cond.classLink μ.1.cls idx C2 ∈ jTb) (hc : cells + 1 ≤ ρ.2.1) (hs : slots + N ≤ ρ.2.2)
    (h : ∀ q, kR Y μ ρ h0 ci sz post (pc + 3) ls (.ref q :: st) fs (ws ++ [(q, .inr (ci2, kDf ci2))]) (cells + 1) (slots + N)) : kR Y μ ρ h0 ci sz post pc ls st fs ws cells slots := by
  obtain ⟨hq, ty, hin, hty, hi1, hi2, hfs⟩ := hcf
  intro p e s m args below meth cd H locs sl C hz hP hD hS hL
  exact va_new (ci := ci2) (fs := kDf ci2) (C := C2) (T := T2) (N := N) C.1 C.2.1 C.2.2.2.2.2.2.1 hin ty hty C.2.2.2.2.2.1 (C.2.2.2.2.2.2.1 _ hl) (C.2.2.2.2.2.2.1 _ hi1) (C.2.2.2.2.2.2.1 _ hi2) C.2.2.2.2.2.2.2.2.1 hP hD hS (fun q hq => Or.inr (hz ▸ hq)) hq hfs hc hs hd (fun q H1 hP1 hD1 hS1 => h q p e s m args below meth cd H1 locs sl C hz hP1 hD1 hS1 hL)
theorem kr_put {idx k : Nat} {q : vw_C} {v : Value} {t1 : FieldType} (hd : decode μ.2.1 pc = .ok (.putfield idx, 3)) (hq : vwCl[ci]? = some q) (hk : k < q.2.2) (hl : Cond.fieldLink μ.1.cls idx (q.2.1 k).1 (q.2.1 k).2.1 (q.2.1 k).2.2.1 ∈ jTb) (ho : (q.2.1 k).1 = μ.1.cls) (ht : parseFieldDescriptor (q.2.1 k).2.2.1 = some t1) (hn : narrow t1 v = v) (hf : fits t1 v = true) (hlen : k < fs.length)
    (h : kR Y μ ρ h0 ci sz post (pc + 3) ls st (fs.set k v) ws cells slots) : kR Y μ ρ h0 ci sz post pc ls (v :: .ref h0 :: st) fs ws cells slots := by
  obtain ⟨ty, hin, hnm, hty⟩ := jCls_all q (List.mem_of_getElem? hq)
  intro p e s m args below meth cd H locs sl C hz hP hD hS hL
  cases hfin : (q.2.1 k).2.2.2 with
  | false => exact va_put (C := q.1) (T := q.2.1) (N := q.2.2) C.1 C.2.1 C.2.2.2.2.2.2.1 hin ty hty hnm C.2.2.2.2.2.1 C.2.2.2.2.2.2.2.2.1 hP hD hS 0 rfl hq k hk (C.2.2.2.2.2.2.1 _ hl) (fun _ h9 => h9) hfin ht hn hf hlen hd (fun H1 locs1 hP1 hD1 hS1 => h p e s m args below meth cd H1 locs1 sl C hz hP1 hD1 hS1 hL)
  | true => exact va_putF (C := q.1) (T := q.2.1) (N := q.2.2) C.1 C.2.1 C.2.2.2.2.2.2.1 hin ty hty hnm C.2.2.2.2.2.1 C.2.2.2.2.2.2.2.2.1 hP hD hS 0 rfl hq k hk (C.2.2.2.2.2.2.1 _ hl) (fun _ h9 => h9) hfin C.2.2.2.2.2.2.2.1 ho ht hn hf hlen hd (fun H1 locs1 hP1 hD1 hS1 => h p e s m args below meth cd H1 locs1 sl C hz hP1 hD1 hS1 hL)
theorem kr_get {idx k q0 a ci2 : Nat} {q : vw_C} {v : Value} {fs2 : List Value} (hd : decode μ.2.1 pc = .ok (.getfield idx, 3)) (hq : vwCl[ci2]? = some q) (hk : k < q.2.2) (hl : Cond.fieldLink μ.1.cls idx (q.2.1 k).1 (q.2.1 k).2.1 (q.2.1 k).2.2.1 ∈ jTb) (he : ((h0, .inr (ci, fs)) :: ws : va_W)[q0]? = some (a, .inr (ci2, fs2))) (hv : fs2[k]? = some v)
    (h : kR Y μ ρ h0 ci sz post (pc + 3) ls (v :: st) fs ws cells slots) : kR Y μ ρ h0 ci sz post pc ls (.ref a :: st) fs ws cells slots := by
  obtain ⟨ty, hin, hnm, hty⟩ := jCls_all q (List.mem_of_getElem? hq)
  intro p e s m args below meth cd H locs sl C hz hP hD hS hL
  exact va_get (C := q.1) (T := q.2.1) (N := q.2.2) (v := v) C.1 C.2.1 C.2.2.2.2.2.2.1 hin C.2.2.2.2.2.1 C.2.2.2.2.2.2.2.2.1 hP q0 he hq k hk (C.2.2.2.2.2.2.1 _ hl) (fun _ h9 => h9) hv hd (h p e s m args below meth cd H locs sl C hz hP hD hS hL)
theorem kblind {q ci2 sz2 : Nat} {As : List Value} : FrameBlind (va_Pc (.ref q :: As) (kPre Y q ci2 sz2)) := fun a U g mk h => ⟨h.1, h.2.1, h.2.2.1, va_K.moved (u := U) (U := U.calling g mk a) (Vm.Alike.refl U.vm) h.2.2.2.1, kNk.same (s := U) rfl h.2.2.2.2⟩
theorem kroom {d2 nL2 : Nat} (hd2 : d2 + 1 ≤ ρ.1) (hnl : nL2 ≤ 21) (mc2 ms2 : Nat) : (kRm d2 mc2 ms2).frames + 1 ≤ (kRm ρ.1 ρ.2.1 ρ.2.2).frames ∧ 8 + (nL2 + 11) + (kRm d2 mc2 ms2).locals ≤ (kRm ρ.1 ρ.2.1 ρ.2.2).locals := by
  refine ⟨show d2 + 1 + 1 ≤ ρ.1 + 1 by omega, ?_⟩
  show 8 + (nL2 + 11) + 40 * (d2 + 1) ≤ 40 * (ρ.1 + 1)
  omega
theorem ksum {r : List Value} (h : r.length ≤ 4) : (r.map fun v => v.category).sum ≤ 8 := by
  have := jsum (ad := fun i => i) r 4 h
  rwa [jtr_id] at this
theorem kr_call {μ2 : kM} {ρ2 : kN} {q ci2 idx : Nat} {As : List Value} {post2 : va_W → Prop} (hM : kOk Y μ2 ρ2 q ci2 As post2) (hcode : Cond.code μ2.1 μ2.2.1 μ2.2.2 none ∈ jTb) (hini : Cond.initialized μ2.1.cls ∈ jTb) (hl : Cond.methodLink μ.1.cls idx μ2.1 ∈ jTb) (hin : Cond.instanceMethod μ2.1 ∈ jTb) (hy1 : μ2.1.name = "<init>")
    (hd2 : μ2.1.cls ≠ "java/lang/invoke/MethodHandle" ∧ μ2.1.cls ≠ "java/lang/invoke/VarHandle" ∧ (parseMethodDescriptor μ2.1.desc).map (fun d => d.parameters.length) = some As.length) (hnl : μ2.2.2 ≤ 21) (hdd : ρ2.1 + 1 ≤ ρ.1) (hst : st.length ≤ 4) (hc : cells + ρ2.2.1 ≤ ρ.2.1) (hs : slots + ρ2.2.2 ≤ ρ.2.2) (hd : decode μ.2.1 pc = .ok (.invokespecial idx, 3))
    (h : ∀ w1, post2 w1 → kR Y μ ρ h0 ci sz post (pc + 3) ls st fs (ws ++ w1) (cells + ρ2.2.1) (slots + ρ2.2.2)) : kR Y μ ρ h0 ci sz post pc ls (As.reverse ++ .ref q :: st) fs (ws ++ [(q, .inr (ci2, kDf ci2))]) cells slots := by
  intro p e s m args below meth cd H locs sl C hz hP hD hS hL
  have hK := C.2.2.2.2.2.2.2.2.1
  have hN := C.2.2.2.2.2.2.2.2.2
  have hts := C.2.2.2.2.2.2.1
  have hP' : va_P Y.2.1 vwCl (((h0, .inr (ci, fs)) :: ws) ++ [(q, .inr (ci2, kDf ci2))]) H := hP
  have hD' : va_D (kA h0 ci sz) (((h0, .inr (ci, fs)) :: ws) ++ [(q, .inr (ci2, kDf ci2))]) := hD
  have hFc := kFree hz hD' hS
  refine va_callv (va_runI (As := As) (rest := st) ⟨C.1, C.2.1, C.2.2.2.2.1, C.2.2.2.2.2.1, hts⟩ (hM H.size) (cwI As.length hts (jtb_good (fun w hw => (List.mem_cons.mp hw).elim (fun e => e ▸ hcode) id)) rfl rfl rfl (hts _ hini) (hts _ hl) (hts _ hin) hy1 hd2 (kroom hdd hnl _ _)) ⟨kblind, fun U hU hW => ⟨rfl, by rw [hU], by rw [hU]; exact kP_r hP', va_K.moved hW.alike hK, kNk.warm hW hN⟩⟩ rfl rfl hL.2.1 rfl (lv_room (ksum hst)) hd ⟨hc, hs⟩) hS (fun x _ hx => hFc x hx) hFc (fun w1 t H1 locs1 ht hvm hw hB hz1 hk1 hS1 => ?_)
  obtain ⟨hP1, hD1⟩ := hB
  rw [ht] at hP1
  obtain ⟨hP2, hD2⟩ := kJoin hP' hD' hk1 hFc hP1 hD1
  exact h w1 hw p e s m args below meth cd H1 locs1 sl C hz hP2 hD2 hS1 hL
theorem kr_callN {μ2 : kM} {ρ2 : kN} {q ci2 idx : Nat} {As : List Value} {post2 : va_W → Prop} (hM : kOk Y μ2 ρ2 q ci2 As post2) (hcode : Cond.code μ2.1 μ2.2.1 μ2.2.2 none ∈ jTb) (hini : Cond.initialized μ2.1.cls ∈ jTb) (hl : Cond.methodLinkNest μ.1.cls idx μ2.1 RX7 ∈ kNs) (hin : Cond.instanceMethod μ2.1 ∈ jTb) (hy1 : μ2.1.name = "<init>")
    (hd2 : μ2.1.cls ≠ "java/lang/invoke/MethodHandle" ∧ μ2.1.cls ≠ "java/lang/invoke/VarHandle" ∧ (parseMethodDescriptor μ2.1.desc).map (fun d => d.parameters.length) = some As.length) (hnl : μ2.2.2 ≤ 21) (hdd : ρ2.1 + 1 ≤ ρ.1) (hst : st.length ≤ 4) (hc : cells + ρ2.2.1 ≤ ρ.2.1) (hs : slots + ρ2.2.2 ≤ ρ.2.2) (hd : decode μ.2.1 pc = .ok (.invokespecial idx, 3))
    (h : ∀ w1, post2 w1 → kR Y μ ρ h0 ci sz post (pc + 3) ls st fs (ws ++ w1) (cells + ρ2.2.1) (slots + ρ2.2.2)) : kR Y μ ρ h0 ci sz post pc ls (As.reverse ++ .ref q :: st) fs (ws ++ [(q, .inr (ci2, kDf ci2))]) cells slots := by
  intro p e s m args below meth cd H locs sl C hz hP hD hS hL
  have hK := C.2.2.2.2.2.2.2.2.1
  have hN := C.2.2.2.2.2.2.2.2.2
  have hts := C.2.2.2.2.2.2.1
  have hP' : va_P Y.2.1 vwCl (((h0, .inr (ci, fs)) :: ws) ++ [(q, .inr (ci2, kDf ci2))]) H := hP
  have hD' : va_D (kA h0 ci sz) (((h0, .inr (ci, fs)) :: ws) ++ [(q, .inr (ci2, kDf ci2))]) := hD
  have hFc := kFree hz hD' hS
  refine va_callv (va_runIN (As := As) (rest := st) (host := RX7) ⟨C.1, C.2.1, C.2.2.2.2.1, C.2.2.2.2.2.1, hts⟩ (hM H.size) ⟨va_cnB As.length hts (jtb_good (fun w hw => (List.mem_cons.mp hw).elim (fun e => e ▸ hcode) id)) rfl rfl rfl (hN _ hl) (hts _ hini) hd2 (kroom hdd hnl _ _), hy1, hts _ hin⟩ ⟨kblind, fun U hU hW => ⟨rfl, by rw [hU], by rw [hU]; exact kP_r hP', va_K.moved hW.alike hK, kNk.warm hW hN⟩⟩ rfl rfl hL.2.1 rfl (lv_room (ksum hst)) hd ⟨hc, hs⟩) hS (fun x _ hx => hFc x hx) hFc (fun w1 t H1 locs1 ht hvm hw hB hz1 hk1 hS1 => ?_)
  obtain ⟨hP1, hD1⟩ := hB
  rw [ht] at hP1
  obtain ⟨hP2, hD2⟩ := kJoin hP' hD' hk1 hFc hP1 hD1
  exact h w1 hw p e s m args below meth cd H1 locs1 sl C hz hP2 hD2 hS1 hL
theorem kr_fs {fs' : List Value} {ws' : va_W} (e1 : fs = fs') (e2 : ws = ws') (h : kR Y μ ρ h0 ci sz post pc ls st fs' ws' cells slots) : kR Y μ ρ h0 ci sz post pc ls st fs ws cells slots := by
  subst e1; subst e2; exact h
theorem kr_ret (hd : decode μ.2.1 pc = .ok (.return_, 1)) (hp : post ((h0, .inr (ci, fs)) :: ws)) (hc : cells ≤ ρ.2.1) (hs : slots ≤ ρ.2.2) : kR Y μ ρ h0 ci sz post pc ls [] fs ws cells slots :=
  fun p e s m args below meth cd H locs sl C hz hP hD hS hL => W.widen hc hs (W.vret C.1 C.2.1 C.2.2.1 (fun t ht hW => ⟨⟨_, rfl, hp, by rw [ht]; exact hP, hD⟩, hS.F ht⟩) hS.2.2 hd C.2.2.2.1)
end KR
