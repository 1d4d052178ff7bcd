/-! the world of cells by number; a method's run from a place; its contract -/
abbrev jX : Type := Launch × va_G × (ClassId × ClassId) × (Nat → Nat)
def jtr (ad : Nat → Nat) : Value → Value
  | .ref i => .ref (ad i)
  | v => v
def jFv (ad : Nat → Nat) (T : jT) (M : jMem) (i ci k : Nat) : Value := if jFk ci k = 0 then .ref (ad (jRf T i k)) else .int (M i k)
def jCell (X : jX) (T : jT) (M : jMem) (i : Nat) : va_E := if jKd T i = 9 then .inl (X.2.2.1.1, jLn T i, .inl (M i)) else if jKd T i = 10 then .inl (X.2.2.1.2, jLn T i, .inl (M i)) else .inr (jKd T i, (List.range (jNf (jKd T i))).map (jFv X.2.2.2 T M i (jKd T i)))
def jWl (X : jX) (T : jT) (M : jMem) : va_W := (List.range T.length).map (fun i => (X.2.2.2 i, jCell X T M i))
def jA (X : jX) (T : jT) : Nat → Prop := fun q => ∃ i, i < T.length ∧ q = X.2.2.2 i
def jInj (X : jX) (T : jT) : Prop := ∀ i j, i < T.length → j < T.length → X.2.2.2 i = X.2.2.2 j → i = j
def jTys (X : jX) : List (ClassId × FieldType) := [(X.2.2.1.1, .int), (X.2.2.1.2, .boolean)]
def jWd (X : jX) (T : jT) (M : jMem) (U : State) (H : Heap) : Prop := va_P X.2.1 vwCl (jWl X T M) H ∧ va_K X.2.1 vwCl (jTys X) U
def jLR (ad : Nat → Nat) (ls : List Value) (sl : Array Slot) (n : Nat) : Prop := ls.length = n ∧ sl.size = n ∧ lv_wf sl ∧ ∀ i, jAt ls i ≠ .null → sl[i]? = some (.val (jtr ad (jAt ls i)))
def jRm (d : Nat) : Room := { frames := d + 1, cells := 0, slots := 0, locals := 40 * (d + 1) }
def jQc (X : jX) (T : jT) (Q : Option Value → jMem → Prop) : Array Value → State → Outcome → State → Prop := fun _ st oc t => (∃ (v : Option Value) (M' : jMem), oc = .returned (v.map (jtr X.2.2.2)) ∧ Q v M' ∧ jWd X T M' t t.heap) ∧ va_F (jA X T) st t
def jMC (p : Program) (s : State) (m : MethodId) (args : Array Value) (meth : Method) (cd : Code) (mi : Nat) : Prop := p.tables.exec = Jvm.exec ∧ cd.code = (jM mi).2.1 ∧ meth.sig.returnType = (jM mi).2.2.2.1 ∧ meth.locks = false ∧ cd.maxLocals = (jM mi).2.2.1 ∧ s.vm.findClass (jM mi).1.cls = some m.cls ∧ ∀ w ∈ jTb, w.before args s = true
def jRun (X : jX) (T : jT) (d mi : Nat) (c : jCfg) (Q : Option Value → jMem → Prop) : Prop :=
  ∀ (p : Program) (e : Env) (s : State) (m : MethodId) (args : Array Value) (below : List Frame) (meth : Method) (cd : Code) (H : Heap) (locs : List Loc) (sl : Array Slot),
    jMC p s m args meth cd mi → jWd X T c.2.2.2 s H → jInj X T → va_S (jA X T) s.heap H locs → jLR X.2.2.2 c.2.1 sl (jM mi).2.2.1 →
    W p X.1 e (jRm d) s m args below meth cd H locs 0 0 (MQ below (jQc X T Q) args s 0 0 (jA X T)) (F0 m c.1 sl (c.2.2.1.map (jtr X.2.2.2)))
def jWs (mi : Nat) : List Cond := Cond.code (jM mi).1 (jM mi).2.1 (jM mi).2.2.1 (jM mi).2.2.2.1 :: jTb
def jOk (X : jX) (T : jT) (d mi : Nat) (As : List Value) (M : jMem) (Q : Option Value → jMem → Prop) : Prop :=
  Met X.1 (jM mi).1 (jWs mi) (jRm d) (va_Pc (As.map (jtr X.2.2.2)) (fun U => jWd X T M U U.heap)) (jQc X T Q) 0 0 (jA X T)
theorem jWl_at {X : jX} {T : jT} {M : jMem} {i : Nat} (h : i < T.length) : (jWl X T M)[i]? = some (X.2.2.2 i, jCell X T M i) := by
  simp [jWl, h]
theorem jKd_lt {T : jT} {i k : Nat} (h : jKd T i = k) (hk : k < 99) : i < T.length := by
  rcases Nat.lt_or_ge i T.length with g | g
  · exact g
  · simp [jKd, List.getElem?_eq_none g] at h
    omega
theorem jWl_set {X : jX} {T : jT} {M : jMem} {i : Nat} (f : Nat → Int32) : (jWl X T M).set i (X.2.2.2 i, jCell X T (jSC M i f) i) = jWl X T (jSC M i f) := by
  apply List.ext_getElem?
  intro j
  by_cases hj : j < T.length
  · by_cases e : i = j
    · subst e
      rw [List.getElem?_set_self (by simpa [jWl] using hj), jWl_at hj]
    · rw [List.getElem?_set_ne e, jWl_at hj, jWl_at hj]
      have h2 : ¬ j = i := fun q => e q.symm
      have hF : jFv X.2.2.2 T (jSC M i f) j = jFv X.2.2.2 T M j := by
        funext ci k
        simp [jFv, jSC, h2]
      simp [jCell, hF, jSC, h2]
  · rw [List.getElem?_eq_none (by simp [jWl]; omega), List.getElem?_eq_none (by simp [jWl]; omega)]
theorem jD_of {X : jX} {T : jT} {M : jMem} (hI : jInj X T) : va_D (jA X T) (jWl X T M) := by
  have key : ∀ (i : Nat) (p : Nat × va_E), (jWl X T M)[i]? = some p → i < T.length ∧ p.1 = X.2.2.2 i := by
    intro i p h
    have hi : i < T.length := by
      rcases Nat.lt_or_ge i T.length with g | g
      · exact g
      · rw [List.getElem?_eq_none (by simp [jWl]; omega)] at h
        cases h
    rw [jWl_at hi] at h
    cases h
    exact ⟨hi, rfl⟩
  refine ⟨fun i j p q hp hq e => ?_, fun k q h => ?_⟩
  · obtain ⟨h1, h2⟩ := key i p hp
    obtain ⟨h3, h4⟩ := key j q hq
    exact hI i j h1 h3 (by rw [← h2, ← h4, e])
  · obtain ⟨h1, h2⟩ := key k q h
    exact ⟨k, h1, h2⟩
theorem jCell_o {X : jX} {T : jT} {M : jMem} {i ci : Nat} (h : jKd T i = ci) (hc : ci < 9) : jCell X T M i = .inr (ci, (List.range (jNf ci)).map (jFv X.2.2.2 T M i ci)) := by
  unfold jCell
  rw [if_neg (by omega), if_neg (by omega), h]
theorem jCell_i {X : jX} {T : jT} {M : jMem} {i : Nat} (h : jKd T i = 9) : jCell X T M i = .inl (X.2.2.1.1, jLn T i, .inl (M i)) := by
  unfold jCell
  rw [if_pos h]
theorem jCell_z {X : jX} {T : jT} {M : jMem} {i : Nat} (h : jKd T i = 10) : jCell X T M i = .inl (X.2.2.1.2, jLn T i, .inl (M i)) := by
  unfold jCell
  rw [if_neg (by omega), if_pos h]
theorem jFv_upd {ad : Nat → Nat} {T : jT} {M : jMem} {i ci k N : Nat} {v : Int32} (hk : jFk ci k ≠ 0) : ((List.range N).map (jFv ad T M i ci)).set k (.int v) = (List.range N).map (jFv ad T (jSC M i (upd (M i) k v)) i ci) := by
  apply List.ext_getElem?
  intro j
  by_cases hj : j < N
  · by_cases e : k = j
    · subst e
      rw [List.getElem?_set_self (by simpa using hj)]
      simp [hj, jFv, hk, jSC, upd]
    · rw [List.getElem?_set_ne e]
      have : ¬ j = k := fun q => e q.symm
      simp [hj, jFv, jSC, upd, this]
  · rw [List.getElem?_eq_none (by simp; omega), List.getElem?_eq_none (by simp; omega)]
theorem jAt_set {ls : List Value} {i : Nat} {v : Value} (h : i < ls.length) (j : Nat) : jAt (ls.set i v) j = if j = i then v else jAt ls j := by
  induction ls generalizing i j with
  | nil => simp at h
  | cons a r ih =>
    cases i with
    | zero => cases j with
      | zero => simp [jAt]
      | succ j => simp [jAt]
    | succ i => cases j with
      | zero => simp [jAt]
      | succ j =>
        simp only [List.set_cons_succ, jAt]
        rw [ih (by simpa using h)]
        simp
theorem jAt_out {ls : List Value} {i : Nat} (h : ls.length ≤ i) : jAt ls i = .null := by
  induction ls generalizing i with
  | nil => simp [jAt]
  | cons a r ih =>
    cases i with
    | zero => simp at h
    | succ i => simp only [jAt]; exact ih (by simpa using h)
theorem jtr_cat {ad : Nat → Nat} (v : Value) : (jtr ad v).category = v.category := by cases v <;> rfl
/-- the known locals as the kit lists them -/
def jLst (ad : Nat → Nat) (ls : List Value) : List (Nat × Value) := (List.range ls.length).filterMap (fun i => if jAt ls i = .null then none else some (i, jtr ad (jAt ls i)))
theorem jLst_mem {ad : Nat → Nat} {ls : List Value} {i : Nat} (h : jAt ls i ≠ .null) : (i, jtr ad (jAt ls i)) ∈ jLst ad ls := by
  refine List.mem_filterMap.mpr ⟨i, List.mem_range.mpr ?_, by rw [if_neg h]⟩
  rcases Nat.lt_or_ge i ls.length with g | g
  · exact g
  · exact absurd (jAt_out g) h
theorem jLR.has {ad : Nat → Nat} {ls : List Value} {sl : Array Slot} {n : Nat} (h : jLR ad ls sl n) : lv_has sl n (jLst ad ls) := by
  refine ⟨h.2.1, h.2.2.1, fun q hq => ?_⟩
  obtain ⟨i, -, hi⟩ := List.mem_filterMap.mp hq
  by_cases e : jAt ls i = .null
  · rw [if_pos e] at hi; cases hi
  · rw [if_neg e] at hi
    cases hi
    exact h.2.2.2 i e
theorem jLR.store {ad : Nat → Nat} {ls : List Value} {sl sl' : Array Slot} {n i : Nat} {v : Value} (h : jLR ad ls sl n) (hi : i < ls.length) (hl : jNl ls i = true)
    (h' : lv_has sl' n ((i, jtr ad v) :: (jLst ad ls).filter (fun q => !(q.1 == i) && !(q.1 + 1 == i && q.2.category == 2)))) : jLR ad (ls.set i v) sl' n := by
  refine ⟨by simpa using h.1, h'.1, h'.2.1, fun j hj => ?_⟩
  rw [jAt_set hi] at hj ⊢
  by_cases e : j = i
  · subst e
    rw [if_pos rfl] at hj ⊢
    exact h'.2.2 _ List.mem_cons_self
  · rw [if_neg e] at hj ⊢
    refine h'.2.2 (j, jtr ad (jAt ls j)) (List.mem_cons_of_mem _ (List.mem_filter.mpr ⟨jLst_mem hj, ?_⟩))
    have e1 : (j == i) = false := by simpa using e
    by_cases e2 : j + 1 = i
    · subst e2
      have : (jAt ls j).category ≠ 2 := by
        intro q
        simp only [jNl] at hl
        cases hv : jAt ls j <;> rw [hv] at hl q <;> simp [Value.category] at hl q
      simp [jtr_cat, this]
    · simp [e1, e2]
theorem jWd_moved {X : jX} {T : jT} {M : jMem} {u U : State} {H : Heap} (hvm : u.vm.Alike U.vm) (h : jWd X T M u H) : jWd X T M U H := ⟨h.1, h.2.moved hvm⟩
theorem jblind {X : jX} {T : jT} {M : jMem} {av : List Value} : FrameBlind (va_Pc av (fun U => jWd X T M U U.heap)) := fun a U g mk q => ⟨q.1, q.2.1, va_K.moved (u := U) (U := U.calling g mk a) (Vm.Alike.refl U.vm) q.2.2⟩
section JCALL
variable {p : Program} {e : Env} {R : Room} {s : State} {m : MethodId} {args : Array Value} {below : List Frame} {meth : Method} {c : Code} {H : Heap} {locs : List Loc} {Q : State → Prop}
theorem jCallX {X : jX} {T : jT} {Q1 : Option Value → jMem → Prop} {a : Array Value} {cells slots pc : Nat} {sl : Array Slot} {st0 rest : List Value} {A0 : Nat → Prop} {H0 : Heap}
    (hr : va_Run p X.1 e R s m args below meth c H locs cells slots 0 0 (F0 m pc sl st0) rest (jQc X T Q1 a) (jA X T)) (hS : va_S A0 H0 H locs) (hA : ∀ q, jA X T q → A0 q)
    (kk : ∀ (v : Option Value) (M1 : jMem) (H1 : Heap) (locs1 : List Loc), Q1 v M1 → jWd X T M1 s H1 → va_S A0 H0 H1 locs1 → W p X.1 e R s m args below meth c H1 locs1 cells slots Q (F0 m (pc + 3) sl ((v.map (jtr X.2.2.2)).toList ++ rest))) :
    W p X.1 e R s m args below meth c H locs cells slots Q (F0 m pc sl st0) := by
  intro T0 hT X0
  obtain ⟨v, st₀, t, T', L, h0, X', hL, e1, e2, ⟨⟨r, M1, hv, hp, hw⟩, hz, hk⟩, st⟩ := hr T0 hT X0
  cases hv
  rw [h0] at hz hk
  have hvm : s.vm.Alike t.vm := by rw [← e2]; exact X'.warmed.alike
  obtain ⟨t2, a1, b1⟩ := kk r M1 T'.heap (locs ++ L) hp (by rw [e1]; exact jWd_moved hvm.symm hw)
    ⟨Nat.le_trans hS.1 (by rw [e1]; exact hz), fun q h1 h2 => by rw [e1, hk q (Nat.lt_of_lt_of_le h1 hS.1) (fun z => h2 (hA q z))]; exact hS.2.1 q h1 h2, fun q hq => by
      rcases List.mem_append.mp hq with h | h
      · exact hS.2.2 q h
      · exact hA _ (hL q h)⟩ T' rfl X'
  exact ⟨t2, st t2 a1, b1⟩
end JCALL
