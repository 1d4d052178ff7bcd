/-! small tables: a program alone; a shape and a program (printed by gen69.py) -/
def TP : jT := [(3, 0, [1, 2, 3, 4, 5, 6, 7, 8]), (9, 32, []), (9, 32, []), (9, 32, []), (9, 32, []), (9, 8, []), (9, 10, []), (9, 6, []), (9, 3, [])]
def TS : jT := [(5, 0, [1]), (9, 32, []), (3, 0, [3, 4, 5, 6, 7, 8, 9, 10]), (9, 32, []), (9, 32, []), (9, 32, []), (9, 32, []), (9, 8, []), (9, 10, []), (9, 6, []), (9, 3, [])]
theorem vP_empty {X : jX} {d : Nat} (hI : jInj X TP)  (M : jMem) (Q : Option Value → jMem → Prop) (h : jRun X TP d q_X3_empty (2, [.ref 0, .int 0], [], M) Q) : jOk X TP d q_X3_empty [.ref 0] M Q := by
  refine jOk.intro (ml := 2) (ls := [.ref 0, .null]) (jTl (by decide)) rfl (Nat.le_of_ble_eq_true rfl) rfl hI ?_
  refine jRun.cut (k := jk_X3_empty) rfl 2 (c' := (2, [.ref 0, .int 0], [], M)) (ob := True ∧ True ∧ True) rfl ⟨trivial, trivial, trivial⟩ ?_
  exact h
theorem vP_empty_2 {X : jX} {d : Nat} (a1 : Int32) (M : jMem) (Q : Option Value → jMem → Prop) (h : ((8 ≤ a1 → (∀ M1, M1 = jP M 0 8 0 → (∀ M2, M2 = jP M1 0 9 0 → (∀ M3, M3 = jP M2 0 10 0 → (∀ M4, M4 = jP M3 0 11 0 → (∀ M5, M5 = jP M4 0 12 0 → (∀ M6, M6 = jP M5 0 13 20 → Q none M6))))))) ∧ (¬ 8 ≤ a1 → vp_in a1 8 ∧ (∀ M7, M7 = jP M 5 a1.toNatClampNeg (-1) → jRun X TP d q_X3_empty (2, [.ref 0, .int (a1 + 1)], [], M7) Q)))) : jRun X TP d q_X3_empty (2, [.ref 0, .int a1], [], M) Q := by
  refine jRun.cut (k := jk_X3_empty) rfl 3 (c' := (if 8 ≤ a1 then 21 else 8, [.ref 0, .int a1], [], M)) (ob := True ∧ True ∧ True ∧ True) rfl ⟨trivial, trivial, trivial, trivial⟩ ?_
  refine jRun.br (fun g => ?_) (fun g => ?_)
  · have h := h.1 g
    refine jRun.cut (k := jk_X3_empty) rfl 3 (c' := (26, [.ref 0, .int a1], [], (jP M 0 8 0))) (ob := True ∧ True ∧ jKd TP 0 = 3 ∧ True) rfl ⟨trivial, trivial, rfl, trivial⟩ ?_
    refine jRun.nm (fun M1 eM1 => ?_)
    have h := h M1 eM1
    refine jRun.cut (k := jk_X3_empty) rfl 3 (c' := (31, [.ref 0, .int a1], [], (jP M1 0 9 0))) (ob := True ∧ True ∧ jKd TP 0 = 3 ∧ True) rfl ⟨trivial, trivial, rfl, trivial⟩ ?_
    refine jRun.nm (fun M2 eM2 => ?_)
    have h := h M2 eM2
    refine jRun.cut (k := jk_X3_empty) rfl 3 (c' := (36, [.ref 0, .int a1], [], (jP M2 0 10 0))) (ob := True ∧ True ∧ jKd TP 0 = 3 ∧ True) rfl ⟨trivial, trivial, rfl, trivial⟩ ?_
    refine jRun.nm (fun M3 eM3 => ?_)
    have h := h M3 eM3
    refine jRun.cut (k := jk_X3_empty) rfl 3 (c' := (41, [.ref 0, .int a1], [], (jP M3 0 11 0))) (ob := True ∧ True ∧ jKd TP 0 = 3 ∧ True) rfl ⟨trivial, trivial, rfl, trivial⟩ ?_
    refine jRun.nm (fun M4 eM4 => ?_)
    have h := h M4 eM4
    refine jRun.cut (k := jk_X3_empty) rfl 3 (c' := (46, [.ref 0, .int a1], [], (jP M4 0 12 0))) (ob := True ∧ True ∧ jKd TP 0 = 3 ∧ True) rfl ⟨trivial, trivial, rfl, trivial⟩ ?_
    refine jRun.nm (fun M5 eM5 => ?_)
    have h := h M5 eM5
    refine jRun.cut (k := jk_X3_empty) rfl 3 (c' := (52, [.ref 0, .int a1], [], (jP M5 0 13 20))) (ob := True ∧ True ∧ jKd TP 0 = 3 ∧ True) rfl ⟨trivial, trivial, rfl, trivial⟩ ?_
    refine jRun.nm (fun M6 eM6 => ?_)
    have h := h M6 eM6
    exact jRun.ret (k := jk_X3_empty) rfl 1 (v := none) (M1 := M6) (ob := True) rfl trivial h
  · have h := h.2 g
    obtain ⟨o1, h⟩ := h
    refine jRun.cut (k := jk_X3_empty) rfl 5 (c' := (15, [.ref 0, .int a1], [], (jP M 5 a1.toNatClampNeg (-1)))) (ob := True ∧ jKd TP 0 = 3 ∧ True ∧ True ∧ (jKd TP 5 = 9 ∧ vp_in a1 8) ∧ True) rfl ⟨trivial, rfl, trivial, trivial, ⟨rfl, o1⟩, trivial⟩ ?_
    refine jRun.nm (fun M7 eM7 => ?_)
    have h := h M7 eM7
    refine jRun.cut (k := jk_X3_empty) rfl 2 (c' := (2, [.ref 0, .int (a1 + 1)], [], M7)) (ob := True ∧ True ∧ True) rfl ⟨trivial, trivial, trivial⟩ ?_
    exact h
theorem vS_startAs {X : jX} {d : Nat} (hI : jInj X TS)  (M : jMem) (Q : Option Value → jMem → Prop) (h : (∀ M1, M1 = jSC M 1 (va_cpy (M 4) (M 1) 0 0 32) → (∀ M2, M2 = jP M1 0 1 0 → (∀ M3, M3 = jP M2 0 2 0 → (∀ M4, M4 = jP M3 0 3 (M3 2 13) → Q none M4))))) : jOk X TS d q_X5_startAs [.ref 0, .ref 2] M Q := by
  refine jOk.intro (ml := 2) (ls := [.ref 0, .ref 2]) (jTl (by decide)) rfl (Nat.le_of_ble_eq_true rfl) rfl hI ?_
  refine jRun.cut (k := jk_X5_startAs) rfl 8 (c' := (15, [.ref 0, .ref 2], [], (jSC M 1 (va_cpy (M 4) (M 1) 0 0 32)))) (ob := True ∧ jKd TS 2 = 3 ∧ True ∧ True ∧ jKd TS 0 = 5 ∧ True ∧ True ∧ (jKd TS 4 = 9 ∧ jKd TS 1 = 9 ∧ ¬ (0 : Int32) < 0 ∧ ¬ (0 : Int32) < 0 ∧ ¬ (32 : Int32) < 0 ∧ (0 : Int32).toNatClampNeg + (32 : Int32).toNatClampNeg ≤ jLn TS 4 ∧ (0 : Int32).toNatClampNeg + (32 : Int32).toNatClampNeg ≤ jLn TS 1) ∧ True) rfl ⟨trivial, rfl, trivial, trivial, rfl, trivial, trivial, ⟨rfl, rfl, (by decide), (by decide), (by decide), (by decide), (by decide)⟩, trivial⟩ ?_
  refine jRun.nm (fun M1 eM1 => ?_)
  have h := h M1 eM1
  refine jRun.cut (k := jk_X5_startAs) rfl 3 (c' := (20, [.ref 0, .ref 2], [], (jP M1 0 1 0))) (ob := True ∧ True ∧ jKd TS 0 = 5 ∧ True) rfl ⟨trivial, trivial, rfl, trivial⟩ ?_
  refine jRun.nm (fun M2 eM2 => ?_)
  have h := h M2 eM2
  refine jRun.cut (k := jk_X5_startAs) rfl 3 (c' := (25, [.ref 0, .ref 2], [], (jP M2 0 2 0))) (ob := True ∧ True ∧ jKd TS 0 = 5 ∧ True) rfl ⟨trivial, trivial, rfl, trivial⟩ ?_
  refine jRun.nm (fun M3 eM3 => ?_)
  have h := h M3 eM3
  refine jRun.cut (k := jk_X5_startAs) rfl 4 (c' := (33, [.ref 0, .ref 2], [], (jP M3 0 3 (M3 2 13)))) (ob := True ∧ True ∧ jKd TS 2 = 3 ∧ jKd TS 0 = 5 ∧ True) rfl ⟨trivial, trivial, rfl, rfl, trivial⟩ ?_
  refine jRun.nm (fun M4 eM4 => ?_)
  have h := h M4 eM4
  exact jRun.ret (k := jk_X5_startAs) rfl 1 (v := none) (M1 := M4) (ob := True) rfl trivial h
def kPf (M : jMem) : Prop := (∀ k, 8 ≤ k → k ≤ 12 → M 0 k = 0) ∧ M 0 13 = 20 ∧ ∀ x, x < 8 → M 5 x = -1
def kMp : jMem := fun c k => if c = 0 then (if k = 13 then 20 else 0) else 0
def kwProg (Y : kX) (ad : Nat → Nat) (M : jMem) : va_W := jWl (Y.1, Y.2.1, Y.2.2, ad) TP M
section K69
variable {X : jX} {M : jMem} {Q : Option Value → jMem → Prop} {d : Nat}
theorem sp_emptyP (hI : jInj X TP) (h : ∀ M', (∀ c, c ≠ 0 → c ≠ 5 → M' c = M c) → (∀ k, 8 ≤ k → k ≤ 12 → M' 0 k = 0) → M' 0 13 = 20 → (∀ x, x < 8 → M' 5 x = -1) → Q none M') : jOk X TP d q_X3_empty [.ref 0] M Q := by
  refine vP_empty hI _ _ ?_
  have key : ∀ i, i ≤ 8 → ∀ M2 : jMem, (∀ c, c ≠ 5 → M2 c = M c) → (∀ k, k < i → M2 5 k = -1) → jRun X TP d q_X3_empty (2, [.ref 0, .int (nI i)], [], M2) Q := by
    refine jUp ?_ ?_
    · intro M2 m1 m2
      refine vP_empty_2 _ _ _ ⟨fun _ M3 e3 M4 e4 M5 e5 M6 e6 M7 e7 M8 e8 => ?_, fun g => absurd (by decide) g⟩
      have o : ∀ c, c ≠ 0 → M8 c = M2 c := fun c hc => by subst e8; subst e7; subst e6; subst e5; subst e4; subst e3; rw [jP_n hc, jP_n hc, jP_n hc, jP_n hc, jP_n hc, jP_n hc]
      refine h M8 (fun c a b => by rw [o c a]; exact m1 c b) (fun k k1 k2 => ?_) ?_ (fun x hx => ?_)
      · have : k = 8 ∨ k = 9 ∨ k = 10 ∨ k = 11 ∨ k = 12 := by omega
        subst e8; subst e7; subst e6; subst e5; subst e4; subst e3
        rcases this with rfl | rfl | rfl | rfl | rfl <;> simp [jP_s, upd]
      · subst e8; simp [jP_s, upd]
      · rw [o 5 (by decide)]; exact m2 x hx
    · intro i hi ih M2 m1 m2
      refine vP_empty_2 _ _ _ ⟨fun g => absurd g (nI_ge (b := 8) hi (by decide)), fun _ => ⟨vp_in_nI hi (by decide), fun M3 e3 => ?_⟩⟩
      rw [nI_1]
      rw [nI_cl (by omega)] at e3
      refine ih M3 (fun c hc => by subst e3; rw [jP_n hc]; exact m1 c hc) (fun k hk => ?_)
      subst e3
      rw [jP_s]
      simp only [upd]
      by_cases q : k = i
      · rw [if_pos q]
      · rw [if_neg q]; exact m2 k (by omega)
  exact key 0 (by decide) M (fun _ _ => rfl) (fun k hk => absurd hk (Nat.not_lt_zero k))
end K69
theorem kSub {D : va_G} {cl : List vw_C} {w w' : va_W} {H : Heap} (h : va_P D cl w H) (is : List Nat) (hs : is.map (fun i => w[i]?) = w'.map some) : va_P D cl w' H := by
  intro k q hq
  have h1 : (is.map (fun i => w[i]?))[k]? = some (some q) := by rw [hs, List.getElem?_map, hq]; rfl
  rw [List.getElem?_map] at h1
  cases hi : is[k]? with
  | none => rw [hi] at h1; cases h1
  | some i => rw [hi] at h1; exact h i q (Option.some.inj h1)
section JCALL
variable {p : Program} {e : Env} {R : Room} {s : State} {m : MethodId} {args : Array Value} {below : List Frame} {meth : Method} {c : Code} {H : Heap} {locs : List Loc} {Q : State → Prop}
theorem jCallF {X : jX} {T : jT} {Q1 : Option Value → jMem → Prop} {a : Array Value} {cells slots pc : Nat} {sl : Array Slot} {st0 rest : List Value} {A0 : Nat → Prop} {H0 : Heap}
    (hr : va_Run p X.1 e R s m args below meth c H locs cells slots 0 0 (F0 m pc sl st0) rest (jQc X T Q1 a) (jA X T)) (hS : va_S A0 H0 H locs) (hA : ∀ q, jA X T q → A0 q)
    (kk : ∀ (v : Option Value) (M1 : jMem) (H1 : Heap) (locs1 : List Loc), Q1 v M1 → jWd X T M1 s H1 → va_S A0 H0 H1 locs1 → (∀ q : Nat, q < H.size → ¬ jA X T q → H1[q]? = H[q]?) → W p X.1 e R s m args below meth c H1 locs1 cells slots Q (F0 m (pc + 3) sl ((v.map (jtr X.2.2.2)).toList ++ rest))) :
    W p X.1 e R s m args below meth c H locs cells slots Q (F0 m pc sl st0) := by
  intro T0 hT X0
  obtain ⟨v, st₀, t, T', L, h0, X', hL, e1, e2, ⟨⟨r, M1, hv, hp, hw⟩, hz, hk⟩, st⟩ := hr T0 hT X0
  cases hv
  rw [h0] at hz hk
  have hvm : s.vm.Alike t.vm := by rw [← e2]; exact X'.warmed.alike
  obtain ⟨t2, a1, b1⟩ := kk r M1 T'.heap (locs ++ L) hp (by rw [e1]; exact jWd_moved hvm.symm hw)
    ⟨Nat.le_trans hS.1 (by rw [e1]; exact hz), fun q h1 h2 => by rw [e1, hk q (Nat.lt_of_lt_of_le h1 hS.1) (fun z => h2 (hA q z))]; exact hS.2.1 q h1 h2, fun q hq => by
      rcases List.mem_append.mp hq with h | h
      · exact hS.2.2 q h
      · exact hA _ (hL q h)⟩ (fun q h1 h2 => by rw [e1]; exact hk q h1 h2) T' rfl X'
  exact ⟨t2, st t2 a1, b1⟩
end JCALL
section KJ
variable {Y : kX} {μ : kM} {ρ : kN} {h0 ci sz : Nat} {post : va_W → Prop} {pc : Nat} {ls stk fs : List Value} {ws : va_W} {cells slots : Nat}
theorem kr_jret {T : jT} {ad : Nat → Nat} {M : jMem} {Q1 : Option Value → jMem → Prop} {f idx i oc d2 : Nat} {As : List Value} {wr : va_W} {w' : jMem → va_W} (isC isR isP : List Nat)
    (hM : jInj (Y.1, Y.2.1, Y.2.2, ad) T → jOk (Y.1, Y.2.1, Y.2.2, ad) T d2 f (.ref i :: As) M Q1) (hf : f < jTab.length) (h0s : (jM f).2.2.2.2.2.2.1 = 0) (hoc : (jM f).2.2.2.2.1 = oc) (hna : (jM f).2.2.2.2.2.1 = As.length) (hob : jKd T i = oc)
    (hl : Cond.methodLink μ.1.cls idx (jM f).1 ∈ jTb) (hdd : d2 + 1 ≤ ρ.1) (hst : stk = (As.map (jtr ad)).reverse ++ [.ref (ad i)])
    (hC : isC.map (fun i => ((h0, .inr (ci, fs)) :: ws : va_W)[i]?) = (jWl (Y.1, Y.2.1, Y.2.2, ad) T M).map some) (hR : isR.map (fun i => ((h0, .inr (ci, fs)) :: ws : va_W)[i]?) = wr.map some) (hnC : va_nd isC = true) (hnR : va_nd isR = true) (hdis : ∀ i ∈ isR, i ∉ isC)
    (hd : decode μ.2.1 pc = .ok (.invokevirtual idx, 3)) (hd3 : decode μ.2.1 (pc + 3) = .ok (.return_, 1)) (hc : cells ≤ ρ.2.1) (hs : slots ≤ ρ.2.2)
    (hq : ∀ v M1, Q1 v M1 → v = none ∧ va_nd isP = true ∧ isP.map (fun i => (wr ++ jWl (Y.1, Y.2.1, Y.2.2, ad) T M1)[i]?) = (w' M1).map some ∧ post (w' M1)) : kR Y μ ρ h0 ci sz post pc ls stk fs ws cells slots := by
  subst hst
  intro p e s m args below meth cd H locs sl C hz hP hD hS hL
  have hK := C.2.2.2.2.2.2.2.2.1
  have hts := C.2.2.2.2.2.2.1
  have hPc : va_P Y.2.1 vwCl (jWl (Y.1, Y.2.1, Y.2.2, ad) T M) H := kSub hP isC hC
  have hDc := hD.sub isC hnC hC
  have hI : jInj (Y.1, Y.2.1, Y.2.2, ad) T := fun a b ha hb e => hDc.1 a b _ _ (jWl_at ha) (jWl_at hb) e
  have hFc := va_free hD hS (fun q hq => Or.inr (hz ▸ hq)) isC hC
  have hjA : ∀ q, jA (Y.1, Y.2.1, Y.2.2, ad) T q → va_A (jWl (Y.1, Y.2.1, Y.2.2, ad) T M) H.size q := by
    rintro q ⟨a, ha, rfl⟩
    exact Or.inl ⟨a, _, jWl_at ha⟩
  obtain ⟨u1, u2, u3, u4, u5, -⟩ := jMchk_u hf
  obtain ⟨v1, v2, q, hq', hqc⟩ := u5 h0s
  rw [hoc] at hq'
  have hc9 : oc < 9 := (List.getElem?_eq_some_iff.mp hq').1
  have he := jWl_at (X := (Y.1, Y.2.1, Y.2.2, ad)) (M := M) (jKd_lt hob (by omega))
  rw [jCell_o hob hc9] at he
  refine jCallF (X := (Y.1, Y.2.1, Y.2.2, ad)) (rest := []) (va_runV (b := ad i) (As := As.map (jtr ad)) ⟨C.1, C.2.1, C.2.2.2.2.1, C.2.2.2.2.2.1, hts⟩ (hM hI) (cwV As.length hts (jtb_good (fun w hw => ?_)) rfl rfl rfl ⟨rfl, u2.1, u2.2.1, by rw [← hna]; exact u2.2.2⟩ (kroom hdd u4 0 0)) ⟨jblind, ?_, fun U hU hw => ⟨rfl, ?_⟩⟩ rfl (by rw [List.length_map]) hL.2.1 rfl (lv_room (by simp)) hd ⟨hc, hs⟩) hS (fun q h => hFc q (hjA q h)) (fun v M1 H1 locs1 hq1 hw1 hs1 hk1 => ?_)
  · simp only [wsV] at hw
    rcases List.mem_append.mp hw with z | z
    · simp only [List.mem_cons, List.not_mem_nil, or_false] at z
      rcases z with rfl | rfl | rfl | rfl
      · exact hl
      · exact v1
      · exact v2
      · exact u1
    · exact jws_in hf w z
  · have := va_recv hK hPc hq' he
    rw [hqc] at this
    exact this
  · show jWd (Y.1, Y.2.1, Y.2.2, ad) T M U U.heap
    rw [hU]
    exact jWd_moved hw.alike ⟨hPc, hK⟩
  · obtain ⟨rfl, hnP, hPm, hpost⟩ := hq v M1 hq1
    obtain ⟨hP2, hD2⟩ := va_join hP hD isC isR hC hR hnR hdis (fun q h1 h2 => hk1 q h1 (fun h => h2 (hjA q h))) hFc hw1.1 ((jD_of (M := M1) hI).weaken (fun k q _ h => hjA q.1 h))
    exact W.widen hc hs (W.vret C.1 C.2.1 C.2.2.1 (fun t ht hW => ⟨⟨w' M1, rfl, hpost, by rw [ht]; exact kSub hP2 isP hPm, hD2.sub isP hnP hPm⟩, hs1.F ht⟩) hs1.2.2 hd3 C.2.2.2.1)
end KJ
