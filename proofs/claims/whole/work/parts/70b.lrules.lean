/-! THE CLAIM OUT OF ONE WALK OF THE LAW'S BODY. Your part is whole_start (and what it stands on); all else here is the same for every law, but numbers. -/
def R_law : String := "JumpLengthsLaw"
def lw_P (b : Addr) (xs : List Int32) (args : Array Value) (s : State) : Prop := args = #[.ref b] ∧ s.IntsAt b xs ∧ xs.length ≤ 2048 ∧ (Jvm.Cond.and given_1 narrow_1).before args s = true
def lw_Q (_ : Array Value) (s : State) (o : Outcome) (t : State) : Prop := o = .returned (some (.int 1)) ∧ Framed s o t [] 600000 7302250
def lw_Z (below : List Frame) (a : Array Value) (s : State) : State → Prop := fun t => ∃ o, t.status = .running ∧ Ended t below o ∧ lw_Q a s o t
/-- the law's own end, with 1 on the stack, nothing written that was there before, its room as the claim has it -/
theorem lw_ret {p : Program} {l : Launch} {e : Env} {s : State} {m : MethodId} {below : List Frame} {meth : Method} {c : Code} {b : Nat} (hx : p.tables.exec = Jvm.exec) (hb : c.code = code) (hr : meth.sig.returnType = ret) (hlocks : meth.locks = false) {pc : Nat} {H : Heap} {ls : Array Slot} (hdg : decode code pc = .ok (.ireturn, 1)) : W p l e room_1 s m #[Value.ref b] below meth c H [] 600000 7302250 (lw_Z below #[Value.ref b] s) (F0 m pc ls [.int 1]) := by
  intro T hT X
  obtain ⟨fs, hret, hrun, hended, hW, hframe⟩ := X.leave (v := some (.int 1)) (hlocks := hlocks) (fun h => by rw [hr] at h; cases h)
  have hmeth' : T.vm.method? m = some meth := X.method'
  refine ⟨T.setFrames fs, ?_, .returned (some (.int 1)), hrun, hended, rfl, ⟨_, rfl⟩, hW, hframe⟩
  jvm_step X.here [X.here.top, hx, hb, hdg, hmeth', hr, ret, narrow_b1]
  (try refine ⟨rfl, ?_⟩); (try refine ⟨rfl, ?_⟩)
  first | (intro acts; rw [hret _ acts rfl rfl rfl]) | rw [hret _ _ rfl rfl rfl]
  exact Steps.refl _
/-- what holds at the law's entry: the machine, the code, the tables' words (any of lw_tbl by 'hts w (by decide +kernel)'), the script of L ints xs at the cell b, what the Statement gives of the start (any of its parts by flat_of_before) -/
def lw_At (p : Program) (s : State) (m : MethodId) (meth : Method) (c : Code) (b L : Nat) (xs : Nat → Int32) : Prop :=
  p.tables.exec = Jvm.exec ∧ c.code = code ∧ meth.sig.returnType = ret ∧ c.maxLocals = 4 ∧ s.vm.findClass R_law = some m.cls ∧ (∀ w ∈ lw_tbl, w.before #[Value.ref b] s = true) ∧ va_X b L xs s s.heap ∧ b < s.heap.size ∧ meth.locks = false ∧ (Jvm.Cond.and given_1 narrow_1).before #[Value.ref b] s = true
theorem jInM.hi {M M' : jMem} {s : jSt} (e : ∀ c, 54 ≤ c → M' c = M c) (h : jInM M s) : jInM M' s :=
  ⟨by rw [e 54 (by decide), e 55 (by decide)]; exact h.1, h.2.1.fr (fun c a _ _ => e c (by omega)) (fun k _ => by rw [e 54 (by decide)]), by rw [e 57 (by decide), e 62 (by decide), e 54 (by decide)]; exact h.2.2.1, fun i hi => (h.2.2.2 i hi).fr (fun c a _ => e c (by omega))⟩
theorem jInC.lo {M M' : jMem} {s : jSt} (e : ∀ c, c < 54 → M' c = M c) (h : jInC M s) : jInC M' s :=
  ⟨by rw [e 1 (by decide), e 2 (by decide)]; exact h.1, h.2.1.fr (fun c _ b => e c (by omega)), h.2.2.1.fr (fun c _ b => e c (by omega)), fun i hi => (h.2.2.2.1 i hi).fr (fun c _ b => e c (by omega)), h.2.2.2.2.fr (e 0 (by decide)) (fun c _ b => e c (by omega))⟩
def lR (X : jX) (b L : Nat) (xs : Nat → Int32) (M : jMem) (pc : Nat) (ls st : List Value) : Prop :=
  ∀ (p : Program) (e : Env) (s : State) (m : MethodId) (below : List Frame) (meth : Method) (cd : Code) (H : Heap) (locs : List Loc) (sl : Array Slot),
    lw_At p s m meth cd b L xs → jWd X T0 M s H → jInj X T0 → (∀ i, i < 71 → s.heap.size ≤ X.2.2.2 i) → va_S (fun q => s.heap.size ≤ q) s.heap H locs → jLR (fun i => i) ls sl 4 →
    W p X.1 e room_1 s m #[Value.ref b] below meth cd H locs 71 2454 (lw_Z below #[Value.ref b] s) (F0 m pc sl st)
section LR
variable {X : jX} {b L : Nat} {xs : Nat → Int32} {M : jMem} {pc : Nat} {ls st : List Value}
theorem lr_aload {k : Fin 4} {a : Nat} (hd : decode code pc = .ok (.aload_n k, 1)) (hl : jAt ls (k : Nat) = .ref a) (h : lR X b L xs M (pc + 1) ls (.ref a :: st)) : lR X b L xs M pc ls st :=
  fun p e s m below meth cd H locs sl C hW hI hA hS hL => lv_aload_n C.1 C.2.1 hd rfl (hL.at hl (fun q => by cases q)) (h p e s m below meth cd H locs sl C hW hI hA hS hL)
theorem lr_iload {k : Fin 4} {x : Int32} (hd : decode code pc = .ok (.iload_n k, 1)) (hl : jAt ls (k : Nat) = .int x) (h : lR X b L xs M (pc + 1) ls (.int x :: st)) : lR X b L xs M pc ls st :=
  fun p e s m below meth cd H locs sl C hW hI hA hS hL => lv_iload_n C.1 C.2.1 hd rfl (hL.at hl (fun q => by cases q)) (h p e s m below meth cd H locs sl C hW hI hA hS hL)
theorem lr_iconst {n : Int} {v : Int32} (hd : decode code pc = .ok (.iconst n, 1)) (hv : Int32.ofInt n = v) (h : lR X b L xs M (pc + 1) ls (.int v :: st)) : lR X b L xs M pc ls st :=
  fun p e s m below meth cd H locs sl C hW hI hA hS hL => lv_iconst C.1 C.2.1 hd hv (h p e s m below meth cd H locs sl C hW hI hA hS hL)
theorem lr_bipush {n : Int} {v : Int32} (hd : decode code pc = .ok (.bipush n, 2)) (hv : (Int8.ofInt n).toInt32 = v) (h : lR X b L xs M (pc + 2) ls (.int v :: st)) : lR X b L xs M pc ls st :=
  fun p e s m below meth cd H locs sl C hW hI hA hS hL => lv_bipush C.1 C.2.1 hd hv (h p e s m below meth cd H locs sl C hW hI hA hS hL)
theorem lr_iadd {x y : Int32} (hd : decode code pc = .ok (.iadd, 1)) (h : lR X b L xs M (pc + 1) ls (.int (x + y) :: st)) : lR X b L xs M pc ls (.int y :: .int x :: st) :=
  fun p e s m below meth cd H locs sl C hW hI hA hS hL => lv_iadd C.1 C.2.1 hd (h p e s m below meth cd H locs sl C hW hI hA hS hL)
theorem lr_isub {x y : Int32} (hd : decode code pc = .ok (.isub, 1)) (h : lR X b L xs M (pc + 1) ls (.int (x - y) :: st)) : lR X b L xs M pc ls (.int y :: .int x :: st) :=
  fun p e s m below meth cd H locs sl C hW hI hA hS hL => lv_isub C.1 C.2.1 hd (h p e s m below meth cd H locs sl C hW hI hA hS hL)
theorem lr_iand {x y : Int32} (hd : decode code pc = .ok (.iand, 1)) (h : lR X b L xs M (pc + 1) ls (.int (x &&& y) :: st)) : lR X b L xs M pc ls (.int y :: .int x :: st) :=
  fun p e s m below meth cd H locs sl C hW hI hA hS hL => lv_iand C.1 C.2.1 hd (h p e s m below meth cd H locs sl C hW hI hA hS hL)
theorem lr_sld {j : Int32} (hd : decode code pc = .ok (.iaload, 1)) (hj : vp_in j L) (h : lR X b L xs M (pc + 1) ls (.int (xs j.toNatClampNeg) :: st)) : lR X b L xs M pc ls (.int j :: .ref b :: st) :=
  fun p e s m below meth cd H locs sl C hW hI hA hS hL => va_sld C.1 C.2.1 C.2.2.2.2.2.2.1 C.2.2.2.2.2.2.2.1 (Nat.not_le.mpr C.2.2.2.2.2.2.2.1) hS hj hd (h p e s m below meth cd H locs sl C hW hI hA hS hL)
theorem lr_slen (hd : decode code pc = .ok (.arraylength, 1)) (h : lR X b L xs M (pc + 1) ls (.int (Int32.ofNat L) :: st)) : lR X b L xs M pc ls (.ref b :: st) :=
  fun p e s m below meth cd H locs sl C hW hI hA hS hL => va_slen C.1 C.2.1 C.2.2.2.2.2.2.1 C.2.2.2.2.2.2.2.1 (Nat.not_le.mpr C.2.2.2.2.2.2.2.1) hS hd (h p e s m below meth cd H locs sl C hW hI hA hS hL)
theorem lr_arg {k i x y : Nat} (h1 : 1 ≤ k) (h3 : k ≤ 3) (hi : i + 3 < L) (hL : L ≤ 2048) (hls : ls = [.ref b, .ref x, .ref y, .int (nI i)]) (d0 : decode code pc = .ok (.aload_n 0, 1)) (d1 : decode code (pc + 1) = .ok (.iload_n 3, 1)) (d2 : decode code (pc + 2) = .ok (.iconst (k : Int), 1)) (d3 : decode code (pc + 3) = .ok (.iadd, 1)) (d4 : decode code (pc + 4) = .ok (.iaload, 1))
    (h : lR X b L xs M (pc + 5) ls (.int (xs (i + k)) :: st)) : lR X b L xs M pc ls st := by
  subst hls
  refine lr_aload (k := 0) (a := b) d0 rfl ?_
  refine lr_iload (k := 3) (x := nI i) d1 rfl ?_
  refine lr_iconst (v := nI k) d2 ?_ ?_
  · rcases (show k = 1 ∨ k = 2 ∨ k = 3 by omega) with rfl | rfl | rfl <;> decide
  refine lr_iadd d3 ?_
  rw [nI_add]
  refine lr_sld d4 (vp_in_nI (by omega) (by omega)) ?_
  rw [nI_cl (by omega)]
  exact h
theorem lr_call {f idx i oc : Nat} {As : List Value} {r : Int32} {G : jMem → Prop} (hM : jOk X T0 12 f (.ref i :: As) M (fun v N => v = some (.int r) ∧ G N)) (hf : f < jTab.length) (h0s : (jM f).2.2.2.2.2.2.1 = 0) (hoc : (jM f).2.2.2.2.1 = oc) (hna : (jM f).2.2.2.2.2.1 = As.length) (hob : jKd T0 i = oc)
    (hl : Cond.methodLink R_law idx (jM f).1 ∈ jTb) (hAs : As.map (jtr X.2.2.2) = As) (hst : st.length ≤ 4) (hd : decode code pc = .ok (.invokevirtual idx, 3)) (h : ∀ N, G N → lR X b L xs N (pc + 3) ls (.int r :: st)) : lR X b L xs M pc ls (As.reverse ++ .ref (X.2.2.2 i) :: st) := by
  intro p e s m below meth cd H locs sl C hW hI hA hS hL
  have hts : ∀ w ∈ jTb, w.before #[Value.ref b] s = true := fun w hw => C.2.2.2.2.2.1 w (List.mem_filter.mp hw).1
  obtain ⟨u1, u2, u3, u4, u5, -⟩ := jMchk_u hf
  obtain ⟨v1, v2, q, hq', hqc⟩ := u5 h0s
  rw [hoc] at hq'
  have hc9 : oc < 9 := (List.getElem?_eq_some_iff.mp hq').1
  have he := jWl_at (X := X) (M := M) (jKd_lt hob (by omega))
  rw [jCell_o hob hc9] at he
  refine jCallX (rest := st) (va_runV (b := X.2.2.2 i) (As := As.map (jtr X.2.2.2)) ⟨C.1, C.2.1, C.2.2.2.1, C.2.2.2.2.1, hts⟩ hM (cwV As.length hts (jtb_good (fun w hw => ?_)) rfl rfl rfl ⟨rfl, u2.1, u2.2.1, by rw [← hna]; exact u2.2.2⟩ ⟨Nat.le_of_ble_eq_true rfl, ?_⟩) ⟨jblind, ?_, fun U hU hw => ⟨rfl, ?_⟩⟩ rfl (by rw [List.length_map]) hL.2.1 (by rw [hAs]) (lv_room (ksum hst)) hd ⟨Nat.le_of_ble_eq_true rfl, Nat.le_of_ble_eq_true rfl⟩) hS ?_ (fun v N H1 locs1 hq1 hw1 hs1 => ?_)
  · simp only [wsV] at hw
    rcases List.mem_append.mp hw with z | z
    · simp only [List.mem_cons, List.not_mem_nil, or_false] at z
      rcases z with rfl | rfl | rfl | rfl
      · exact hl
      · exact v1
      · exact v2
      · exact u1
    · exact jws_in hf w z
  · show 8 + ((jM f).2.2.1 + 11) + 40 * (12 + 1) ≤ 84000
    omega
  · have := va_recv hW.2 hW.1 hq' he
    rw [hqc] at this
    exact this
  · show jWd X T0 M U U.heap
    rw [hU]
    exact jWd_moved hw.alike hW
  · rintro q ⟨a, ha, rfl⟩
    exact hA a ha
  · obtain ⟨rfl, hg⟩ := hq1
    exact h N hg p e s m below meth cd H1 locs1 sl C hw1 hI hA hs1 hL
theorem lr_eq {r : Int32} {off : Int} {t : Nat} (hd : decode code pc = .ok (.if_icmp .eq off, 3)) (ht : (pc : Int) + off = (t : Int)) (h : lR X b L xs M t ls st) : lR X b L xs M pc ls (.int r :: .int r :: st) :=
  fun p e s m below meth cd H locs sl C hW hI hA hS hL => lv_icmp_eq C.1 C.2.1 hd ht (fun _ => h p e s m below meth cd H locs sl C hW hI hA hS hL) (fun g => absurd rfl g)
theorem lr_gt {x y : Int32} {off : Int} {t : Nat} (hd : decode code pc = .ok (.if_icmp .gt off, 3)) (ht : (pc : Int) + off = (t : Int)) (h1 : y < x → lR X b L xs M t ls st) (h2 : ¬ y < x → lR X b L xs M (pc + 3) ls st) : lR X b L xs M pc ls (.int y :: .int x :: st) :=
  fun p e s m below meth cd H locs sl C hW hI hA hS hL => lv_icmp_gt C.1 C.2.1 hd ht (fun g => h1 g p e s m below meth cd H locs sl C hW hI hA hS hL) (fun g => h2 g p e s m below meth cd H locs sl C hW hI hA hS hL)
theorem lr_goto {off : Int} {t : Nat} (hd : decode code pc = .ok (.goto off, 3)) (ht : (pc : Int) + off = (t : Int)) (h : lR X b L xs M t ls st) : lR X b L xs M pc ls st :=
  fun p e s m below meth cd H locs sl C hW hI hA hS hL => lv_goto C.1 C.2.1 hd ht (h p e s m below meth cd H locs sl C hW hI hA hS hL)
theorem lr_iinc {x y : Nat} {v : Int32} (hd : decode code pc = .ok (.iinc 3 4, 3)) (h : lR X b L xs M (pc + 3) [.ref b, .ref x, .ref y, .int (v + Int32.ofInt 4)] st) : lR X b L xs M pc [.ref b, .ref x, .ref y, .int v] st := by
  intro p e s m below meth cd H locs sl C hW hI hA hS hL
  have hm := jLst_mem (ad := fun i => i) (ls := [.ref b, .ref x, .ref y, .int v]) (i := 3) (fun q => by cases q)
  obtain ⟨k, hk⟩ := List.getElem?_of_mem hm
  exact lv_iinc (x := v) C.1 C.2.1 hd hL.has (k := k) hk rfl (by decide) rfl (fun sl' hl => h p e s m below meth cd H locs sl' C hW hI hA hS (hL.store (v := .int (v + Int32.ofInt 4)) (Nat.le_of_ble_eq_true rfl) rfl hl))
theorem lr_tsw {df lo hi : Int} {offs : Array Int} {len dd : Nat} {ts : List Nat} {x : Int32} (hd : decode code pc = .ok (.tableswitch df lo hi offs, len))
    (h1 : (pc : Int) + df = (dd : Int)) (h2 : offs.toList.map (fun o => (pc : Int) + o) = ts.map (fun t : Nat => (t : Int))) (h3 : 0 ≤ lo) (h4 : lo + ts.length ≤ 1000) (h5 : hi + 1 = lo + ts.length) (h : lR X b L xs M (jSw x lo ts dd) ls st) : lR X b L xs M pc ls (.int x :: st) := by
  intro p e s m below meth cd H locs sl C hW hI hA hS hL
  have hk := h p e s m below meth cd H locs sl C hW hI hA hS hL
  by_cases g : x.toInt < lo ∨ hi < x.toInt
  · rw [show jSw x lo ts dd = dd from jSw_out x ts lo dd h3 h4 (by omega)] at hk
    exact lv_tableOut C.1 C.2.1 hd g h1 hk
  · have g1 := jSw_in x ts lo dd h3 h4 (by omega) (by omega)
    have g2 : (offs.toList.map (fun o => (pc : Int) + o))[(x.toInt - lo).toNat]? = some ((jSw x lo ts dd : Nat) : Int) := by rw [h2, List.getElem?_map, g1]; rfl
    rw [List.getElem?_map] at g2
    cases ho : offs.toList[(x.toInt - lo).toNat]? with
    | none => rw [ho] at g2; cases g2
    | some o =>
      rw [ho] at g2
      rw [Array.getElem?_toList] at ho
      exact lv_tableIn C.1 C.2.1 hd (fun q => g (Or.inl q)) (fun q => g (Or.inr q)) ho (Option.some.inj g2) hk
theorem lr_sw {lo : Int} {t dd : Nat} {ts : List Nat} {x : Int32} (h1 : x = Int32.ofInt lo → lR X b L xs M t ls st) (h2 : ¬ x = Int32.ofInt lo → lR X b L xs M (jSw x (lo + 1) ts dd) ls st) : lR X b L xs M (jSw x lo (t :: ts) dd) ls st := by
  simp only [jSw]
  by_cases h : x = Int32.ofInt lo
  · rw [if_pos h]; exact h1 h
  · rw [if_neg h]; exact h2 h
theorem lr_end : lR X b L xs M 637 ls [] := by
  refine lr_iconst (v := 1) dl_637 (by decide) ?_
  intro p e s m below meth cd H locs sl C hW hI hA hS hL
  exact va_forget hS.2.2 (W.widen (Nat.le_of_ble_eq_true rfl) (Nat.le_of_ble_eq_true rfl) (lw_ret C.1 C.2.1 C.2.2.1 C.2.2.2.2.2.2.2.2.1 dl_638))
end LR
