theorem jcf_all : ∀ q ∈ jKs.zipIdx, ∀ pc e, q.1 pc = some e → jOkE q.2 pc e = true := List.forall_mem_cons.mpr ⟨jcf_X0_becomeAs, List.forall_mem_cons.mpr ⟨jcf_X1_size, List.forall_mem_cons.mpr ⟨jcf_X1_growFrom, List.forall_mem_cons.mpr ⟨jcf_X1_shrink, List.forall_mem_cons.mpr ⟨jcf_X1_tryAll, List.forall_mem_cons.mpr ⟨jcf_X1_isLong, List.forall_mem_cons.mpr ⟨jcf_X1_farOf, List.forall_mem_cons.mpr ⟨jcf_X1_servedCalls, List.forall_mem_cons.mpr ⟨jcf_X1_servesAll, List.forall_mem_cons.mpr ⟨jcf_X1_sumOfBytes, List.forall_mem_cons.mpr ⟨jcf_X1_itemOfByte, List.forall_mem_cons.mpr ⟨jcf_X1_byteOf, List.forall_mem_cons.mpr ⟨jcf_X1_byteOfNumber, List.forall_mem_cons.mpr ⟨jcf_X1_lay, List.forall_mem_cons.mpr ⟨jcf_X1_bytesOf, List.forall_mem_cons.mpr ⟨jcf_X1_strandedJumps, List.forall_mem_cons.mpr ⟨jcf_X1_wouldReach, List.forall_mem_cons.mpr ⟨jcf_X1_farServed, List.forall_mem_cons.mpr ⟨jcf_X1_farOfIsland, List.forall_mem_cons.mpr ⟨jcf_X2_becomeAs, List.forall_mem_cons.mpr ⟨jcf_X2_remember, List.forall_mem_cons.mpr ⟨jcf_X2_takeBack, List.forall_mem_cons.mpr ⟨jcf_X2_loseOldest, List.forall_mem_cons.mpr ⟨jcf_X3_hasItem, List.forall_mem_cons.mpr ⟨jcf_X3_isOf, List.forall_mem_cons.mpr ⟨jcf_X3_goesToLabel, List.forall_mem_cons.mpr ⟨jcf_X3_hasLabel, List.forall_mem_cons.mpr ⟨jcf_X3_allJumps, List.forall_mem_cons.mpr ⟨jcf_X3_becomeAs, List.forall_mem_cons.mpr ⟨jcf_X3_readFrom, List.forall_mem_cons.mpr ⟨jcf_X3_empty, List.forall_mem_cons.mpr ⟨jcf_X3_readTold, List.forall_mem_cons.mpr ⟨jcf_X3_sortOf, List.forall_mem_cons.mpr ⟨jcf_X3_hasRoomFor, List.forall_mem_cons.mpr ⟨jcf_X3_mayBeOf, List.forall_mem_cons.mpr ⟨jcf_X3_add, List.forall_mem_cons.mpr ⟨jcf_X3_numberOf, List.forall_mem_cons.mpr ⟨jcf_X3_findTargets, List.forall_mem_cons.mpr ⟨jcf_X4_leastReach, List.forall_mem_cons.mpr ⟨jcf_X4_fewestIslands, List.forall_mem_cons.mpr ⟨jcf_X4_allOdds, List.forall_mem_cons.mpr ⟨jcf_X4_oddsOfLong, List.forall_mem_cons.mpr ⟨jcf_X4_leastWith, List.forall_mem_cons.mpr ⟨jcf_X4_servesAllBy, List.forall_mem_cons.mpr ⟨jcf_X4_findFirstOps, List.forall_mem_cons.mpr ⟨jcf_X4_power, List.forall_mem_cons.mpr ⟨jcf_X5_startAs, List.forall_mem_cons.mpr ⟨jcf_X5_becomeAs, List.forall_mem_cons.mpr ⟨jcf_X5_reaches, List.forall_mem_cons.mpr ⟨jcf_X5_islandCount, List.forall_mem_cons.mpr ⟨jcf_X5_islandsIn, List.forall_mem_cons.mpr ⟨jcf_X5_labelsIn, List.forall_mem_cons.mpr ⟨jcf_X5_hasIsland, List.forall_mem_cons.mpr ⟨jcf_X6_take, List.forall_mem_cons.mpr ⟨jcf_X6_begin, List.forall_mem_cons.mpr ⟨jcf_X6_next, List.forall_mem_cons.mpr ⟨jcf_X6_isNumber, List.forall_mem_cons.mpr ⟨jcf_X6_isLabel, List.forall_mem_cons.mpr ⟨jcf_X6_readWord, List.forall_mem_cons.mpr ⟨jcf_X6_readNumber, List.forall_mem_cons.mpr ⟨jcf_X6_isLetter, List.forall_mem_cons.mpr ⟨jcf_X6_isDigit, List.forall_mem_cons.mpr ⟨jcf_X7_type, List.forall_mem_cons.mpr ⟨jcf_X7_clear, List.forall_mem_cons.mpr ⟨jcf_X7_source, List.forall_mem_cons.mpr ⟨jcf_X7_item, List.forall_mem_cons.mpr ⟨jcf_X7_sizes, List.forall_mem_cons.mpr ⟨jcf_X7_pins, List.forall_mem_cons.mpr ⟨jcf_X7_places, List.forall_mem_cons.mpr ⟨jcf_X7_takes, List.forall_mem_cons.mpr ⟨jcf_X7_undo, List.forall_mem_cons.mpr ⟨jcf_X7_way, List.forall_mem_cons.mpr ⟨jcf_X7_lies, List.forall_mem_cons.mpr ⟨jcf_X7_code, List.forall_mem_cons.mpr ⟨jcf_X7_origin, List.forall_mem_cons.mpr ⟨jcf_X7_narrow, List.forall_mem_cons.mpr ⟨jcf_X7_fewest, List.forall_mem_cons.mpr ⟨jcf_X7_odds, List.forall_mem_cons.mpr ⟨jcf_X7_keep, List.forall_mem_cons.mpr ⟨jcf_X7_back, List.forall_mem_cons.mpr ⟨jcf_X7_count, List.forall_mem_cons.mpr ⟨jcf_X7_valueNow, List.forall_mem_cons.mpr ⟨jcf_X7_mayHoldIsland, List.forall_mem_cons.mpr ⟨jcf_X7_turnIsland, List.forall_mem_cons.mpr ⟨jcf_X7_isWay, List.forall_mem_cons.mpr ⟨jcf_X7_layoutOf, List.forall_mem_cons.mpr ⟨jcf_X7_imageOf, List.forall_mem_cons.mpr ⟨jcf_X7_commonDivisor, List.forall_mem_cons.mpr ⟨jcf_X8_in, List.forall_mem_cons.mpr ⟨jcf_X8_type, List.forall_mem_cons.mpr ⟨jcf_X8_clear, List.forall_mem_cons.mpr ⟨jcf_X8_byteAt, List.forall_mem_cons.mpr ⟨jcf_X8_next, List.forall_mem_cons.mpr ⟨jcf_X8_sortBy, List.forall_mem_cons.mpr ⟨jcf_X8_tellOf, List.forall_mem_cons.mpr ⟨jcf_X8_isLabelTold, List.forall_mem_cons.mpr ⟨jcf_X8_isRight, List.forall_mem_cons.mpr ⟨jcf_X8_readOne, List.forall_mem_cons.mpr ⟨jcf_X8_areLabelsThere, List.forall_mem_cons.mpr ⟨jcf_X8_source, List.forall_mem_cons.mpr ⟨jcf_X8_lay, List.forall_mem_cons.mpr ⟨jcf_X8_isItem, List.forall_mem_cons.mpr ⟨jcf_X8_numberOf, List.forall_mem_cons.mpr ⟨jcf_X8_bits, List.forall_mem_cons.mpr ⟨jcf_X8_has, List.forall_mem_cons.mpr ⟨jcf_X8_item, List.forall_mem_cons.mpr ⟨jcf_X8_keepAct, List.forall_mem_cons.mpr ⟨jcf_X8_sizes, List.forall_mem_cons.mpr ⟨jcf_X8_pins, List.forall_mem_cons.mpr ⟨jcf_X8_isles, List.forall_mem_cons.mpr ⟨jcf_X8_isIsle, List.forall_mem_cons.mpr ⟨jcf_X8_places, List.forall_mem_cons.mpr ⟨jcf_X8_takes, List.forall_mem_cons.mpr ⟨jcf_X8_undo, List.forall_mem_cons.mpr ⟨jcf_X8_layOut, List.forall_mem_cons.mpr ⟨jcf_X8_farOf, List.forall_mem_cons.mpr ⟨jcf_X8_isNear, List.forall_mem_cons.mpr ⟨jcf_X8_shortOnes, List.forall_mem_cons.mpr ⟨jcf_X8_grow, List.forall_mem_cons.mpr ⟨jcf_X8_shrink, List.forall_mem_cons.mpr ⟨jcf_X8_leastOf, List.forall_mem_cons.mpr ⟨jcf_X8_layWay, List.forall_mem_cons.mpr ⟨jcf_X8_isleAt, List.forall_mem_cons.mpr ⟨jcf_X8_isleFar, List.forall_mem_cons.mpr ⟨jcf_X8_served, List.forall_mem_cons.mpr ⟨jcf_X8_itemAt, List.forall_mem_cons.mpr ⟨jcf_X8_part, List.forall_mem_cons.mpr ⟨jcf_X8_isleByte, List.forall_mem_cons.mpr ⟨jcf_X8_byteOf, List.forall_mem_cons.mpr ⟨jcf_X8_isWay, List.forall_mem_cons.mpr ⟨jcf_X8_way, List.forall_mem_cons.mpr ⟨jcf_X8_lies, List.forall_mem_cons.mpr ⟨jcf_X8_code, List.forall_mem_cons.mpr ⟨jcf_X8_origin, List.forall_mem_cons.mpr ⟨jcf_X8_narrow, List.forall_mem_cons.mpr ⟨jcf_X8_doServe, List.forall_mem_cons.mpr ⟨jcf_X8_mayBe, List.forall_mem_cons.mpr ⟨jcf_X8_serving, List.forall_mem_cons.mpr ⟨jcf_X8_fewest, List.forall_mem_cons.mpr ⟨jcf_X8_growOps, List.forall_mem_cons.mpr ⟨jcf_X8_odds, List.forall_mem_cons.mpr ⟨jcf_X8_keep, List.forall_mem_cons.mpr ⟨jcf_X8_back, List.forall_mem_cons.mpr ⟨jcf_X8_count, List.forall_mem_cons.mpr ⟨jcf_J6_bitCount_0f7a4, fun _ h => absurd h List.not_mem_nil⟩⟩⟩⟩⟩⟩⟩⟩⟩⟩⟩⟩⟩⟩⟩⟩⟩⟩⟩⟩⟩⟩⟩⟩⟩⟩⟩⟩⟩⟩⟩⟩⟩⟩⟩⟩⟩⟩⟩⟩⟩⟩⟩⟩⟩⟩⟩⟩⟩⟩⟩⟩⟩⟩⟩⟩⟩⟩⟩⟩⟩⟩⟩⟩⟩⟩⟩⟩⟩⟩⟩⟩⟩⟩⟩⟩⟩⟩⟩⟩⟩⟩⟩⟩⟩⟩⟩⟩⟩⟩⟩⟩⟩⟩⟩⟩⟩⟩⟩⟩⟩⟩⟩⟩⟩⟩⟩⟩⟩⟩⟩⟩⟩⟩⟩⟩⟩⟩⟩⟩⟩⟩⟩⟩⟩⟩⟩⟩⟩⟩⟩⟩⟩⟩⟩⟩⟩⟩⟩⟩⟩⟩⟩⟩⟩
theorem jCk (mi pc : Nat) (e : jE) (h : jCode mi pc = some e) : jOkE mi pc e = true := by
  unfold jCode at h
  rw [List.getD_eq_getElem?_getD] at h
  cases hk : jKs[mi]? with
  | none => rw [hk] at h; cases h
  | some k =>
    rw [hk] at h
    have hm : (k, mi) ∈ jKs.zipIdx := List.mem_of_getElem? (i := mi) (by rw [List.getElem?_zipIdx, hk]; simp)
    exact jcf_all _ hm pc e h
def jMchk (f : Nat) : Bool := match jM f with
  | (y, _, ml, _, oc, n, st, pls) => match pls with
    | [_, p1, p2, p3] => (decide (lw_tbl[p3]? = some (.initialized y.cls)) && (decide (y.cls ≠ "java/lang/invoke/MethodHandle" ∧ y.cls ≠ "java/lang/invoke/VarHandle" ∧ (parseMethodDescriptor y.desc).map (fun d => d.parameters.length) = some n) && (decide (Jvm.plainName y.cls = true) && (decide (ml ≤ 21) && (match st with
      | 0 => decide (lw_tbl[p1]? = some (.instanceMethod y)) && (decide (lw_tbl[p2]? = some (.selects y.cls y y)) && decide ((vwCl[oc]?).map (fun q => q.1) = some y.cls))
      | _ => decide (lw_tbl[p1]? = some (.static y)))))))
    | _ => false
theorem jMchk_all : (List.range jTab.length).all jMchk = true := by decide +kernel
theorem jMc (f : Nat) (h : f < jTab.length) : jMchk f = true := List.all_eq_true.mp jMchk_all f (List.mem_range.mpr h)
abbrev jTb : List Cond := lw_tbl.filter goodWord
theorem jtb {w : Cond} {i : Nat} (h : lw_tbl[i]? = some w) (g : goodWord w = true) : w ∈ jTb := List.mem_filter.mpr ⟨List.mem_of_getElem? h, g⟩
theorem jtb_good {ws : List Cond} (h : ∀ w ∈ ws, w ∈ jTb) : GoodIn jTb ws := fun w hw => ⟨h w hw, good_of_word (List.mem_filter.mp (h w hw)).2⟩
set_option maxRecDepth 100000 in
theorem jcd_X0_becomeAs : Cond.code yX0_becomeAs cX0_becomeAs 2 none ∈ jTb := jtb (i := 705) (by rfl) rfl
set_option maxRecDepth 100000 in
theorem jcd_X1_size : Cond.code yX1_size cX1_size 1 (some FieldType.int) ∈ jTb := jtb (i := 586) (by rfl) rfl
set_option maxRecDepth 100000 in
theorem jcd_X1_growFrom : Cond.code yX1_growFrom cX1_growFrom 5 none ∈ jTb := jtb (i := 539) (by rfl) rfl
set_option maxRecDepth 100000 in
theorem jcd_X1_shrink : Cond.code yX1_shrink cX1_shrink 7 none ∈ jTb := jtb (i := 569) (by rfl) rfl
set_option maxRecDepth 100000 in
theorem jcd_X1_tryAll : Cond.code yX1_tryAll cX1_tryAll 6 none ∈ jTb := jtb (i := 582) (by rfl) rfl
set_option maxRecDepth 100000 in
theorem jcd_X1_isLong : Cond.code yX1_isLong cX1_isLong 2 (some FieldType.boolean) ∈ jTb := jtb (i := 551) (by rfl) rfl
set_option maxRecDepth 100000 in
theorem jcd_X1_farOf : Cond.code yX1_farOf cX1_farOf 2 (some FieldType.int) ∈ jTb := jtb (i := 561) (by rfl) rfl
set_option maxRecDepth 100000 in
theorem jcd_X1_servedCalls : Cond.code yX1_servedCalls cX1_servedCalls 4 (some FieldType.int) ∈ jTb := jtb (i := 591) (by rfl) rfl
set_option maxRecDepth 100000 in
theorem jcd_X1_servesAll : Cond.code yX1_servesAll cX1_servesAll 3 (some FieldType.boolean) ∈ jTb := jtb (i := 666) (by rfl) rfl
set_option maxRecDepth 100000 in
theorem jcd_X1_sumOfBytes : Cond.code yX1_sumOfBytes cX1_sumOfBytes 6 (some FieldType.int) ∈ jTb := jtb (i := 601) (by rfl) rfl
set_option maxRecDepth 100000 in
theorem jcd_X1_itemOfByte : Cond.code yX1_itemOfByte cX1_itemOfByte 3 (some FieldType.int) ∈ jTb := jtb (i := 628) (by rfl) rfl
set_option maxRecDepth 100000 in
theorem jcd_X1_byteOf : Cond.code yX1_byteOf cX1_byteOf 5 (some FieldType.int) ∈ jTb := jtb (i := 605) (by rfl) rfl
set_option maxRecDepth 100000 in
theorem jcd_X1_byteOfNumber : Cond.code yX1_byteOfNumber cX1_byteOfNumber 2 (some FieldType.int) ∈ jTb := jtb (i := 608) (by rfl) rfl
set_option maxRecDepth 100000 in
theorem jcd_X1_lay : Cond.code yX1_lay cX1_lay 5 none ∈ jTb := jtb (i := 543) (by rfl) rfl
set_option maxRecDepth 100000 in
theorem jcd_X1_bytesOf : Cond.code yX1_bytesOf cX1_bytesOf 4 (some FieldType.int) ∈ jTb := jtb (i := 547) (by rfl) rfl
set_option maxRecDepth 100000 in
theorem jcd_X1_strandedJumps : Cond.code yX1_strandedJumps cX1_strandedJumps 4 (some FieldType.int) ∈ jTb := jtb (i := 557) (by rfl) rfl
set_option maxRecDepth 100000 in
theorem jcd_X1_wouldReach : Cond.code yX1_wouldReach cX1_wouldReach 5 (some FieldType.int) ∈ jTb := jtb (i := 577) (by rfl) rfl
set_option maxRecDepth 100000 in
theorem jcd_X1_farServed : Cond.code yX1_farServed cX1_farServed 7 (some FieldType.int) ∈ jTb := jtb (i := 595) (by rfl) rfl
set_option maxRecDepth 100000 in
theorem jcd_X1_farOfIsland : Cond.code yX1_farOfIsland cX1_farOfIsland 7 (some FieldType.int) ∈ jTb := jtb (i := 612) (by rfl) rfl
set_option maxRecDepth 100000 in
theorem jcd_X2_becomeAs : Cond.code yX2_becomeAs cX2_becomeAs 2 none ∈ jTb := jtb (i := 710) (by rfl) rfl
set_option maxRecDepth 100000 in
theorem jcd_X2_remember : Cond.code yX2_remember cX2_remember 4 none ∈ jTb := jtb (i := 482) (by rfl) rfl
set_option maxRecDepth 100000 in
theorem jcd_X2_takeBack : Cond.code yX2_takeBack cX2_takeBack 2 none ∈ jTb := jtb (i := 524) (by rfl) rfl
set_option maxRecDepth 100000 in
theorem jcd_X2_loseOldest : Cond.code yX2_loseOldest cX2_loseOldest 1 none ∈ jTb := jtb (i := 486) (by rfl) rfl
set_option maxRecDepth 100000 in
theorem jcd_X3_hasItem : Cond.code yX3_hasItem cX3_hasItem 2 (some FieldType.boolean) ∈ jTb := jtb (i := 450) (by rfl) rfl
set_option maxRecDepth 100000 in
theorem jcd_X3_isOf : Cond.code yX3_isOf cX3_isOf 3 (some FieldType.boolean) ∈ jTb := jtb (i := 446) (by rfl) rfl
set_option maxRecDepth 100000 in
theorem jcd_X3_goesToLabel : Cond.code yX3_goesToLabel cX3_goesToLabel 2 (some FieldType.boolean) ∈ jTb := jtb (i := 442) (by rfl) rfl
set_option maxRecDepth 100000 in
theorem jcd_X3_hasLabel : Cond.code yX3_hasLabel cX3_hasLabel 2 (some FieldType.boolean) ∈ jTb := jtb (i := 420) (by rfl) rfl
set_option maxRecDepth 100000 in
theorem jcd_X3_allJumps : Cond.code yX3_allJumps cX3_allJumps 1 (some FieldType.int) ∈ jTb := jtb (i := 573) (by rfl) rfl
set_option maxRecDepth 100000 in
theorem jcd_X3_becomeAs : Cond.code yX3_becomeAs cX3_becomeAs 2 none ∈ jTb := jtb (i := 454) (by rfl) rfl
set_option maxRecDepth 100000 in
theorem jcd_X3_readFrom : Cond.code yX3_readFrom cX3_readFrom 3 (some FieldType.int) ∈ jTb := jtb (i := 367) (by rfl) rfl
set_option maxRecDepth 100000 in
theorem jcd_X3_empty : Cond.code yX3_empty cX3_empty 2 none ∈ jTb := jtb (i := 114) (by rfl) rfl
set_option maxRecDepth 100000 in
theorem jcd_X3_readTold : Cond.code yX3_readTold cX3_readTold 7 (some FieldType.boolean) ∈ jTb := jtb (i := 396) (by rfl) rfl
set_option maxRecDepth 100000 in
theorem jcd_X3_sortOf : Cond.code yX3_sortOf cX3_sortOf 1 (some FieldType.int) ∈ jTb := jtb (i := 399) (by rfl) rfl
set_option maxRecDepth 100000 in
theorem jcd_X3_hasRoomFor : Cond.code yX3_hasRoomFor cX3_hasRoomFor 2 (some FieldType.boolean) ∈ jTb := jtb (i := 403) (by rfl) rfl
set_option maxRecDepth 100000 in
theorem jcd_X3_mayBeOf : Cond.code yX3_mayBeOf cX3_mayBeOf 3 (some FieldType.boolean) ∈ jTb := jtb (i := 412) (by rfl) rfl
set_option maxRecDepth 100000 in
theorem jcd_X3_add : Cond.code yX3_add cX3_add 3 none ∈ jTb := jtb (i := 430) (by rfl) rfl
set_option maxRecDepth 100000 in
theorem jcd_X3_numberOf : Cond.code yX3_numberOf cX3_numberOf 3 (some FieldType.int) ∈ jTb := jtb (i := 434) (by rfl) rfl
set_option maxRecDepth 100000 in
theorem jcd_X3_findTargets : Cond.code yX3_findTargets cX3_findTargets 2 (some FieldType.boolean) ∈ jTb := jtb (i := 438) (by rfl) rfl
set_option maxRecDepth 100000 in
theorem jcd_X4_leastReach : Cond.code yX4_leastReach cX4_leastReach 3 (some FieldType.int) ∈ jTb := jtb (i := 641) (by rfl) rfl
set_option maxRecDepth 100000 in
theorem jcd_X4_fewestIslands : Cond.code yX4_fewestIslands cX4_fewestIslands 4 (some FieldType.int) ∈ jTb := jtb (i := 654) (by rfl) rfl
set_option maxRecDepth 100000 in
theorem jcd_X4_allOdds : Cond.code yX4_allOdds cX4_allOdds 1 (some FieldType.int) ∈ jTb := jtb (i := 676) (by rfl) rfl
set_option maxRecDepth 100000 in
theorem jcd_X4_oddsOfLong : Cond.code yX4_oddsOfLong cX4_oddsOfLong 8 (some FieldType.int) ∈ jTb := jtb (i := 684) (by rfl) rfl
set_option maxRecDepth 100000 in
theorem jcd_X4_leastWith : Cond.code yX4_leastWith cX4_leastWith 6 (some FieldType.int) ∈ jTb := jtb (i := 657) (by rfl) rfl
set_option maxRecDepth 100000 in
theorem jcd_X4_servesAllBy : Cond.code yX4_servesAllBy cX4_servesAllBy 3 (some FieldType.boolean) ∈ jTb := jtb (i := 661) (by rfl) rfl
set_option maxRecDepth 100000 in
theorem jcd_X4_findFirstOps : Cond.code yX4_findFirstOps cX4_findFirstOps 3 (some FieldType.int) ∈ jTb := jtb (i := 688) (by rfl) rfl
set_option maxRecDepth 100000 in
theorem jcd_X4_power : Cond.code yX4_power cX4_power 4 (some FieldType.int) ∈ jTb := jtb (i := 680) (by rfl) rfl
set_option maxRecDepth 100000 in
theorem jcd_X5_startAs : Cond.code yX5_startAs cX5_startAs 2 none ∈ jTb := jtb (i := 307) (by rfl) rfl
set_option maxRecDepth 100000 in
theorem jcd_X5_becomeAs : Cond.code yX5_becomeAs cX5_becomeAs 2 none ∈ jTb := jtb (i := 645) (by rfl) rfl
set_option maxRecDepth 100000 in
theorem jcd_X5_reaches : Cond.code yX5_reaches cX5_reaches 2 (some FieldType.boolean) ∈ jTb := jtb (i := 565) (by rfl) rfl
set_option maxRecDepth 100000 in
theorem jcd_X5_islandCount : Cond.code yX5_islandCount cX5_islandCount 1 (some FieldType.int) ∈ jTb := jtb (i := 508) (by rfl) rfl
set_option maxRecDepth 100000 in
theorem jcd_X5_islandsIn : Cond.code yX5_islandsIn cX5_islandsIn 2 (some FieldType.int) ∈ jTb := jtb (i := 468) (by rfl) rfl
set_option maxRecDepth 100000 in
theorem jcd_X5_labelsIn : Cond.code yX5_labelsIn cX5_labelsIn 2 (some FieldType.int) ∈ jTb := jtb (i := 472) (by rfl) rfl
set_option maxRecDepth 100000 in
theorem jcd_X5_hasIsland : Cond.code yX5_hasIsland cX5_hasIsland 3 (some FieldType.boolean) ∈ jTb := jtb (i := 504) (by rfl) rfl
set_option maxRecDepth 100000 in
theorem jcd_X6_take : Cond.code yX6_take cX6_take 2 none ∈ jTb := jtb (i := 355) (by rfl) rfl
set_option maxRecDepth 100000 in
theorem jcd_X6_begin : Cond.code yX6_begin cX6_begin 1 none ∈ jTb := jtb (i := 371) (by rfl) rfl
set_option maxRecDepth 100000 in
theorem jcd_X6_next : Cond.code yX6_next cX6_next 1 none ∈ jTb := jtb (i := 375) (by rfl) rfl
set_option maxRecDepth 100000 in
theorem jcd_X6_isNumber : Cond.code yX6_isNumber cX6_isNumber 3 (some FieldType.boolean) ∈ jTb := jtb (i := 408) (by rfl) rfl
set_option maxRecDepth 100000 in
theorem jcd_X6_isLabel : Cond.code yX6_isLabel cX6_isLabel 1 (some FieldType.boolean) ∈ jTb := jtb (i := 416) (by rfl) rfl
set_option maxRecDepth 100000 in
theorem jcd_X6_readWord : Cond.code yX6_readWord cX6_readWord 1 none ∈ jTb := jtb (i := 382) (by rfl) rfl
set_option maxRecDepth 100000 in
theorem jcd_X6_readNumber : Cond.code yX6_readNumber cX6_readNumber 2 none ∈ jTb := jtb (i := 389) (by rfl) rfl
set_option maxRecDepth 100000 in
theorem jcd_X6_isLetter : Cond.code yX6_isLetter cX6_isLetter 1 (some FieldType.boolean) ∈ jTb := jtb (i := 378) (by rfl) rfl
set_option maxRecDepth 100000 in
theorem jcd_X6_isDigit : Cond.code yX6_isDigit cX6_isDigit 1 (some FieldType.boolean) ∈ jTb := jtb (i := 385) (by rfl) rfl
set_option maxRecDepth 100000 in
theorem jcd_X7_type : Cond.code yX7_type cX7_type 2 (some FieldType.int) ∈ jTb := jtb (i := 351) (by rfl) rfl
set_option maxRecDepth 100000 in
theorem jcd_X7_clear : Cond.code yX7_clear cX7_clear 2 (some FieldType.int) ∈ jTb := jtb (i := 359) (by rfl) rfl
set_option maxRecDepth 100000 in
theorem jcd_X7_source : Cond.code yX7_source cX7_source 2 (some FieldType.int) ∈ jTb := jtb (i := 363) (by rfl) rfl
set_option maxRecDepth 100000 in
theorem jcd_X7_item : Cond.code yX7_item cX7_item 3 (some FieldType.int) ∈ jTb := jtb (i := 459) (by rfl) rfl
set_option maxRecDepth 100000 in
theorem jcd_X7_sizes : Cond.code yX7_sizes cX7_sizes 4 (some FieldType.int) ∈ jTb := jtb (i := 477) (by rfl) rfl
set_option maxRecDepth 100000 in
theorem jcd_X7_pins : Cond.code yX7_pins cX7_pins 4 (some FieldType.int) ∈ jTb := jtb (i := 491) (by rfl) rfl
set_option maxRecDepth 100000 in
theorem jcd_X7_places : Cond.code yX7_places cX7_places 3 (some FieldType.int) ∈ jTb := jtb (i := 495) (by rfl) rfl
set_option maxRecDepth 100000 in
theorem jcd_X7_takes : Cond.code yX7_takes cX7_takes 3 (some FieldType.int) ∈ jTb := jtb (i := 516) (by rfl) rfl
set_option maxRecDepth 100000 in
theorem jcd_X7_undo : Cond.code yX7_undo cX7_undo 1 (some FieldType.int) ∈ jTb := jtb (i := 520) (by rfl) rfl
set_option maxRecDepth 100000 in
theorem jcd_X7_way : Cond.code yX7_way cX7_way 4 (some FieldType.int) ∈ jTb := jtb (i := 528) (by rfl) rfl
set_option maxRecDepth 100000 in
theorem jcd_X7_lies : Cond.code yX7_lies cX7_lies 5 (some FieldType.int) ∈ jTb := jtb (i := 617) (by rfl) rfl
set_option maxRecDepth 100000 in
theorem jcd_X7_code : Cond.code yX7_code cX7_code 5 (some FieldType.int) ∈ jTb := jtb (i := 624) (by rfl) rfl
set_option maxRecDepth 100000 in
theorem jcd_X7_origin : Cond.code yX7_origin cX7_origin 3 (some FieldType.int) ∈ jTb := jtb (i := 633) (by rfl) rfl
set_option maxRecDepth 100000 in
theorem jcd_X7_narrow : Cond.code yX7_narrow cX7_narrow 1 (some FieldType.int) ∈ jTb := jtb (i := 637) (by rfl) rfl
set_option maxRecDepth 100000 in
theorem jcd_X7_fewest : Cond.code yX7_fewest cX7_fewest 2 (some FieldType.int) ∈ jTb := jtb (i := 650) (by rfl) rfl
set_option maxRecDepth 100000 in
theorem jcd_X7_odds : Cond.code yX7_odds cX7_odds 7 (some FieldType.int) ∈ jTb := jtb (i := 672) (by rfl) rfl
set_option maxRecDepth 100000 in
theorem jcd_X7_keep : Cond.code yX7_keep cX7_keep 2 (some FieldType.int) ∈ jTb := jtb (i := 697) (by rfl) rfl
set_option maxRecDepth 100000 in
theorem jcd_X7_back : Cond.code yX7_back cX7_back 2 (some FieldType.int) ∈ jTb := jtb (i := 714) (by rfl) rfl
set_option maxRecDepth 100000 in
theorem jcd_X7_count : Cond.code yX7_count cX7_count 2 (some FieldType.int) ∈ jTb := jtb (i := 718) (by rfl) rfl
set_option maxRecDepth 100000 in
theorem jcd_X7_valueNow : Cond.code yX7_valueNow cX7_valueNow 3 (some FieldType.int) ∈ jTb := jtb (i := 464) (by rfl) rfl
set_option maxRecDepth 100000 in
theorem jcd_X7_mayHoldIsland : Cond.code yX7_mayHoldIsland cX7_mayHoldIsland 3 (some FieldType.boolean) ∈ jTb := jtb (i := 499) (by rfl) rfl
set_option maxRecDepth 100000 in
theorem jcd_X7_turnIsland : Cond.code yX7_turnIsland cX7_turnIsland 4 (some FieldType.int) ∈ jTb := jtb (i := 512) (by rfl) rfl
set_option maxRecDepth 100000 in
theorem jcd_X7_isWay : Cond.code yX7_isWay cX7_isWay 1 (some FieldType.boolean) ∈ jTb := jtb (i := 531) (by rfl) rfl
set_option maxRecDepth 100000 in
theorem jcd_X7_layoutOf : Cond.code yX7_layoutOf cX7_layoutOf 3 (some (FieldType.object "JumpLengths$Layout")) ∈ jTb := jtb (i := 535) (by rfl) rfl
set_option maxRecDepth 100000 in
theorem jcd_X7_imageOf : Cond.code yX7_imageOf cX7_imageOf 2 (some (FieldType.object "JumpLengths$Image")) ∈ jTb := jtb (i := 701) (by rfl) rfl
set_option maxRecDepth 100000 in
theorem jcd_X7_commonDivisor : Cond.code yX7_commonDivisor cX7_commonDivisor 4 (some FieldType.int) ∈ jTb := jtb (i := 693) (by rfl) rfl
set_option maxRecDepth 100000 in
theorem jcd_X8_in : Cond.code yX8_in cX8_in 6 (some FieldType.boolean) ∈ jTb := jtb (i := 833) (by rfl) rfl
set_option maxRecDepth 100000 in
theorem jcd_X8_type : Cond.code yX8_type cX8_type 2 (some FieldType.int) ∈ jTb := jtb (i := 829) (by rfl) rfl
set_option maxRecDepth 100000 in
theorem jcd_X8_clear : Cond.code yX8_clear cX8_clear 2 (some FieldType.int) ∈ jTb := jtb (i := 837) (by rfl) rfl
set_option maxRecDepth 100000 in
theorem jcd_X8_byteAt : Cond.code yX8_byteAt cX8_byteAt 2 (some FieldType.int) ∈ jTb := jtb (i := 849) (by rfl) rfl
set_option maxRecDepth 100000 in
theorem jcd_X8_next : Cond.code yX8_next cX8_next 2 none ∈ jTb := jtb (i := 845) (by rfl) rfl
set_option maxRecDepth 100000 in
theorem jcd_X8_sortBy : Cond.code yX8_sortBy cX8_sortBy 1 (some FieldType.int) ∈ jTb := jtb (i := 860) (by rfl) rfl
set_option maxRecDepth 100000 in
theorem jcd_X8_tellOf : Cond.code yX8_tellOf cX8_tellOf 4 (some FieldType.int) ∈ jTb := jtb (i := 864) (by rfl) rfl
set_option maxRecDepth 100000 in
theorem jcd_X8_isLabelTold : Cond.code yX8_isLabelTold cX8_isLabelTold 3 (some FieldType.boolean) ∈ jTb := jtb (i := 876) (by rfl) rfl
set_option maxRecDepth 100000 in
theorem jcd_X8_isRight : Cond.code yX8_isRight cX8_isRight 2 (some FieldType.boolean) ∈ jTb := jtb (i := 868) (by rfl) rfl
set_option maxRecDepth 100000 in
theorem jcd_X8_readOne : Cond.code yX8_readOne cX8_readOne 5 (some FieldType.boolean) ∈ jTb := jtb (i := 857) (by rfl) rfl
set_option maxRecDepth 100000 in
theorem jcd_X8_areLabelsThere : Cond.code yX8_areLabelsThere cX8_areLabelsThere 2 (some FieldType.boolean) ∈ jTb := jtb (i := 880) (by rfl) rfl
set_option maxRecDepth 100000 in
theorem jcd_X8_source : Cond.code yX8_source cX8_source 2 (some FieldType.int) ∈ jTb := jtb (i := 841) (by rfl) rfl
set_option maxRecDepth 100000 in
theorem jcd_X8_lay : Cond.code yX8_lay cX8_lay 2 none ∈ jTb := jtb (i := 884) (by rfl) rfl
set_option maxRecDepth 100000 in
theorem jcd_X8_isItem : Cond.code yX8_isItem cX8_isItem 2 (some FieldType.boolean) ∈ jTb := jtb (i := 892) (by rfl) rfl
set_option maxRecDepth 100000 in
theorem jcd_X8_numberOf : Cond.code yX8_numberOf cX8_numberOf 4 (some FieldType.int) ∈ jTb := jtb (i := 896) (by rfl) rfl
set_option maxRecDepth 100000 in
theorem jcd_X8_bits : Cond.code yX8_bits cX8_bits 3 (some FieldType.int) ∈ jTb := jtb (i := 899) (by rfl) rfl
set_option maxRecDepth 100000 in
theorem jcd_X8_has : Cond.code yX8_has cX8_has 2 (some FieldType.boolean) ∈ jTb := jtb (i := 923) (by rfl) rfl
set_option maxRecDepth 100000 in
theorem jcd_X8_item : Cond.code yX8_item cX8_item 3 (some FieldType.int) ∈ jTb := jtb (i := 888) (by rfl) rfl
set_option maxRecDepth 100000 in
theorem jcd_X8_keepAct : Cond.code yX8_keepAct cX8_keepAct 2 none ∈ jTb := jtb (i := 907) (by rfl) rfl
set_option maxRecDepth 100000 in
theorem jcd_X8_sizes : Cond.code yX8_sizes cX8_sizes 4 (some FieldType.int) ∈ jTb := jtb (i := 903) (by rfl) rfl
set_option maxRecDepth 100000 in
theorem jcd_X8_pins : Cond.code yX8_pins cX8_pins 3 (some FieldType.int) ∈ jTb := jtb (i := 911) (by rfl) rfl
set_option maxRecDepth 100000 in
theorem jcd_X8_isles : Cond.code yX8_isles cX8_isles 1 (some FieldType.int) ∈ jTb := jtb (i := 927) (by rfl) rfl
set_option maxRecDepth 100000 in
theorem jcd_X8_isIsle : Cond.code yX8_isIsle cX8_isIsle 3 (some FieldType.boolean) ∈ jTb := jtb (i := 919) (by rfl) rfl
set_option maxRecDepth 100000 in
theorem jcd_X8_places : Cond.code yX8_places cX8_places 3 (some FieldType.int) ∈ jTb := jtb (i := 915) (by rfl) rfl
set_option maxRecDepth 100000 in
theorem jcd_X8_takes : Cond.code yX8_takes cX8_takes 3 (some FieldType.int) ∈ jTb := jtb (i := 931) (by rfl) rfl
set_option maxRecDepth 100000 in
theorem jcd_X8_undo : Cond.code yX8_undo cX8_undo 2 (some FieldType.int) ∈ jTb := jtb (i := 935) (by rfl) rfl
set_option maxRecDepth 100000 in
theorem jcd_X8_layOut : Cond.code yX8_layOut cX8_layOut 6 none ∈ jTb := jtb (i := 955) (by rfl) rfl
set_option maxRecDepth 100000 in
theorem jcd_X8_farOf : Cond.code yX8_farOf cX8_farOf 2 (some FieldType.int) ∈ jTb := jtb (i := 963) (by rfl) rfl
set_option maxRecDepth 100000 in
theorem jcd_X8_isNear : Cond.code yX8_isNear cX8_isNear 2 (some FieldType.boolean) ∈ jTb := jtb (i := 967) (by rfl) rfl
set_option maxRecDepth 100000 in
theorem jcd_X8_shortOnes : Cond.code yX8_shortOnes cX8_shortOnes 3 (some FieldType.int) ∈ jTb := jtb (i := 959) (by rfl) rfl
set_option maxRecDepth 100000 in
theorem jcd_X8_grow : Cond.code yX8_grow cX8_grow 2 none ∈ jTb := jtb (i := 951) (by rfl) rfl
set_option maxRecDepth 100000 in
theorem jcd_X8_shrink : Cond.code yX8_shrink cX8_shrink 6 none ∈ jTb := jtb (i := 971) (by rfl) rfl
set_option maxRecDepth 100000 in
theorem jcd_X8_leastOf : Cond.code yX8_leastOf cX8_leastOf 6 none ∈ jTb := jtb (i := 975) (by rfl) rfl
set_option maxRecDepth 100000 in
theorem jcd_X8_layWay : Cond.code yX8_layWay cX8_layWay 2 none ∈ jTb := jtb (i := 947) (by rfl) rfl
set_option maxRecDepth 100000 in
theorem jcd_X8_isleAt : Cond.code yX8_isleAt cX8_isleAt 3 (some FieldType.int) ∈ jTb := jtb (i := 987) (by rfl) rfl
set_option maxRecDepth 100000 in
theorem jcd_X8_isleFar : Cond.code yX8_isleFar cX8_isleFar 4 (some FieldType.int) ∈ jTb := jtb (i := 983) (by rfl) rfl
set_option maxRecDepth 100000 in
theorem jcd_X8_served : Cond.code yX8_served cX8_served 3 (some FieldType.int) ∈ jTb := jtb (i := 979) (by rfl) rfl
set_option maxRecDepth 100000 in
theorem jcd_X8_itemAt : Cond.code yX8_itemAt cX8_itemAt 3 (some FieldType.int) ∈ jTb := jtb (i := 996) (by rfl) rfl
set_option maxRecDepth 100000 in
theorem jcd_X8_part : Cond.code yX8_part cX8_part 2 (some FieldType.int) ∈ jTb := jtb (i := 999) (by rfl) rfl
set_option maxRecDepth 100000 in
theorem jcd_X8_isleByte : Cond.code yX8_isleByte cX8_isleByte 7 (some FieldType.int) ∈ jTb := jtb (i := 1003) (by rfl) rfl
set_option maxRecDepth 100000 in
theorem jcd_X8_byteOf : Cond.code yX8_byteOf cX8_byteOf 4 (some FieldType.int) ∈ jTb := jtb (i := 992) (by rfl) rfl
set_option maxRecDepth 100000 in
theorem jcd_X8_isWay : Cond.code yX8_isWay cX8_isWay 1 (some FieldType.boolean) ∈ jTb := jtb (i := 942) (by rfl) rfl
set_option maxRecDepth 100000 in
theorem jcd_X8_way : Cond.code yX8_way cX8_way 6 (some FieldType.int) ∈ jTb := jtb (i := 939) (by rfl) rfl
set_option maxRecDepth 100000 in
theorem jcd_X8_lies : Cond.code yX8_lies cX8_lies 4 (some FieldType.int) ∈ jTb := jtb (i := 1007) (by rfl) rfl
set_option maxRecDepth 100000 in
theorem jcd_X8_code : Cond.code yX8_code cX8_code 3 (some FieldType.int) ∈ jTb := jtb (i := 1011) (by rfl) rfl
set_option maxRecDepth 100000 in
theorem jcd_X8_origin : Cond.code yX8_origin cX8_origin 3 (some FieldType.int) ∈ jTb := jtb (i := 1015) (by rfl) rfl
set_option maxRecDepth 100000 in
theorem jcd_X8_narrow : Cond.code yX8_narrow cX8_narrow 4 (some FieldType.int) ∈ jTb := jtb (i := 1019) (by rfl) rfl
set_option maxRecDepth 100000 in
theorem jcd_X8_doServe : Cond.code yX8_doServe cX8_doServe 3 (some FieldType.boolean) ∈ jTb := jtb (i := 1031) (by rfl) rfl
set_option maxRecDepth 100000 in
theorem jcd_X8_mayBe : Cond.code yX8_mayBe cX8_mayBe 2 (some FieldType.boolean) ∈ jTb := jtb (i := 1035) (by rfl) rfl
set_option maxRecDepth 100000 in
theorem jcd_X8_serving : Cond.code yX8_serving cX8_serving 7 (some FieldType.int) ∈ jTb := jtb (i := 1027) (by rfl) rfl
set_option maxRecDepth 100000 in
theorem jcd_X8_fewest : Cond.code yX8_fewest cX8_fewest 4 (some FieldType.int) ∈ jTb := jtb (i := 1023) (by rfl) rfl
set_option maxRecDepth 100000 in
theorem jcd_X8_growOps : Cond.code yX8_growOps cX8_growOps 5 none ∈ jTb := jtb (i := 1044) (by rfl) rfl
set_option maxRecDepth 100000 in
theorem jcd_X8_odds : Cond.code yX8_odds cX8_odds 11 (some FieldType.int) ∈ jTb := jtb (i := 1039) (by rfl) rfl
set_option maxRecDepth 100000 in
theorem jcd_X8_keep : Cond.code yX8_keep cX8_keep 3 (some FieldType.int) ∈ jTb := jtb (i := 1048) (by rfl) rfl
set_option maxRecDepth 100000 in
theorem jcd_X8_back : Cond.code yX8_back cX8_back 3 (some FieldType.int) ∈ jTb := jtb (i := 1052) (by rfl) rfl
set_option maxRecDepth 100000 in
theorem jcd_X8_count : Cond.code yX8_count cX8_count 2 (some FieldType.int) ∈ jTb := jtb (i := 1056) (by rfl) rfl
set_option maxRecDepth 100000 in
theorem jcd_J6_bitCount_0f7a4 : Cond.code yJ6_bitCount_0f7a4 cJ6_bitCount_0f7a4 1 (some FieldType.int) ∈ jTb := jtb (i := 423) (by rfl) rfl
theorem jcd_all : ∀ q ∈ jTab, Cond.code q.1 q.2.1 q.2.2.1 q.2.2.2.1 ∈ jTb := List.forall_mem_cons.mpr ⟨jcd_X0_becomeAs, List.forall_mem_cons.mpr ⟨jcd_X1_size, List.forall_mem_cons.mpr ⟨jcd_X1_growFrom, List.forall_mem_cons.mpr ⟨jcd_X1_shrink, List.forall_mem_cons.mpr ⟨jcd_X1_tryAll, List.forall_mem_cons.mpr ⟨jcd_X1_isLong, List.forall_mem_cons.mpr ⟨jcd_X1_farOf, List.forall_mem_cons.mpr ⟨jcd_X1_servedCalls, List.forall_mem_cons.mpr ⟨jcd_X1_servesAll, List.forall_mem_cons.mpr ⟨jcd_X1_sumOfBytes, List.forall_mem_cons.mpr ⟨jcd_X1_itemOfByte, List.forall_mem_cons.mpr ⟨jcd_X1_byteOf, List.forall_mem_cons.mpr ⟨jcd_X1_byteOfNumber, List.forall_mem_cons.mpr ⟨jcd_X1_lay, List.forall_mem_cons.mpr ⟨jcd_X1_bytesOf, List.forall_mem_cons.mpr ⟨jcd_X1_strandedJumps, List.forall_mem_cons.mpr ⟨jcd_X1_wouldReach, List.forall_mem_cons.mpr ⟨jcd_X1_farServed, List.forall_mem_cons.mpr ⟨jcd_X1_farOfIsland, List.forall_mem_cons.mpr ⟨jcd_X2_becomeAs, List.forall_mem_cons.mpr ⟨jcd_X2_remember, List.forall_mem_cons.mpr ⟨jcd_X2_takeBack, List.forall_mem_cons.mpr ⟨jcd_X2_loseOldest, List.forall_mem_cons.mpr ⟨jcd_X3_hasItem, List.forall_mem_cons.mpr ⟨jcd_X3_isOf, List.forall_mem_cons.mpr ⟨jcd_X3_goesToLabel, List.forall_mem_cons.mpr ⟨jcd_X3_hasLabel, List.forall_mem_cons.mpr ⟨jcd_X3_allJumps, List.forall_mem_cons.mpr ⟨jcd_X3_becomeAs, List.forall_mem_cons.mpr ⟨jcd_X3_readFrom, List.forall_mem_cons.mpr ⟨jcd_X3_empty, List.forall_mem_cons.mpr ⟨jcd_X3_readTold, List.forall_mem_cons.mpr ⟨jcd_X3_sortOf, List.forall_mem_cons.mpr ⟨jcd_X3_hasRoomFor, List.forall_mem_cons.mpr ⟨jcd_X3_mayBeOf, List.forall_mem_cons.mpr ⟨jcd_X3_add, List.forall_mem_cons.mpr ⟨jcd_X3_numberOf, List.forall_mem_cons.mpr ⟨jcd_X3_findTargets, List.forall_mem_cons.mpr ⟨jcd_X4_leastReach, List.forall_mem_cons.mpr ⟨jcd_X4_fewestIslands, List.forall_mem_cons.mpr ⟨jcd_X4_allOdds, List.forall_mem_cons.mpr ⟨jcd_X4_oddsOfLong, List.forall_mem_cons.mpr ⟨jcd_X4_leastWith, List.forall_mem_cons.mpr ⟨jcd_X4_servesAllBy, List.forall_mem_cons.mpr ⟨jcd_X4_findFirstOps, List.forall_mem_cons.mpr ⟨jcd_X4_power, List.forall_mem_cons.mpr ⟨jcd_X5_startAs, List.forall_mem_cons.mpr ⟨jcd_X5_becomeAs, List.forall_mem_cons.mpr ⟨jcd_X5_reaches, List.forall_mem_cons.mpr ⟨jcd_X5_islandCount, List.forall_mem_cons.mpr ⟨jcd_X5_islandsIn, List.forall_mem_cons.mpr ⟨jcd_X5_labelsIn, List.forall_mem_cons.mpr ⟨jcd_X5_hasIsland, List.forall_mem_cons.mpr ⟨jcd_X6_take, List.forall_mem_cons.mpr ⟨jcd_X6_begin, List.forall_mem_cons.mpr ⟨jcd_X6_next, List.forall_mem_cons.mpr ⟨jcd_X6_isNumber, List.forall_mem_cons.mpr ⟨jcd_X6_isLabel, List.forall_mem_cons.mpr ⟨jcd_X6_readWord, List.forall_mem_cons.mpr ⟨jcd_X6_readNumber, List.forall_mem_cons.mpr ⟨jcd_X6_isLetter, List.forall_mem_cons.mpr ⟨jcd_X6_isDigit, List.forall_mem_cons.mpr ⟨jcd_X7_type, List.forall_mem_cons.mpr ⟨jcd_X7_clear, List.forall_mem_cons.mpr ⟨jcd_X7_source, List.forall_mem_cons.mpr ⟨jcd_X7_item, List.forall_mem_cons.mpr ⟨jcd_X7_sizes, List.forall_mem_cons.mpr ⟨jcd_X7_pins, List.forall_mem_cons.mpr ⟨jcd_X7_places, List.forall_mem_cons.mpr ⟨jcd_X7_takes, List.forall_mem_cons.mpr ⟨jcd_X7_undo, List.forall_mem_cons.mpr ⟨jcd_X7_way, List.forall_mem_cons.mpr ⟨jcd_X7_lies, List.forall_mem_cons.mpr ⟨jcd_X7_code, List.forall_mem_cons.mpr ⟨jcd_X7_origin, List.forall_mem_cons.mpr ⟨jcd_X7_narrow, List.forall_mem_cons.mpr ⟨jcd_X7_fewest, List.forall_mem_cons.mpr ⟨jcd_X7_odds, List.forall_mem_cons.mpr ⟨jcd_X7_keep, List.forall_mem_cons.mpr ⟨jcd_X7_back, List.forall_mem_cons.mpr ⟨jcd_X7_count, List.forall_mem_cons.mpr ⟨jcd_X7_valueNow, List.forall_mem_cons.mpr ⟨jcd_X7_mayHoldIsland, List.forall_mem_cons.mpr ⟨jcd_X7_turnIsland, List.forall_mem_cons.mpr ⟨jcd_X7_isWay, List.forall_mem_cons.mpr ⟨jcd_X7_layoutOf, List.forall_mem_cons.mpr ⟨jcd_X7_imageOf, List.forall_mem_cons.mpr ⟨jcd_X7_commonDivisor, List.forall_mem_cons.mpr ⟨jcd_X8_in, List.forall_mem_cons.mpr ⟨jcd_X8_type, List.forall_mem_cons.mpr ⟨jcd_X8_clear, List.forall_mem_cons.mpr ⟨jcd_X8_byteAt, List.forall_mem_cons.mpr ⟨jcd_X8_next, List.forall_mem_cons.mpr ⟨jcd_X8_sortBy, List.forall_mem_cons.mpr ⟨jcd_X8_tellOf, List.forall_mem_cons.mpr ⟨jcd_X8_isLabelTold, List.forall_mem_cons.mpr ⟨jcd_X8_isRight, List.forall_mem_cons.mpr ⟨jcd_X8_readOne, List.forall_mem_cons.mpr ⟨jcd_X8_areLabelsThere, List.forall_mem_cons.mpr ⟨jcd_X8_source, List.forall_mem_cons.mpr ⟨jcd_X8_lay, List.forall_mem_cons.mpr ⟨jcd_X8_isItem, List.forall_mem_cons.mpr ⟨jcd_X8_numberOf, List.forall_mem_cons.mpr ⟨jcd_X8_bits, List.forall_mem_cons.mpr ⟨jcd_X8_has, List.forall_mem_cons.mpr ⟨jcd_X8_item, List.forall_mem_cons.mpr ⟨jcd_X8_keepAct, List.forall_mem_cons.mpr ⟨jcd_X8_sizes, List.forall_mem_cons.mpr ⟨jcd_X8_pins, List.forall_mem_cons.mpr ⟨jcd_X8_isles, List.forall_mem_cons.mpr ⟨jcd_X8_isIsle, List.forall_mem_cons.mpr ⟨jcd_X8_places, List.forall_mem_cons.mpr ⟨jcd_X8_takes, List.forall_mem_cons.mpr ⟨jcd_X8_undo, List.forall_mem_cons.mpr ⟨jcd_X8_layOut, List.forall_mem_cons.mpr ⟨jcd_X8_farOf, List.forall_mem_cons.mpr ⟨jcd_X8_isNear, List.forall_mem_cons.mpr ⟨jcd_X8_shortOnes, List.forall_mem_cons.mpr ⟨jcd_X8_grow, List.forall_mem_cons.mpr ⟨jcd_X8_shrink, List.forall_mem_cons.mpr ⟨jcd_X8_leastOf, List.forall_mem_cons.mpr ⟨jcd_X8_layWay, List.forall_mem_cons.mpr ⟨jcd_X8_isleAt, List.forall_mem_cons.mpr ⟨jcd_X8_isleFar, List.forall_mem_cons.mpr ⟨jcd_X8_served, List.forall_mem_cons.mpr ⟨jcd_X8_itemAt, List.forall_mem_cons.mpr ⟨jcd_X8_part, List.forall_mem_cons.mpr ⟨jcd_X8_isleByte, List.forall_mem_cons.mpr ⟨jcd_X8_byteOf, List.forall_mem_cons.mpr ⟨jcd_X8_isWay, List.forall_mem_cons.mpr ⟨jcd_X8_way, List.forall_mem_cons.mpr ⟨jcd_X8_lies, List.forall_mem_cons.mpr ⟨jcd_X8_code, List.forall_mem_cons.mpr ⟨jcd_X8_origin, List.forall_mem_cons.mpr ⟨jcd_X8_narrow, List.forall_mem_cons.mpr ⟨jcd_X8_doServe, List.forall_mem_cons.mpr ⟨jcd_X8_mayBe, List.forall_mem_cons.mpr ⟨jcd_X8_serving, List.forall_mem_cons.mpr ⟨jcd_X8_fewest, List.forall_mem_cons.mpr ⟨jcd_X8_growOps, List.forall_mem_cons.mpr ⟨jcd_X8_odds, List.forall_mem_cons.mpr ⟨jcd_X8_keep, List.forall_mem_cons.mpr ⟨jcd_X8_back, List.forall_mem_cons.mpr ⟨jcd_X8_count, List.forall_mem_cons.mpr ⟨jcd_J6_bitCount_0f7a4, fun _ h => absurd h List.not_mem_nil⟩⟩⟩⟩⟩⟩⟩⟩⟩⟩⟩⟩⟩⟩⟩⟩⟩⟩⟩⟩⟩⟩⟩⟩⟩⟩⟩⟩⟩⟩⟩⟩⟩⟩⟩⟩⟩⟩⟩⟩⟩⟩⟩⟩⟩⟩⟩⟩⟩⟩⟩⟩⟩⟩⟩⟩⟩⟩⟩⟩⟩⟩⟩⟩⟩⟩⟩⟩⟩⟩⟩⟩⟩⟩⟩⟩⟩⟩⟩⟩⟩⟩⟩⟩⟩⟩⟩⟩⟩⟩⟩⟩⟩⟩⟩⟩⟩⟩⟩⟩⟩⟩⟩⟩⟩⟩⟩⟩⟩⟩⟩⟩⟩⟩⟩⟩⟩⟩⟩⟩⟩⟩⟩⟩⟩⟩⟩⟩⟩⟩⟩⟩⟩⟩⟩⟩⟩⟩⟩⟩⟩⟩⟩⟩⟩
theorem jcd (f : Nat) (h : f < jTab.length) : Cond.code (jM f).1 (jM f).2.1 (jM f).2.2.1 (jM f).2.2.2.1 ∈ jTb := by
  refine jcd_all (jM f) ?_
  unfold jM
  rw [List.getD_eq_getElem?_getD, List.getElem?_eq_getElem h]
  exact List.getElem_mem h
theorem jIn {ws : List Cond} (ps : List Nat) (hp : ws = ps.filterMap (fun i => lw_tbl[i]?)) (hg : ws.all goodWord = true) : ∀ w ∈ ws, w ∈ jTb := by
  intro w hw
  have g := List.all_eq_true.mp hg w hw
  rw [hp] at hw
  obtain ⟨i, -, hi⟩ := List.mem_filterMap.mp hw
  exact jtb hi g
theorem jcw_0 : ∀ w ∈ u_ws RX0 TX0 3, w ∈ jTb := jIn [248, 250, 252] (by decide +kernel) (by decide +kernel)
theorem jcw_1 : ∀ w ∈ u_ws RX1 TX1 4, w ∈ jTb := jIn [269, 271, 273, 275] (by decide +kernel) (by decide +kernel)
theorem jcw_2 : ∀ w ∈ u_ws RX2 TX2 4, w ∈ jTb := jIn [233, 235, 237, 239] (by decide +kernel) (by decide +kernel)
theorem jcw_3 : ∀ w ∈ u_ws RX3 TX3 14, w ∈ jTb := jIn [156, 158, 160, 162, 164, 166, 168, 170, 172, 174, 176, 178, 180, 182] (by decide +kernel) (by decide +kernel)
theorem jcw_4 : ∀ w ∈ u_ws RX4 TX4 5, w ∈ jTb := jIn [293, 295, 297, 299, 301] (by decide +kernel) (by decide +kernel)
theorem jcw_5 : ∀ w ∈ u_ws RX5 TX5 4, w ∈ jTb := jIn [213, 215, 217, 219] (by decide +kernel) (by decide +kernel)
theorem jcw_6 : ∀ w ∈ u_ws RX6 TX6 6, w ∈ jTb := jIn [91, 93, 95, 97, 99, 101] (by decide +kernel) (by decide +kernel)
theorem jcw_7 : ∀ w ∈ u_ws RX7 TX7 12, w ∈ jTb := jIn [323, 325, 327, 329, 331, 333, 335, 337, 339, 341, 343, 345] (by decide +kernel) (by decide +kernel)
theorem jcw_8 : ∀ w ∈ u_ws RX8 TX8 33, w ∈ jTb := jIn [758, 760, 762, 764, 766, 768, 770, 772, 774, 776, 778, 780, 782, 784, 786, 788, 790, 792, 794, 796, 798, 800, 802, 804, 806, 808, 810, 812, 814, 816, 818, 820, 822] (by decide +kernel) (by decide +kernel)
def jTy : List (Nat → FieldType) := [tyX0, tyX1, tyX2, tyX3, tyX4, tyX5, tyX6, tyX7, tyX8]
def jClsOk (q : vw_C) (ty : Nat → FieldType) : Prop := (∀ w ∈ u_ws q.1 q.2.1 q.2.2, w ∈ jTb) ∧ (∀ a, a < q.2.2 → ∀ b, b < q.2.2 → a ≠ b → (q.2.1 a).2.1 ≠ (q.2.1 b).2.1) ∧ (∀ k, k < q.2.2 → parseFieldDescriptor (q.2.1 k).2.2.1 = some (ty k))
theorem jCls_all : ∀ q ∈ vwCl, ∃ ty, jClsOk q ty := List.forall_mem_cons.mpr ⟨⟨tyX0, jcw_0, nmX0, tyX0_ok⟩, List.forall_mem_cons.mpr ⟨⟨tyX1, jcw_1, nmX1, tyX1_ok⟩, List.forall_mem_cons.mpr ⟨⟨tyX2, jcw_2, nmX2, tyX2_ok⟩, List.forall_mem_cons.mpr ⟨⟨tyX3, jcw_3, nmX3, tyX3_ok⟩, List.forall_mem_cons.mpr ⟨⟨tyX4, jcw_4, nmX4, tyX4_ok⟩, List.forall_mem_cons.mpr ⟨⟨tyX5, jcw_5, nmX5, tyX5_ok⟩, List.forall_mem_cons.mpr ⟨⟨tyX6, jcw_6, nmX6, tyX6_ok⟩, List.forall_mem_cons.mpr ⟨⟨tyX7, jcw_7, nmX7, tyX7_ok⟩, List.forall_mem_cons.mpr ⟨⟨tyX8, jcw_8, nmX8, tyX8_ok⟩, fun _ h => absurd h List.not_mem_nil⟩⟩⟩⟩⟩⟩⟩⟩⟩
theorem jw_min : Cond.static Lib.Math.min.name ∈ jTb ∧ Cond.initialized "java/lang/Math" ∈ jTb := ⟨jtb (i := 391) (by decide +kernel) rfl, jtb (i := 64) (by decide +kernel) rfl⟩
set_option maxRecDepth 100000 in
theorem jw_minc : Cond.code Lib.Math.min.name Lib.Math.min.code 2 (some .int) ∈ jTb := jtb (i := 392) (by decide +kernel) rfl
theorem jw_cpy : Cond.native arraycopyName ∈ jTb ∧ Cond.static arraycopyName ∈ jTb ∧ Cond.initialized "java/lang/System" ∈ jTb := ⟨jtb (i := 310) (by decide +kernel) rfl, jtb (i := 309) (by decide +kernel) rfl, jtb (i := 62) (by decide +kernel) rfl⟩
