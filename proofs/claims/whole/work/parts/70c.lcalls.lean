/-! the law: its nineteen calls (printed by gen70.py) -/
set_option maxRecDepth 100000 in
theorem lk_348 : (.methodLink R_law 13 (jM q_X7_type).1 : Cond) ∈ jTb := jtb (i := 348) (by decide +kernel) rfl
set_option maxRecDepth 100000 in
theorem lk_826 : (.methodLink R_law 17 (jM q_X8_type).1 : Cond) ∈ jTb := jtb (i := 826) (by decide +kernel) rfl
set_option maxRecDepth 100000 in
theorem lk_356 : (.methodLink R_law 18 (jM q_X7_clear).1 : Cond) ∈ jTb := jtb (i := 356) (by decide +kernel) rfl
set_option maxRecDepth 100000 in
theorem lk_834 : (.methodLink R_law 22 (jM q_X8_clear).1 : Cond) ∈ jTb := jtb (i := 834) (by decide +kernel) rfl
set_option maxRecDepth 100000 in
theorem lk_360 : (.methodLink R_law 23 (jM q_X7_source).1 : Cond) ∈ jTb := jtb (i := 360) (by decide +kernel) rfl
set_option maxRecDepth 100000 in
theorem lk_838 : (.methodLink R_law 26 (jM q_X8_source).1 : Cond) ∈ jTb := jtb (i := 838) (by decide +kernel) rfl
set_option maxRecDepth 100000 in
theorem lk_456 : (.methodLink R_law 27 (jM q_X7_item).1 : Cond) ∈ jTb := jtb (i := 456) (by decide +kernel) rfl
set_option maxRecDepth 100000 in
theorem lk_885 : (.methodLink R_law 31 (jM q_X8_item).1 : Cond) ∈ jTb := jtb (i := 885) (by decide +kernel) rfl
set_option maxRecDepth 100000 in
theorem lk_474 : (.methodLink R_law 32 (jM q_X7_sizes).1 : Cond) ∈ jTb := jtb (i := 474) (by decide +kernel) rfl
set_option maxRecDepth 100000 in
theorem lk_900 : (.methodLink R_law 35 (jM q_X8_sizes).1 : Cond) ∈ jTb := jtb (i := 900) (by decide +kernel) rfl
set_option maxRecDepth 100000 in
theorem lk_488 : (.methodLink R_law 36 (jM q_X7_pins).1 : Cond) ∈ jTb := jtb (i := 488) (by decide +kernel) rfl
set_option maxRecDepth 100000 in
theorem lk_908 : (.methodLink R_law 39 (jM q_X8_pins).1 : Cond) ∈ jTb := jtb (i := 908) (by decide +kernel) rfl
set_option maxRecDepth 100000 in
theorem lk_492 : (.methodLink R_law 40 (jM q_X7_places).1 : Cond) ∈ jTb := jtb (i := 492) (by decide +kernel) rfl
set_option maxRecDepth 100000 in
theorem lk_912 : (.methodLink R_law 43 (jM q_X8_places).1 : Cond) ∈ jTb := jtb (i := 912) (by decide +kernel) rfl
set_option maxRecDepth 100000 in
theorem lk_513 : (.methodLink R_law 44 (jM q_X7_takes).1 : Cond) ∈ jTb := jtb (i := 513) (by decide +kernel) rfl
set_option maxRecDepth 100000 in
theorem lk_928 : (.methodLink R_law 47 (jM q_X8_takes).1 : Cond) ∈ jTb := jtb (i := 928) (by decide +kernel) rfl
set_option maxRecDepth 100000 in
theorem lk_517 : (.methodLink R_law 48 (jM q_X7_undo).1 : Cond) ∈ jTb := jtb (i := 517) (by decide +kernel) rfl
set_option maxRecDepth 100000 in
theorem lk_932 : (.methodLink R_law 51 (jM q_X8_undo).1 : Cond) ∈ jTb := jtb (i := 932) (by decide +kernel) rfl
set_option maxRecDepth 100000 in
theorem lk_525 : (.methodLink R_law 52 (jM q_X7_way).1 : Cond) ∈ jTb := jtb (i := 525) (by decide +kernel) rfl
set_option maxRecDepth 100000 in
theorem lk_936 : (.methodLink R_law 55 (jM q_X8_way).1 : Cond) ∈ jTb := jtb (i := 936) (by decide +kernel) rfl
set_option maxRecDepth 100000 in
theorem lk_614 : (.methodLink R_law 56 (jM q_X7_lies).1 : Cond) ∈ jTb := jtb (i := 614) (by decide +kernel) rfl
set_option maxRecDepth 100000 in
theorem lk_1004 : (.methodLink R_law 60 (jM q_X8_lies).1 : Cond) ∈ jTb := jtb (i := 1004) (by decide +kernel) rfl
set_option maxRecDepth 100000 in
theorem lk_621 : (.methodLink R_law 61 (jM q_X7_code).1 : Cond) ∈ jTb := jtb (i := 621) (by decide +kernel) rfl
set_option maxRecDepth 100000 in
theorem lk_1008 : (.methodLink R_law 64 (jM q_X8_code).1 : Cond) ∈ jTb := jtb (i := 1008) (by decide +kernel) rfl
set_option maxRecDepth 100000 in
theorem lk_630 : (.methodLink R_law 65 (jM q_X7_origin).1 : Cond) ∈ jTb := jtb (i := 630) (by decide +kernel) rfl
set_option maxRecDepth 100000 in
theorem lk_1012 : (.methodLink R_law 68 (jM q_X8_origin).1 : Cond) ∈ jTb := jtb (i := 1012) (by decide +kernel) rfl
set_option maxRecDepth 100000 in
theorem lk_634 : (.methodLink R_law 69 (jM q_X7_narrow).1 : Cond) ∈ jTb := jtb (i := 634) (by decide +kernel) rfl
set_option maxRecDepth 100000 in
theorem lk_1016 : (.methodLink R_law 72 (jM q_X8_narrow).1 : Cond) ∈ jTb := jtb (i := 1016) (by decide +kernel) rfl
set_option maxRecDepth 100000 in
theorem lk_647 : (.methodLink R_law 73 (jM q_X7_fewest).1 : Cond) ∈ jTb := jtb (i := 647) (by decide +kernel) rfl
set_option maxRecDepth 100000 in
theorem lk_1020 : (.methodLink R_law 76 (jM q_X8_fewest).1 : Cond) ∈ jTb := jtb (i := 1020) (by decide +kernel) rfl
set_option maxRecDepth 100000 in
theorem lk_669 : (.methodLink R_law 77 (jM q_X7_odds).1 : Cond) ∈ jTb := jtb (i := 669) (by decide +kernel) rfl
set_option maxRecDepth 100000 in
theorem lk_1036 : (.methodLink R_law 80 (jM q_X8_odds).1 : Cond) ∈ jTb := jtb (i := 1036) (by decide +kernel) rfl
set_option maxRecDepth 100000 in
theorem lk_694 : (.methodLink R_law 81 (jM q_X7_keep).1 : Cond) ∈ jTb := jtb (i := 694) (by decide +kernel) rfl
set_option maxRecDepth 100000 in
theorem lk_1045 : (.methodLink R_law 84 (jM q_X8_keep).1 : Cond) ∈ jTb := jtb (i := 1045) (by decide +kernel) rfl
set_option maxRecDepth 100000 in
theorem lk_711 : (.methodLink R_law 85 (jM q_X7_back).1 : Cond) ∈ jTb := jtb (i := 711) (by decide +kernel) rfl
set_option maxRecDepth 100000 in
theorem lk_1049 : (.methodLink R_law 88 (jM q_X8_back).1 : Cond) ∈ jTb := jtb (i := 1049) (by decide +kernel) rfl
set_option maxRecDepth 100000 in
theorem lk_715 : (.methodLink R_law 89 (jM q_X7_count).1 : Cond) ∈ jTb := jtb (i := 715) (by decide +kernel) rfl
set_option maxRecDepth 100000 in
theorem lk_1053 : (.methodLink R_law 92 (jM q_X8_count).1 : Cond) ∈ jTb := jtb (i := 1053) (by decide +kernel) rfl
section LC
variable {X : jX} {b L i : Nat} {xs : Nat → Int32} {M : jMem} {s : jSt}
theorem lc_type (hI : jInj X T0) (hW : jInW s) (hC : jInC M s) (hM : jInM M s) (hi : i + 3 < L) (hL : L ≤ 2048) (ih : ∀ N t, jInW t → jInC N t → jInM N t → lR X b L xs N 631 [.ref b, .ref (X.2.2.2 0), .ref (X.2.2.2 54), .int (nI i)] []) : lR X b L xs M 124 [.ref b, .ref (X.2.2.2 0), .ref (X.2.2.2 54), .int (nI i)] [] := by
  obtain ⟨r, t, hW2, c1, c2⟩ := p_type hI hW (xs (i + 1))
  refine lr_aload (k := 1) (a := X.2.2.2 0) dl_124 rfl ?_
  refine lr_arg (k := 1) (by decide) (by decide) hi hL rfl dl_125 dl_126 dl_127 dl_128 dl_129 ?_
  refine lr_call (i := 0) (As := [.int (xs (i + 1))]) (f := q_X7_type) (oc := 7) (st := []) (G := fun N => jInC N t ∧ ∀ c, 54 ≤ c → N c = M c) (c1 M _ hC (fun N h1 h2 => ⟨rfl, h1, h2⟩)) (jTl (by decide)) rfl rfl rfl rfl lk_348 rfl (Nat.le_of_ble_eq_true rfl) dl_130 (fun N hq => ?_)
  obtain ⟨q1, q2⟩ := hq
  refine lr_aload (k := 2) (a := X.2.2.2 54) dl_133 rfl ?_
  refine lr_arg (k := 1) (by decide) (by decide) hi hL rfl dl_134 dl_135 dl_136 dl_137 dl_138 ?_
  refine lr_call (i := 54) (As := [.int (xs (i + 1))]) (f := q_X8_type) (oc := 8) (st := [.int r]) (G := fun N2 => jInM N2 t ∧ ∀ c, c < 54 → N2 c = N c) (c2 N _ (hM.hi q2) (fun N2 h1 h2 => ⟨rfl, h1, h2⟩)) (jTl (by decide)) rfl rfl rfl rfl lk_826 rfl (Nat.le_of_ble_eq_true rfl) dl_139 (fun N2 hq => ?_)
  obtain ⟨q3, q4⟩ := hq
  exact lr_eq (t := 631) dl_142 (by decide) (ih N2 t hW2 (q1.lo q4) q3)
theorem lc_clear (hI : jInj X T0) (hW : jInW s) (hC : jInC M s) (hM : jInM M s) (hi : i + 3 < L) (hL : L ≤ 2048) (ih : ∀ N t, jInW t → jInC N t → jInM N t → lR X b L xs N 631 [.ref b, .ref (X.2.2.2 0), .ref (X.2.2.2 54), .int (nI i)] []) : lR X b L xs M 147 [.ref b, .ref (X.2.2.2 0), .ref (X.2.2.2 54), .int (nI i)] [] := by
  obtain ⟨r, t, hW2, c1, c2⟩ := p_clear hI hW
  refine lr_aload (k := 1) (a := X.2.2.2 0) dl_147 rfl ?_
  refine lr_call (i := 0) (As := []) (f := q_X7_clear) (oc := 7) (st := []) (G := fun N => jInC N t ∧ ∀ c, 54 ≤ c → N c = M c) (c1 M _ hC (fun N h1 h2 => ⟨rfl, h1, h2⟩)) (jTl (by decide)) rfl rfl rfl rfl lk_356 rfl (Nat.le_of_ble_eq_true rfl) dl_148 (fun N hq => ?_)
  obtain ⟨q1, q2⟩ := hq
  refine lr_aload (k := 2) (a := X.2.2.2 54) dl_151 rfl ?_
  refine lr_call (i := 54) (As := []) (f := q_X8_clear) (oc := 8) (st := [.int r]) (G := fun N2 => jInM N2 t ∧ ∀ c, c < 54 → N2 c = N c) (c2 N _ (hM.hi q2) (fun N2 h1 h2 => ⟨rfl, h1, h2⟩)) (jTl (by decide)) rfl rfl rfl rfl lk_834 rfl (Nat.le_of_ble_eq_true rfl) dl_152 (fun N2 hq => ?_)
  obtain ⟨q3, q4⟩ := hq
  exact lr_eq (t := 631) dl_155 (by decide) (ih N2 t hW2 (q1.lo q4) q3)
theorem lc_source (hI : jInj X T0) (hW : jInW s) (hC : jInC M s) (hM : jInM M s) (hi : i + 3 < L) (hL : L ≤ 2048) (ih : ∀ N t, jInW t → jInC N t → jInM N t → lR X b L xs N 631 [.ref b, .ref (X.2.2.2 0), .ref (X.2.2.2 54), .int (nI i)] []) : lR X b L xs M 160 [.ref b, .ref (X.2.2.2 0), .ref (X.2.2.2 54), .int (nI i)] [] := by
  obtain ⟨r, t, hW2, c1, c2⟩ := p_source hI hW
  refine lr_aload (k := 1) (a := X.2.2.2 0) dl_160 rfl ?_
  refine lr_call (i := 0) (As := []) (f := q_X7_source) (oc := 7) (st := []) (G := fun N => jInC N t ∧ ∀ c, 54 ≤ c → N c = M c) (c1 M _ hC (fun N h1 h2 => ⟨rfl, h1, h2⟩)) (jTl (by decide)) rfl rfl rfl rfl lk_360 rfl (Nat.le_of_ble_eq_true rfl) dl_161 (fun N hq => ?_)
  obtain ⟨q1, q2⟩ := hq
  refine lr_aload (k := 2) (a := X.2.2.2 54) dl_164 rfl ?_
  refine lr_call (i := 54) (As := []) (f := q_X8_source) (oc := 8) (st := [.int r]) (G := fun N2 => jInM N2 t ∧ ∀ c, c < 54 → N2 c = N c) (c2 N _ (hM.hi q2) (fun N2 h1 h2 => ⟨rfl, h1, h2⟩)) (jTl (by decide)) rfl rfl rfl rfl lk_838 rfl (Nat.le_of_ble_eq_true rfl) dl_165 (fun N2 hq => ?_)
  obtain ⟨q3, q4⟩ := hq
  exact lr_eq (t := 631) dl_168 (by decide) (ih N2 t hW2 (q1.lo q4) q3)
theorem lc_item (hI : jInj X T0) (hW : jInW s) (hC : jInC M s) (hM : jInM M s) (hi : i + 3 < L) (hL : L ≤ 2048) (ih : ∀ N t, jInW t → jInC N t → jInM N t → lR X b L xs N 631 [.ref b, .ref (X.2.2.2 0), .ref (X.2.2.2 54), .int (nI i)] []) : lR X b L xs M 173 [.ref b, .ref (X.2.2.2 0), .ref (X.2.2.2 54), .int (nI i)] [] := by
  obtain ⟨r, t, hW2, c1, c2⟩ := p_item hI hW (xs (i + 1)) (xs (i + 2))
  refine lr_aload (k := 1) (a := X.2.2.2 0) dl_173 rfl ?_
  refine lr_arg (k := 1) (by decide) (by decide) hi hL rfl dl_174 dl_175 dl_176 dl_177 dl_178 ?_
  refine lr_arg (k := 2) (by decide) (by decide) hi hL rfl dl_179 dl_180 dl_181 dl_182 dl_183 ?_
  refine lr_call (i := 0) (As := [.int (xs (i + 1)), .int (xs (i + 2))]) (f := q_X7_item) (oc := 7) (st := []) (G := fun N => jInC N t ∧ ∀ c, 54 ≤ c → N c = M c) (c1 M _ hC (fun N h1 h2 => ⟨rfl, h1, h2⟩)) (jTl (by decide)) rfl rfl rfl rfl lk_456 rfl (Nat.le_of_ble_eq_true rfl) dl_184 (fun N hq => ?_)
  obtain ⟨q1, q2⟩ := hq
  refine lr_aload (k := 2) (a := X.2.2.2 54) dl_187 rfl ?_
  refine lr_arg (k := 1) (by decide) (by decide) hi hL rfl dl_188 dl_189 dl_190 dl_191 dl_192 ?_
  refine lr_arg (k := 2) (by decide) (by decide) hi hL rfl dl_193 dl_194 dl_195 dl_196 dl_197 ?_
  refine lr_call (i := 54) (As := [.int (xs (i + 1)), .int (xs (i + 2))]) (f := q_X8_item) (oc := 8) (st := [.int r]) (G := fun N2 => jInM N2 t ∧ ∀ c, c < 54 → N2 c = N c) (c2 N _ (hM.hi q2) (fun N2 h1 h2 => ⟨rfl, h1, h2⟩)) (jTl (by decide)) rfl rfl rfl rfl lk_885 rfl (Nat.le_of_ble_eq_true rfl) dl_198 (fun N2 hq => ?_)
  obtain ⟨q3, q4⟩ := hq
  exact lr_eq (t := 631) dl_201 (by decide) (ih N2 t hW2 (q1.lo q4) q3)
theorem lc_sizes (hI : jInj X T0) (hW : jInW s) (hC : jInC M s) (hM : jInM M s) (hi : i + 3 < L) (hL : L ≤ 2048) (ih : ∀ N t, jInW t → jInC N t → jInM N t → lR X b L xs N 631 [.ref b, .ref (X.2.2.2 0), .ref (X.2.2.2 54), .int (nI i)] []) : lR X b L xs M 206 [.ref b, .ref (X.2.2.2 0), .ref (X.2.2.2 54), .int (nI i)] [] := by
  obtain ⟨r, t, hW2, c1, c2⟩ := p_sizes hI hW (xs (i + 1)) (xs (i + 2))
  refine lr_aload (k := 1) (a := X.2.2.2 0) dl_206 rfl ?_
  refine lr_arg (k := 1) (by decide) (by decide) hi hL rfl dl_207 dl_208 dl_209 dl_210 dl_211 ?_
  refine lr_arg (k := 2) (by decide) (by decide) hi hL rfl dl_212 dl_213 dl_214 dl_215 dl_216 ?_
  refine lr_call (i := 0) (As := [.int (xs (i + 1)), .int (xs (i + 2))]) (f := q_X7_sizes) (oc := 7) (st := []) (G := fun N => jInC N t ∧ ∀ c, 54 ≤ c → N c = M c) (c1 M _ hC (fun N h1 h2 => ⟨rfl, h1, h2⟩)) (jTl (by decide)) rfl rfl rfl rfl lk_474 rfl (Nat.le_of_ble_eq_true rfl) dl_217 (fun N hq => ?_)
  obtain ⟨q1, q2⟩ := hq
  refine lr_aload (k := 2) (a := X.2.2.2 54) dl_220 rfl ?_
  refine lr_arg (k := 1) (by decide) (by decide) hi hL rfl dl_221 dl_222 dl_223 dl_224 dl_225 ?_
  refine lr_arg (k := 2) (by decide) (by decide) hi hL rfl dl_226 dl_227 dl_228 dl_229 dl_230 ?_
  refine lr_call (i := 54) (As := [.int (xs (i + 1)), .int (xs (i + 2))]) (f := q_X8_sizes) (oc := 8) (st := [.int r]) (G := fun N2 => jInM N2 t ∧ ∀ c, c < 54 → N2 c = N c) (c2 N _ (hM.hi q2) (fun N2 h1 h2 => ⟨rfl, h1, h2⟩)) (jTl (by decide)) rfl rfl rfl rfl lk_900 rfl (Nat.le_of_ble_eq_true rfl) dl_231 (fun N2 hq => ?_)
  obtain ⟨q3, q4⟩ := hq
  exact lr_eq (t := 631) dl_234 (by decide) (ih N2 t hW2 (q1.lo q4) q3)
theorem lc_pins (hI : jInj X T0) (hW : jInW s) (hC : jInC M s) (hM : jInM M s) (hi : i + 3 < L) (hL : L ≤ 2048) (ih : ∀ N t, jInW t → jInC N t → jInM N t → lR X b L xs N 631 [.ref b, .ref (X.2.2.2 0), .ref (X.2.2.2 54), .int (nI i)] []) : lR X b L xs M 239 [.ref b, .ref (X.2.2.2 0), .ref (X.2.2.2 54), .int (nI i)] [] := by
  obtain ⟨r, t, hW2, c1, c2⟩ := p_pins hI hW (xs (i + 1))
  refine lr_aload (k := 1) (a := X.2.2.2 0) dl_239 rfl ?_
  refine lr_arg (k := 1) (by decide) (by decide) hi hL rfl dl_240 dl_241 dl_242 dl_243 dl_244 ?_
  refine lr_call (i := 0) (As := [.int (xs (i + 1))]) (f := q_X7_pins) (oc := 7) (st := []) (G := fun N => jInC N t ∧ ∀ c, 54 ≤ c → N c = M c) (c1 M _ hC (fun N h1 h2 => ⟨rfl, h1, h2⟩)) (jTl (by decide)) rfl rfl rfl rfl lk_488 rfl (Nat.le_of_ble_eq_true rfl) dl_245 (fun N hq => ?_)
  obtain ⟨q1, q2⟩ := hq
  refine lr_aload (k := 2) (a := X.2.2.2 54) dl_248 rfl ?_
  refine lr_arg (k := 1) (by decide) (by decide) hi hL rfl dl_249 dl_250 dl_251 dl_252 dl_253 ?_
  refine lr_call (i := 54) (As := [.int (xs (i + 1))]) (f := q_X8_pins) (oc := 8) (st := [.int r]) (G := fun N2 => jInM N2 t ∧ ∀ c, c < 54 → N2 c = N c) (c2 N _ (hM.hi q2) (fun N2 h1 h2 => ⟨rfl, h1, h2⟩)) (jTl (by decide)) rfl rfl rfl rfl lk_908 rfl (Nat.le_of_ble_eq_true rfl) dl_254 (fun N2 hq => ?_)
  obtain ⟨q3, q4⟩ := hq
  exact lr_eq (t := 631) dl_257 (by decide) (ih N2 t hW2 (q1.lo q4) q3)
theorem lc_places (hI : jInj X T0) (hW : jInW s) (hC : jInC M s) (hM : jInM M s) (hi : i + 3 < L) (hL : L ≤ 2048) (ih : ∀ N t, jInW t → jInC N t → jInM N t → lR X b L xs N 631 [.ref b, .ref (X.2.2.2 0), .ref (X.2.2.2 54), .int (nI i)] []) : lR X b L xs M 262 [.ref b, .ref (X.2.2.2 0), .ref (X.2.2.2 54), .int (nI i)] [] := by
  obtain ⟨r, t, hW2, c1, c2⟩ := p_places hI hW (xs (i + 1)) (xs (i + 2))
  refine lr_aload (k := 1) (a := X.2.2.2 0) dl_262 rfl ?_
  refine lr_arg (k := 1) (by decide) (by decide) hi hL rfl dl_263 dl_264 dl_265 dl_266 dl_267 ?_
  refine lr_arg (k := 2) (by decide) (by decide) hi hL rfl dl_268 dl_269 dl_270 dl_271 dl_272 ?_
  refine lr_call (i := 0) (As := [.int (xs (i + 1)), .int (xs (i + 2))]) (f := q_X7_places) (oc := 7) (st := []) (G := fun N => jInC N t ∧ ∀ c, 54 ≤ c → N c = M c) (c1 M _ hC (fun N h1 h2 => ⟨rfl, h1, h2⟩)) (jTl (by decide)) rfl rfl rfl rfl lk_492 rfl (Nat.le_of_ble_eq_true rfl) dl_273 (fun N hq => ?_)
  obtain ⟨q1, q2⟩ := hq
  refine lr_aload (k := 2) (a := X.2.2.2 54) dl_276 rfl ?_
  refine lr_arg (k := 1) (by decide) (by decide) hi hL rfl dl_277 dl_278 dl_279 dl_280 dl_281 ?_
  refine lr_arg (k := 2) (by decide) (by decide) hi hL rfl dl_282 dl_283 dl_284 dl_285 dl_286 ?_
  refine lr_call (i := 54) (As := [.int (xs (i + 1)), .int (xs (i + 2))]) (f := q_X8_places) (oc := 8) (st := [.int r]) (G := fun N2 => jInM N2 t ∧ ∀ c, c < 54 → N2 c = N c) (c2 N _ (hM.hi q2) (fun N2 h1 h2 => ⟨rfl, h1, h2⟩)) (jTl (by decide)) rfl rfl rfl rfl lk_912 rfl (Nat.le_of_ble_eq_true rfl) dl_287 (fun N2 hq => ?_)
  obtain ⟨q3, q4⟩ := hq
  exact lr_eq (t := 631) dl_290 (by decide) (ih N2 t hW2 (q1.lo q4) q3)
theorem lc_takes (hI : jInj X T0) (hW : jInW s) (hC : jInC M s) (hM : jInM M s) (hi : i + 3 < L) (hL : L ≤ 2048) (ih : ∀ N t, jInW t → jInC N t → jInM N t → lR X b L xs N 631 [.ref b, .ref (X.2.2.2 0), .ref (X.2.2.2 54), .int (nI i)] []) : lR X b L xs M 295 [.ref b, .ref (X.2.2.2 0), .ref (X.2.2.2 54), .int (nI i)] [] := by
  obtain ⟨r, t, hW2, c1, c2⟩ := p_takes hI hW (xs (i + 1)) (xs (i + 2))
  refine lr_aload (k := 1) (a := X.2.2.2 0) dl_295 rfl ?_
  refine lr_arg (k := 1) (by decide) (by decide) hi hL rfl dl_296 dl_297 dl_298 dl_299 dl_300 ?_
  refine lr_arg (k := 2) (by decide) (by decide) hi hL rfl dl_301 dl_302 dl_303 dl_304 dl_305 ?_
  refine lr_call (i := 0) (As := [.int (xs (i + 1)), .int (xs (i + 2))]) (f := q_X7_takes) (oc := 7) (st := []) (G := fun N => jInC N t ∧ ∀ c, 54 ≤ c → N c = M c) (c1 M _ hC (fun N h1 h2 => ⟨rfl, h1, h2⟩)) (jTl (by decide)) rfl rfl rfl rfl lk_513 rfl (Nat.le_of_ble_eq_true rfl) dl_306 (fun N hq => ?_)
  obtain ⟨q1, q2⟩ := hq
  refine lr_aload (k := 2) (a := X.2.2.2 54) dl_309 rfl ?_
  refine lr_arg (k := 1) (by decide) (by decide) hi hL rfl dl_310 dl_311 dl_312 dl_313 dl_314 ?_
  refine lr_arg (k := 2) (by decide) (by decide) hi hL rfl dl_315 dl_316 dl_317 dl_318 dl_319 ?_
  refine lr_call (i := 54) (As := [.int (xs (i + 1)), .int (xs (i + 2))]) (f := q_X8_takes) (oc := 8) (st := [.int r]) (G := fun N2 => jInM N2 t ∧ ∀ c, c < 54 → N2 c = N c) (c2 N _ (hM.hi q2) (fun N2 h1 h2 => ⟨rfl, h1, h2⟩)) (jTl (by decide)) rfl rfl rfl rfl lk_928 rfl (Nat.le_of_ble_eq_true rfl) dl_320 (fun N2 hq => ?_)
  obtain ⟨q3, q4⟩ := hq
  exact lr_eq (t := 631) dl_323 (by decide) (ih N2 t hW2 (q1.lo q4) q3)
theorem lc_undo (hI : jInj X T0) (hW : jInW s) (hC : jInC M s) (hM : jInM M s) (hi : i + 3 < L) (hL : L ≤ 2048) (ih : ∀ N t, jInW t → jInC N t → jInM N t → lR X b L xs N 631 [.ref b, .ref (X.2.2.2 0), .ref (X.2.2.2 54), .int (nI i)] []) : lR X b L xs M 328 [.ref b, .ref (X.2.2.2 0), .ref (X.2.2.2 54), .int (nI i)] [] := by
  obtain ⟨r, t, hW2, c1, c2⟩ := p_undo hI hW
  refine lr_aload (k := 1) (a := X.2.2.2 0) dl_328 rfl ?_
  refine lr_call (i := 0) (As := []) (f := q_X7_undo) (oc := 7) (st := []) (G := fun N => jInC N t ∧ ∀ c, 54 ≤ c → N c = M c) (c1 M _ hC (fun N h1 h2 => ⟨rfl, h1, h2⟩)) (jTl (by decide)) rfl rfl rfl rfl lk_517 rfl (Nat.le_of_ble_eq_true rfl) dl_329 (fun N hq => ?_)
  obtain ⟨q1, q2⟩ := hq
  refine lr_aload (k := 2) (a := X.2.2.2 54) dl_332 rfl ?_
  refine lr_call (i := 54) (As := []) (f := q_X8_undo) (oc := 8) (st := [.int r]) (G := fun N2 => jInM N2 t ∧ ∀ c, c < 54 → N2 c = N c) (c2 N _ (hM.hi q2) (fun N2 h1 h2 => ⟨rfl, h1, h2⟩)) (jTl (by decide)) rfl rfl rfl rfl lk_932 rfl (Nat.le_of_ble_eq_true rfl) dl_333 (fun N2 hq => ?_)
  obtain ⟨q3, q4⟩ := hq
  exact lr_eq (t := 631) dl_336 (by decide) (ih N2 t hW2 (q1.lo q4) q3)
theorem lc_way (hI : jInj X T0) (hW : jInW s) (hC : jInC M s) (hM : jInM M s) (hi : i + 3 < L) (hL : L ≤ 2048) (ih : ∀ N t, jInW t → jInC N t → jInM N t → lR X b L xs N 631 [.ref b, .ref (X.2.2.2 0), .ref (X.2.2.2 54), .int (nI i)] []) : lR X b L xs M 341 [.ref b, .ref (X.2.2.2 0), .ref (X.2.2.2 54), .int (nI i)] [] := by
  obtain ⟨r, t, hW2, c1, c2⟩ := p_way hI hW (xs (i + 1)) (xs (i + 2))
  refine lr_aload (k := 1) (a := X.2.2.2 0) dl_341 rfl ?_
  refine lr_arg (k := 1) (by decide) (by decide) hi hL rfl dl_342 dl_343 dl_344 dl_345 dl_346 ?_
  refine lr_arg (k := 2) (by decide) (by decide) hi hL rfl dl_347 dl_348 dl_349 dl_350 dl_351 ?_
  refine lr_call (i := 0) (As := [.int (xs (i + 1)), .int (xs (i + 2))]) (f := q_X7_way) (oc := 7) (st := []) (G := fun N => jInC N t ∧ ∀ c, 54 ≤ c → N c = M c) (c1 M _ hC (fun N h1 h2 => ⟨rfl, h1, h2⟩)) (jTl (by decide)) rfl rfl rfl rfl lk_525 rfl (Nat.le_of_ble_eq_true rfl) dl_352 (fun N hq => ?_)
  obtain ⟨q1, q2⟩ := hq
  refine lr_aload (k := 2) (a := X.2.2.2 54) dl_355 rfl ?_
  refine lr_arg (k := 1) (by decide) (by decide) hi hL rfl dl_356 dl_357 dl_358 dl_359 dl_360 ?_
  refine lr_arg (k := 2) (by decide) (by decide) hi hL rfl dl_361 dl_362 dl_363 dl_364 dl_365 ?_
  refine lr_call (i := 54) (As := [.int (xs (i + 1)), .int (xs (i + 2))]) (f := q_X8_way) (oc := 8) (st := [.int r]) (G := fun N2 => jInM N2 t ∧ ∀ c, c < 54 → N2 c = N c) (c2 N _ (hM.hi q2) (fun N2 h1 h2 => ⟨rfl, h1, h2⟩)) (jTl (by decide)) rfl rfl rfl rfl lk_936 rfl (Nat.le_of_ble_eq_true rfl) dl_366 (fun N2 hq => ?_)
  obtain ⟨q3, q4⟩ := hq
  exact lr_eq (t := 631) dl_369 (by decide) (ih N2 t hW2 (q1.lo q4) q3)
theorem lc_lies (hI : jInj X T0) (hW : jInW s) (hC : jInC M s) (hM : jInM M s) (hi : i + 3 < L) (hL : L ≤ 2048) (ih : ∀ N t, jInW t → jInC N t → jInM N t → lR X b L xs N 631 [.ref b, .ref (X.2.2.2 0), .ref (X.2.2.2 54), .int (nI i)] []) : lR X b L xs M 374 [.ref b, .ref (X.2.2.2 0), .ref (X.2.2.2 54), .int (nI i)] [] := by
  obtain ⟨r, t, hW2, c1, c2⟩ := p_lies hI hW (xs (i + 1)) (xs (i + 2)) (xs (i + 3))
  refine lr_aload (k := 1) (a := X.2.2.2 0) dl_374 rfl ?_
  refine lr_arg (k := 1) (by decide) (by decide) hi hL rfl dl_375 dl_376 dl_377 dl_378 dl_379 ?_
  refine lr_arg (k := 2) (by decide) (by decide) hi hL rfl dl_380 dl_381 dl_382 dl_383 dl_384 ?_
  refine lr_arg (k := 3) (by decide) (by decide) hi hL rfl dl_385 dl_386 dl_387 dl_388 dl_389 ?_
  refine lr_call (i := 0) (As := [.int (xs (i + 1)), .int (xs (i + 2)), .int (xs (i + 3))]) (f := q_X7_lies) (oc := 7) (st := []) (G := fun N => jInC N t ∧ ∀ c, 54 ≤ c → N c = M c) (c1 M _ hC (fun N h1 h2 => ⟨rfl, h1, h2⟩)) (jTl (by decide)) rfl rfl rfl rfl lk_614 rfl (Nat.le_of_ble_eq_true rfl) dl_390 (fun N hq => ?_)
  obtain ⟨q1, q2⟩ := hq
  refine lr_aload (k := 2) (a := X.2.2.2 54) dl_393 rfl ?_
  refine lr_arg (k := 1) (by decide) (by decide) hi hL rfl dl_394 dl_395 dl_396 dl_397 dl_398 ?_
  refine lr_arg (k := 2) (by decide) (by decide) hi hL rfl dl_399 dl_400 dl_401 dl_402 dl_403 ?_
  refine lr_arg (k := 3) (by decide) (by decide) hi hL rfl dl_404 dl_405 dl_406 dl_407 dl_408 ?_
  refine lr_call (i := 54) (As := [.int (xs (i + 1)), .int (xs (i + 2)), .int (xs (i + 3))]) (f := q_X8_lies) (oc := 8) (st := [.int r]) (G := fun N2 => jInM N2 t ∧ ∀ c, c < 54 → N2 c = N c) (c2 N _ (hM.hi q2) (fun N2 h1 h2 => ⟨rfl, h1, h2⟩)) (jTl (by decide)) rfl rfl rfl rfl lk_1004 rfl (Nat.le_of_ble_eq_true rfl) dl_409 (fun N2 hq => ?_)
  obtain ⟨q3, q4⟩ := hq
  exact lr_eq (t := 631) dl_412 (by decide) (ih N2 t hW2 (q1.lo q4) q3)
theorem lc_code (hI : jInj X T0) (hW : jInW s) (hC : jInC M s) (hM : jInM M s) (hi : i + 3 < L) (hL : L ≤ 2048) (ih : ∀ N t, jInW t → jInC N t → jInM N t → lR X b L xs N 631 [.ref b, .ref (X.2.2.2 0), .ref (X.2.2.2 54), .int (nI i)] []) : lR X b L xs M 417 [.ref b, .ref (X.2.2.2 0), .ref (X.2.2.2 54), .int (nI i)] [] := by
  obtain ⟨r, t, hW2, c1, c2⟩ := p_code hI hW (xs (i + 1)) (xs (i + 2))
  refine lr_aload (k := 1) (a := X.2.2.2 0) dl_417 rfl ?_
  refine lr_arg (k := 1) (by decide) (by decide) hi hL rfl dl_418 dl_419 dl_420 dl_421 dl_422 ?_
  refine lr_arg (k := 2) (by decide) (by decide) hi hL rfl dl_423 dl_424 dl_425 dl_426 dl_427 ?_
  refine lr_call (i := 0) (As := [.int (xs (i + 1)), .int (xs (i + 2))]) (f := q_X7_code) (oc := 7) (st := []) (G := fun N => jInC N t ∧ ∀ c, 54 ≤ c → N c = M c) (c1 M _ hC (fun N h1 h2 => ⟨rfl, h1, h2⟩)) (jTl (by decide)) rfl rfl rfl rfl lk_621 rfl (Nat.le_of_ble_eq_true rfl) dl_428 (fun N hq => ?_)
  obtain ⟨q1, q2⟩ := hq
  refine lr_aload (k := 2) (a := X.2.2.2 54) dl_431 rfl ?_
  refine lr_arg (k := 1) (by decide) (by decide) hi hL rfl dl_432 dl_433 dl_434 dl_435 dl_436 ?_
  refine lr_arg (k := 2) (by decide) (by decide) hi hL rfl dl_437 dl_438 dl_439 dl_440 dl_441 ?_
  refine lr_call (i := 54) (As := [.int (xs (i + 1)), .int (xs (i + 2))]) (f := q_X8_code) (oc := 8) (st := [.int r]) (G := fun N2 => jInM N2 t ∧ ∀ c, c < 54 → N2 c = N c) (c2 N _ (hM.hi q2) (fun N2 h1 h2 => ⟨rfl, h1, h2⟩)) (jTl (by decide)) rfl rfl rfl rfl lk_1008 rfl (Nat.le_of_ble_eq_true rfl) dl_442 (fun N2 hq => ?_)
  obtain ⟨q3, q4⟩ := hq
  exact lr_eq (t := 631) dl_445 (by decide) (ih N2 t hW2 (q1.lo q4) q3)
theorem lc_origin (hI : jInj X T0) (hW : jInW s) (hC : jInC M s) (hM : jInM M s) (hi : i + 3 < L) (hL : L ≤ 2048) (ih : ∀ N t, jInW t → jInC N t → jInM N t → lR X b L xs N 631 [.ref b, .ref (X.2.2.2 0), .ref (X.2.2.2 54), .int (nI i)] []) : lR X b L xs M 450 [.ref b, .ref (X.2.2.2 0), .ref (X.2.2.2 54), .int (nI i)] [] := by
  obtain ⟨r, t, hW2, c1, c2⟩ := p_origin hI hW (xs (i + 1)) (xs (i + 2))
  refine lr_aload (k := 1) (a := X.2.2.2 0) dl_450 rfl ?_
  refine lr_arg (k := 1) (by decide) (by decide) hi hL rfl dl_451 dl_452 dl_453 dl_454 dl_455 ?_
  refine lr_arg (k := 2) (by decide) (by decide) hi hL rfl dl_456 dl_457 dl_458 dl_459 dl_460 ?_
  refine lr_call (i := 0) (As := [.int (xs (i + 1)), .int (xs (i + 2))]) (f := q_X7_origin) (oc := 7) (st := []) (G := fun N => jInC N t ∧ ∀ c, 54 ≤ c → N c = M c) (c1 M _ hC (fun N h1 h2 => ⟨rfl, h1, h2⟩)) (jTl (by decide)) rfl rfl rfl rfl lk_630 rfl (Nat.le_of_ble_eq_true rfl) dl_461 (fun N hq => ?_)
  obtain ⟨q1, q2⟩ := hq
  refine lr_aload (k := 2) (a := X.2.2.2 54) dl_464 rfl ?_
  refine lr_arg (k := 1) (by decide) (by decide) hi hL rfl dl_465 dl_466 dl_467 dl_468 dl_469 ?_
  refine lr_arg (k := 2) (by decide) (by decide) hi hL rfl dl_470 dl_471 dl_472 dl_473 dl_474 ?_
  refine lr_call (i := 54) (As := [.int (xs (i + 1)), .int (xs (i + 2))]) (f := q_X8_origin) (oc := 8) (st := [.int r]) (G := fun N2 => jInM N2 t ∧ ∀ c, c < 54 → N2 c = N c) (c2 N _ (hM.hi q2) (fun N2 h1 h2 => ⟨rfl, h1, h2⟩)) (jTl (by decide)) rfl rfl rfl rfl lk_1012 rfl (Nat.le_of_ble_eq_true rfl) dl_475 (fun N2 hq => ?_)
  obtain ⟨q3, q4⟩ := hq
  exact lr_eq (t := 631) dl_478 (by decide) (ih N2 t hW2 (q1.lo q4) q3)
theorem lc_narrow (hI : jInj X T0) (hW : jInW s) (hC : jInC M s) (hM : jInM M s) (hi : i + 3 < L) (hL : L ≤ 2048) (ih : ∀ N t, jInW t → jInC N t → jInM N t → lR X b L xs N 631 [.ref b, .ref (X.2.2.2 0), .ref (X.2.2.2 54), .int (nI i)] []) : lR X b L xs M 483 [.ref b, .ref (X.2.2.2 0), .ref (X.2.2.2 54), .int (nI i)] [] := by
  obtain ⟨r, t, hW2, c1, c2⟩ := p_narrow hI hW
  refine lr_aload (k := 1) (a := X.2.2.2 0) dl_483 rfl ?_
  refine lr_call (i := 0) (As := []) (f := q_X7_narrow) (oc := 7) (st := []) (G := fun N => jInC N t ∧ ∀ c, 54 ≤ c → N c = M c) (c1 M _ hC (fun N h1 h2 => ⟨rfl, h1, h2⟩)) (jTl (by decide)) rfl rfl rfl rfl lk_634 rfl (Nat.le_of_ble_eq_true rfl) dl_484 (fun N hq => ?_)
  obtain ⟨q1, q2⟩ := hq
  refine lr_aload (k := 2) (a := X.2.2.2 54) dl_487 rfl ?_
  refine lr_call (i := 54) (As := []) (f := q_X8_narrow) (oc := 8) (st := [.int r]) (G := fun N2 => jInM N2 t ∧ ∀ c, c < 54 → N2 c = N c) (c2 N _ (hM.hi q2) (fun N2 h1 h2 => ⟨rfl, h1, h2⟩)) (jTl (by decide)) rfl rfl rfl rfl lk_1016 rfl (Nat.le_of_ble_eq_true rfl) dl_488 (fun N2 hq => ?_)
  obtain ⟨q3, q4⟩ := hq
  exact lr_eq (t := 631) dl_491 (by decide) (ih N2 t hW2 (q1.lo q4) q3)
theorem lc_fewest (hI : jInj X T0) (hW : jInW s) (hC : jInC M s) (hM : jInM M s) (hi : i + 3 < L) (hL : L ≤ 2048) (ih : ∀ N t, jInW t → jInC N t → jInM N t → lR X b L xs N 631 [.ref b, .ref (X.2.2.2 0), .ref (X.2.2.2 54), .int (nI i)] []) : lR X b L xs M 496 [.ref b, .ref (X.2.2.2 0), .ref (X.2.2.2 54), .int (nI i)] [] := by
  obtain ⟨r, t, hW2, c1, c2⟩ := p_fewest hI hW (xs (i + 1))
  refine lr_aload (k := 1) (a := X.2.2.2 0) dl_496 rfl ?_
  refine lr_arg (k := 1) (by decide) (by decide) hi hL rfl dl_497 dl_498 dl_499 dl_500 dl_501 ?_
  refine lr_call (i := 0) (As := [.int (xs (i + 1))]) (f := q_X7_fewest) (oc := 7) (st := []) (G := fun N => jInC N t ∧ ∀ c, 54 ≤ c → N c = M c) (c1 M _ hC (fun N h1 h2 => ⟨rfl, h1, h2⟩)) (jTl (by decide)) rfl rfl rfl rfl lk_647 rfl (Nat.le_of_ble_eq_true rfl) dl_502 (fun N hq => ?_)
  obtain ⟨q1, q2⟩ := hq
  refine lr_aload (k := 2) (a := X.2.2.2 54) dl_505 rfl ?_
  refine lr_arg (k := 1) (by decide) (by decide) hi hL rfl dl_506 dl_507 dl_508 dl_509 dl_510 ?_
  refine lr_call (i := 54) (As := [.int (xs (i + 1))]) (f := q_X8_fewest) (oc := 8) (st := [.int r]) (G := fun N2 => jInM N2 t ∧ ∀ c, c < 54 → N2 c = N c) (c2 N _ (hM.hi q2) (fun N2 h1 h2 => ⟨rfl, h1, h2⟩)) (jTl (by decide)) rfl rfl rfl rfl lk_1020 rfl (Nat.le_of_ble_eq_true rfl) dl_511 (fun N2 hq => ?_)
  obtain ⟨q3, q4⟩ := hq
  exact lr_eq (t := 631) dl_514 (by decide) (ih N2 t hW2 (q1.lo q4) q3)
theorem lc_odds (hI : jInj X T0) (hW : jInW s) (hC : jInC M s) (hM : jInM M s) (hi : i + 3 < L) (hL : L ≤ 2048) (ih : ∀ N t, jInW t → jInC N t → jInM N t → lR X b L xs N 631 [.ref b, .ref (X.2.2.2 0), .ref (X.2.2.2 54), .int (nI i)] []) : lR X b L xs M 519 [.ref b, .ref (X.2.2.2 0), .ref (X.2.2.2 54), .int (nI i)] [] := by
  obtain ⟨r, t, hW2, c1, c2⟩ := p_odds hI hW (xs (i + 1)) (xs (i + 2)) (xs (i + 3))
  refine lr_aload (k := 1) (a := X.2.2.2 0) dl_519 rfl ?_
  refine lr_arg (k := 1) (by decide) (by decide) hi hL rfl dl_520 dl_521 dl_522 dl_523 dl_524 ?_
  refine lr_arg (k := 2) (by decide) (by decide) hi hL rfl dl_525 dl_526 dl_527 dl_528 dl_529 ?_
  refine lr_arg (k := 3) (by decide) (by decide) hi hL rfl dl_530 dl_531 dl_532 dl_533 dl_534 ?_
  refine lr_call (i := 0) (As := [.int (xs (i + 1)), .int (xs (i + 2)), .int (xs (i + 3))]) (f := q_X7_odds) (oc := 7) (st := []) (G := fun N => jInC N t ∧ ∀ c, 54 ≤ c → N c = M c) (c1 M _ hC (fun N h1 h2 => ⟨rfl, h1, h2⟩)) (jTl (by decide)) rfl rfl rfl rfl lk_669 rfl (Nat.le_of_ble_eq_true rfl) dl_535 (fun N hq => ?_)
  obtain ⟨q1, q2⟩ := hq
  refine lr_aload (k := 2) (a := X.2.2.2 54) dl_538 rfl ?_
  refine lr_arg (k := 1) (by decide) (by decide) hi hL rfl dl_539 dl_540 dl_541 dl_542 dl_543 ?_
  refine lr_arg (k := 2) (by decide) (by decide) hi hL rfl dl_544 dl_545 dl_546 dl_547 dl_548 ?_
  refine lr_arg (k := 3) (by decide) (by decide) hi hL rfl dl_549 dl_550 dl_551 dl_552 dl_553 ?_
  refine lr_call (i := 54) (As := [.int (xs (i + 1)), .int (xs (i + 2)), .int (xs (i + 3))]) (f := q_X8_odds) (oc := 8) (st := [.int r]) (G := fun N2 => jInM N2 t ∧ ∀ c, c < 54 → N2 c = N c) (c2 N _ (hM.hi q2) (fun N2 h1 h2 => ⟨rfl, h1, h2⟩)) (jTl (by decide)) rfl rfl rfl rfl lk_1036 rfl (Nat.le_of_ble_eq_true rfl) dl_554 (fun N2 hq => ?_)
  obtain ⟨q3, q4⟩ := hq
  exact lr_eq (t := 631) dl_557 (by decide) (ih N2 t hW2 (q1.lo q4) q3)
theorem lc_keep (hI : jInj X T0) (hW : jInW s) (hC : jInC M s) (hM : jInM M s) (hi : i + 3 < L) (hL : L ≤ 2048) (ih : ∀ N t, jInW t → jInC N t → jInM N t → lR X b L xs N 631 [.ref b, .ref (X.2.2.2 0), .ref (X.2.2.2 54), .int (nI i)] []) : lR X b L xs M 562 [.ref b, .ref (X.2.2.2 0), .ref (X.2.2.2 54), .int (nI i)] [] := by
  obtain ⟨r, t, hW2, c1, c2⟩ := p_keep hI hW (xs (i + 1))
  refine lr_aload (k := 1) (a := X.2.2.2 0) dl_562 rfl ?_
  refine lr_arg (k := 1) (by decide) (by decide) hi hL rfl dl_563 dl_564 dl_565 dl_566 dl_567 ?_
  refine lr_call (i := 0) (As := [.int (xs (i + 1))]) (f := q_X7_keep) (oc := 7) (st := []) (G := fun N => jInC N t ∧ ∀ c, 54 ≤ c → N c = M c) (c1 M _ hC (fun N h1 h2 => ⟨rfl, h1, h2⟩)) (jTl (by decide)) rfl rfl rfl rfl lk_694 rfl (Nat.le_of_ble_eq_true rfl) dl_568 (fun N hq => ?_)
  obtain ⟨q1, q2⟩ := hq
  refine lr_aload (k := 2) (a := X.2.2.2 54) dl_571 rfl ?_
  refine lr_arg (k := 1) (by decide) (by decide) hi hL rfl dl_572 dl_573 dl_574 dl_575 dl_576 ?_
  refine lr_call (i := 54) (As := [.int (xs (i + 1))]) (f := q_X8_keep) (oc := 8) (st := [.int r]) (G := fun N2 => jInM N2 t ∧ ∀ c, c < 54 → N2 c = N c) (c2 N _ (hM.hi q2) (fun N2 h1 h2 => ⟨rfl, h1, h2⟩)) (jTl (by decide)) rfl rfl rfl rfl lk_1045 rfl (Nat.le_of_ble_eq_true rfl) dl_577 (fun N2 hq => ?_)
  obtain ⟨q3, q4⟩ := hq
  exact lr_eq (t := 631) dl_580 (by decide) (ih N2 t hW2 (q1.lo q4) q3)
theorem lc_back (hI : jInj X T0) (hW : jInW s) (hC : jInC M s) (hM : jInM M s) (hi : i + 3 < L) (hL : L ≤ 2048) (ih : ∀ N t, jInW t → jInC N t → jInM N t → lR X b L xs N 631 [.ref b, .ref (X.2.2.2 0), .ref (X.2.2.2 54), .int (nI i)] []) : lR X b L xs M 585 [.ref b, .ref (X.2.2.2 0), .ref (X.2.2.2 54), .int (nI i)] [] := by
  obtain ⟨r, t, hW2, c1, c2⟩ := p_back hI hW (xs (i + 1))
  refine lr_aload (k := 1) (a := X.2.2.2 0) dl_585 rfl ?_
  refine lr_arg (k := 1) (by decide) (by decide) hi hL rfl dl_586 dl_587 dl_588 dl_589 dl_590 ?_
  refine lr_call (i := 0) (As := [.int (xs (i + 1))]) (f := q_X7_back) (oc := 7) (st := []) (G := fun N => jInC N t ∧ ∀ c, 54 ≤ c → N c = M c) (c1 M _ hC (fun N h1 h2 => ⟨rfl, h1, h2⟩)) (jTl (by decide)) rfl rfl rfl rfl lk_711 rfl (Nat.le_of_ble_eq_true rfl) dl_591 (fun N hq => ?_)
  obtain ⟨q1, q2⟩ := hq
  refine lr_aload (k := 2) (a := X.2.2.2 54) dl_594 rfl ?_
  refine lr_arg (k := 1) (by decide) (by decide) hi hL rfl dl_595 dl_596 dl_597 dl_598 dl_599 ?_
  refine lr_call (i := 54) (As := [.int (xs (i + 1))]) (f := q_X8_back) (oc := 8) (st := [.int r]) (G := fun N2 => jInM N2 t ∧ ∀ c, c < 54 → N2 c = N c) (c2 N _ (hM.hi q2) (fun N2 h1 h2 => ⟨rfl, h1, h2⟩)) (jTl (by decide)) rfl rfl rfl rfl lk_1049 rfl (Nat.le_of_ble_eq_true rfl) dl_600 (fun N2 hq => ?_)
  obtain ⟨q3, q4⟩ := hq
  exact lr_eq (t := 631) dl_603 (by decide) (ih N2 t hW2 (q1.lo q4) q3)
theorem lc_count (hI : jInj X T0) (hW : jInW s) (hC : jInC M s) (hM : jInM M s) (hi : i + 3 < L) (hL : L ≤ 2048) (ih : ∀ N t, jInW t → jInC N t → jInM N t → lR X b L xs N 631 [.ref b, .ref (X.2.2.2 0), .ref (X.2.2.2 54), .int (nI i)] []) : lR X b L xs M 608 [.ref b, .ref (X.2.2.2 0), .ref (X.2.2.2 54), .int (nI i)] [] := by
  obtain ⟨r, t, hW2, c1, c2⟩ := p_count hI hW (xs (i + 1))
  refine lr_aload (k := 1) (a := X.2.2.2 0) dl_608 rfl ?_
  refine lr_arg (k := 1) (by decide) (by decide) hi hL rfl dl_609 dl_610 dl_611 dl_612 dl_613 ?_
  refine lr_call (i := 0) (As := [.int (xs (i + 1))]) (f := q_X7_count) (oc := 7) (st := []) (G := fun N => jInC N t ∧ ∀ c, 54 ≤ c → N c = M c) (c1 M _ hC (fun N h1 h2 => ⟨rfl, h1, h2⟩)) (jTl (by decide)) rfl rfl rfl rfl lk_715 rfl (Nat.le_of_ble_eq_true rfl) dl_614 (fun N hq => ?_)
  obtain ⟨q1, q2⟩ := hq
  refine lr_aload (k := 2) (a := X.2.2.2 54) dl_617 rfl ?_
  refine lr_arg (k := 1) (by decide) (by decide) hi hL rfl dl_618 dl_619 dl_620 dl_621 dl_622 ?_
  refine lr_call (i := 54) (As := [.int (xs (i + 1))]) (f := q_X8_count) (oc := 8) (st := [.int r]) (G := fun N2 => jInM N2 t ∧ ∀ c, c < 54 → N2 c = N c) (c2 N _ (hM.hi q2) (fun N2 h1 h2 => ⟨rfl, h1, h2⟩)) (jTl (by decide)) rfl rfl rfl rfl lk_1053 rfl (Nat.le_of_ble_eq_true rfl) dl_623 (fun N2 hq => ?_)
  obtain ⟨q3, q4⟩ := hq
  exact lr_eq (t := 631) dl_626 (by decide) (ih N2 t hW2 (q1.lo q4) q3)
end LC
