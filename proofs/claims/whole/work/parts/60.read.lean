section JRE
variable {X : jX} {d : Nat} {M M' : jMem} {Q : Option Value → jMem → Prop} {T : Nat × (Nat → Nat)} {so P : Nat → Nat} {n rc k v : Nat} {D : jPg} {c : Nat × Nat × Nat × Nat}
def ksort (v : Nat) : Nat := if v = 111 then 0 else if v = 108 then 1 else if v = 106 then 2 else if v = 97 then 3 else if v = 99 then 4 else if v = 105 then 5 else if v = 114 then 6 else 7
def knd (c : Nat × Nat × Nat × Nat) : Nat := if c.2.1 = 1 then ksort c.2.2.1 else 7
def rroom (k : Nat) (D : jPg) : Bool := decide (D.2.2.1 < 32 ∧ (k = 2 → pct D.1 2 D.2.2.1 < 10) ∧ (k = 4 → pct D.1 4 D.2.2.1 < 6) ∧ (k = 5 → pct D.1 5 D.2.2.1 < 3))
def rok (k : Nat) (first : Bool) (D : jPg) : Bool := if k = 7 then false else if k = 6 then first else rroom k D
def rri (k : Nat) (t : Nat × Nat × Nat × Nat) (D : jPg) : Bool :=
  if k = 0 then decide (t.2.1 = 2 ∧ 1 ≤ t.2.2.1 ∧ t.2.2.1 ≤ 60)
  else if k = 1 then decide (t.2.1 = 1 ∧ 97 ≤ t.2.2.1 ∧ t.2.2.1 ≤ 104 ∧ pli D.1 D.2.1 (t.2.2.1 - 97) D.2.2.1 = 0)
  else if k = 3 then decide (t.2.1 = 2 ∧ (t.2.2.1 = 2 ∨ t.2.2.1 = 4 ∨ t.2.2.1 = 8 ∨ t.2.2.1 = 16))
  else if k = 6 then decide (t.2.1 = 2 ∧ 4 ≤ t.2.2.1 ∧ t.2.2.1 ≤ 127)
  else decide (t.2.1 = 1 ∧ 97 ≤ t.2.2.1 ∧ t.2.2.1 ≤ 104)
def rnum (t : Nat × Nat × Nat × Nat) : Nat := if t.2.1 = 1 then t.2.2.1 - 97 else t.2.2.1
def radd (k v : Nat) (D : jPg) : jPg := if k = 6 then (D.1, D.2.1, D.2.2.1, v) else (pup D.1 D.2.2.1 k, pup D.2.1 D.2.2.1 v, D.2.2.1 + 1, D.2.2.2)
def rdm (T : Nat × (Nat → Nat)) (k v : Nat) (tm : Nat × Nat × Nat × Nat) (D : jPg) : Nat ⊕ ((Nat × Nat × Nat × Nat) × jPg) := if tm.2.1 = 3 then .inr (tok T tm.2.2.2, radd k v D) else .inl tm.1
def rd1 (T : Nat × (Nat → Nat)) (c : Nat × Nat × Nat × Nat) (first : Bool) (D : jPg) : Nat ⊕ ((Nat × Nat × Nat × Nat) × jPg) :=
  if rok (knd c) first D = true then
    (if knd c = 5 then rdm T 5 0 (tok T c.2.2.2) D
     else if rri (knd c) (tok T c.2.2.2) D = true then rdm T (knd c) (rnum (tok T c.2.2.2)) (tok T (tok T c.2.2.2).2.2.2) D else .inl (tok T c.2.2.2).1)
  else .inl c.1
theorem ksort_le (v : Nat) : ksort v ≤ 7 := by
  unfold ksort
  repeat' split
  all_goals decide
/-- what a right token tells -/
theorem rri_num (h : rri k c D = true) (hk : k ≤ 6) (h5 : k ≠ 5) (hb : c.2.1 = 2 → c.2.2.1 ≤ 999) : (k = 0 → 1 ≤ rnum c ∧ rnum c ≤ 60) ∧ ((k = 1 ∨ k = 2 ∨ k = 4) → rnum c < 8) ∧ (k = 3 → rnum c = 2 ∨ rnum c = 4 ∨ rnum c = 8 ∨ rnum c = 16) ∧ (k = 6 → rnum c ≤ 127) ∧ rnum c ≤ 999 := by
  rcases (show k = 0 ∨ k = 1 ∨ k = 2 ∨ k = 3 ∨ k = 4 ∨ k = 6 by omega) with rfl | rfl | rfl | rfl | rfl | rfl
  all_goals
    simp [rri] at h
    have h1 := h.1
    unfold rnum
    simp [h1]
    omega
theorem rDw_add (hD : rDw D) (hk : k ≤ 5) (hr : rroom k D = true) (h0 : k = 0 → 1 ≤ v ∧ v ≤ 60) (h1 : (k = 1 ∨ k = 2 ∨ k = 4) → v < 8) (h3 : k = 3 → v = 2 ∨ v = 4 ∨ v = 8 ∨ v = 16) : rDw (pup D.1 D.2.2.1 k, pup D.2.1 D.2.2.1 v, D.2.2.1 + 1, D.2.2.2) := by
  obtain ⟨so, P, n, rc⟩ := D
  obtain ⟨r1, r2, r4, r5⟩ := of_decide_eq_true hr
  obtain ⟨⟨a1, a2, a3, a4, a5⟩, b1, b2, b3, b4⟩ := hD
  dsimp only at *
  refine ⟨⟨by show n + 1 ≤ 32; omega, a2, ?_, ?_, ?_⟩, fun j hj => ?_, fun j hj => ?_, fun j hj => ?_, fun j hj => ?_⟩
  · dsimp only; rw [pct_pup1]; split <;> omega
  · dsimp only; rw [pct_pup1]; split <;> omega
  · dsimp only; rw [pct_pup1]; split <;> omega
  all_goals
    have hj : j < n + 1 := hj
    dsimp only
    by_cases q : j = n
    · subst q; rw [pup_s]; first | omega | (intro e; rw [pup_s]; omega)
    · rw [pup_n q]; first | exact b1 j (by omega) | (rw [pup_n q]; first | exact b2 j (by omega) | exact b3 j (by omega) | exact b4 j (by omega))
def jRd (M M' : jMem) : Prop := (∀ c, c = 0 ∨ c = 2 ∨ 11 < c → M' c = M c) ∧ M' 1 1 = M 1 1
theorem jRd.rf : jRd M M := ⟨fun _ _ => rfl, rfl⟩
theorem jRd.tr {M1 M2 : jMem} (h : jRd M M1) (h2 : jRd M1 M2) : jRd M M2 := ⟨fun c a => (h2.1 c a).trans (h.1 c a), h2.2.trans h.2⟩
theorem jTf.rfr (h : jTf M M') : jRd M M' := ⟨fun c hc => h.1 c (by omega), h.2⟩
theorem jTxt.rf (h : jTxt (M 1 1) (M 2) T) (hf : jRd M M') : jTxt (M' 1 1) (M' 2) T := by rw [hf.1 2 (by decide), hf.2]; exact h
theorem jDr.tf (h : jDr M D) (hf : jTf M M') : jDr M' D := by
  unfold jDr at h ⊢
  rw [hf.1 3 (by decide), hf.1 4 (by decide), hf.1 5 (by decide), hf.1 6 (by decide), hf.1 8 (by decide), hf.1 9 (by decide), hf.1 10 (by decide), hf.1 11 (by decide)]
  exact h
theorem sp_room (hI : jInj X T0) (hk : k ≤ 5) (hD : jDr M D) (hw : rDw D) (h : Q (some (.int (jBI (rroom k D)))) M) : jOk X T0 d q_X3_hasRoomFor [.ref 3, .int (nI k)] M Q := by
  obtain ⟨⟨d8, d9, d10, d11, d12, d13⟩, -⟩ := hD
  obtain ⟨⟨a1, a2, a3, a4, a5⟩, -⟩ := hw
  refine v_X3_hasRoomFor hI _ _ _ ⟨fun g => absurd g (nI_pos (by omega)), fun _ => ?_⟩
  rw [d8, d10, d11, d12]
  refine ⟨fun g => ?_, fun g => ?_⟩
  · have hn : D.2.2.1 < 32 := (nI_ltI (b := 32) (by omega) (by decide)).mp g
    refine ⟨fun g2 => ⟨fun g4 => ⟨fun g5 => ?_, fun g5 => ?_⟩, fun g4 => ?_⟩, fun g2 => ?_⟩
    · rw [show rroom k D = true from decide_eq_true ⟨hn, fun q => absurd (by rw [q]; rfl) g2, fun q => absurd (by rw [q]; rfl) g4, fun q => absurd (by rw [q]; rfl) g5⟩] at h
      exact h
    · have e5 : k = 5 := nI_inj (by omega) (by decide) g5
      subst e5
      refine ⟨fun g => ?_, fun g => ?_⟩
      · rw [show rroom 5 D = false from decide_eq_false (fun q => sp_nle (b := 3) (q.2.2.2 rfl) (by decide) g)] at h
        exact h
      · rw [show rroom 5 D = true from decide_eq_true ⟨hn, fun q => absurd q (by decide), fun q => absurd q (by decide), fun _ => Nat.lt_of_not_le (fun r => g (sp_le (a := 3) r (by omega)))⟩] at h
        exact h
    · have e4 : k = 4 := nI_inj (by omega) (by decide) g4
      subst e4
      refine ⟨fun g => ?_, fun g => ?_⟩
      · rw [show rroom 4 D = false from decide_eq_false (fun q => sp_nle (b := 6) (q.2.2.1 rfl) (by decide) g)] at h
        exact h
      · rw [show rroom 4 D = true from decide_eq_true ⟨hn, fun q => absurd q (by decide), fun _ => Nat.lt_of_not_le (fun r => g (sp_le (a := 6) r (by omega))), fun q => absurd q (by decide)⟩] at h
        exact h
    · have e2 : k = 2 := nI_inj (by omega) (by decide) g2
      subst e2
      refine ⟨fun g => ?_, fun g => ?_⟩
      · rw [show rroom 2 D = false from decide_eq_false (fun q => sp_nle (b := 10) (q.2.1 rfl) (by decide) g)] at h
        exact h
      · rw [show rroom 2 D = true from decide_eq_true ⟨hn, fun _ => Nat.lt_of_not_le (fun r => g (sp_le (a := 10) r (by omega))), fun q => absurd q (by decide), fun q => absurd q (by decide)⟩] at h
        exact h
  · rw [show rroom k D = false from decide_eq_false (fun q => g (nI_lt (b := 32) q.1 (by decide)))] at h
    exact h
theorem sp_sortOf (hI : jInj X T0) {L : Nat} (hL : L < 2 ^ 20) (h : Q (some (.int (if ksort L ≤ 5 then nI (ksort L) else -1))) M) : jOk X T0 d q_X3_sortOf [.int (nI L)] M Q := by
  refine v_X3_sortOf hI _ _ _ ?_
  have e : ∀ j, j < 2 ^ 20 → (nI L = nI j ↔ L = j) := fun j hj => ⟨fun q => nI_inj (by omega) (by omega) q, fun q => by rw [q]⟩
  have o : ∀ j, j < 2 ^ 20 → ∀ r, L = j → (if ksort j ≤ 5 then nI (ksort j) else -1) = r → Q (some (.int r)) M := fun j _ r hj hr => by rw [hj, hr] at h; exact h
  refine ⟨fun g => o 97 (by decide) _ ((e 97 (by decide)).mp g) (by decide), fun g97 => ⟨fun g => o 98 (by decide) _ ((e 98 (by decide)).mp g) (by decide), fun g98 => ⟨fun g => o 99 (by decide) _ ((e 99 (by decide)).mp g) (by decide), fun g99 => ⟨fun g => o 100 (by decide) _ ((e 100 (by decide)).mp g) (by decide), fun g100 => ⟨fun g => o 101 (by decide) _ ((e 101 (by decide)).mp g) (by decide), fun g101 => ⟨fun g => o 102 (by decide) _ ((e 102 (by decide)).mp g) (by decide), fun g102 => ⟨fun g => o 103 (by decide) _ ((e 103 (by decide)).mp g) (by decide), fun g103 => ⟨fun g => o 104 (by decide) _ ((e 104 (by decide)).mp g) (by decide), fun g104 => ⟨fun g => o 105 (by decide) _ ((e 105 (by decide)).mp g) (by decide), fun g105 => ⟨fun g => o 106 (by decide) _ ((e 106 (by decide)).mp g) (by decide), fun g106 => ⟨fun g => o 107 (by decide) _ ((e 107 (by decide)).mp g) (by decide), fun g107 => ⟨fun g => o 108 (by decide) _ ((e 108 (by decide)).mp g) (by decide), fun g108 => ⟨fun g => o 109 (by decide) _ ((e 109 (by decide)).mp g) (by decide), fun g109 => ⟨fun g => o 110 (by decide) _ ((e 110 (by decide)).mp g) (by decide), fun g110 => ⟨fun g => o 111 (by decide) _ ((e 111 (by decide)).mp g) (by decide), fun g111 => ?_⟩⟩⟩⟩⟩⟩⟩⟩⟩⟩⟩⟩⟩⟩⟩
  have n97 : ¬ L = 97 := fun q => g97 ((e 97 (by decide)).mpr q)
  have n99 : ¬ L = 99 := fun q => g99 ((e 99 (by decide)).mpr q)
  have n105 : ¬ L = 105 := fun q => g105 ((e 105 (by decide)).mpr q)
  have n106 : ¬ L = 106 := fun q => g106 ((e 106 (by decide)).mpr q)
  have n108 : ¬ L = 108 := fun q => g108 ((e 108 (by decide)).mpr q)
  have n111 : ¬ L = 111 := fun q => g111 ((e 111 (by decide)).mpr q)
  have : ¬ ksort L ≤ 5 := by
    unfold ksort
    rw [if_neg n111, if_neg n108, if_neg n106, if_neg n97, if_neg n99, if_neg n105]
    split <;> decide
  rw [if_neg this] at h
  exact h
theorem sp_add (hI : jInj X T0) (hk : k ≤ 5) (hv : k = 1 → v < 8) (hr : rroom k D = true) (hD : jDr M D) (hw : rDw D)
    (h : ∀ M', (∀ c, c < 3 ∨ 11 < c → M' c = M c) → jDr M' (pup D.1 D.2.2.1 k, pup D.2.1 D.2.2.1 v, D.2.2.1 + 1, D.2.2.2) → Q none M') : jOk X T0 (d + 1) q_X3_add [.ref 3, .int (nI k), .int (nI v)] M Q := by
  obtain ⟨so, P, n, rc⟩ := D
  obtain ⟨r1, r2, r4, r5⟩ := of_decide_eq_true hr
  have hw1 := hw.1
  dsimp only at r1 r2 r4 r5 hw1 h
  have hD1 := hD.1
  dsimp only at hD1
  refine v_X3_add hI _ _ _ _ (sp_room hI hk hD hw ⟨_, rfl, fun _ => ?_, fun g => ?_⟩)
  · rw [hD1.1, nI_cl (by omega)]
    refine ⟨vp_in_nI r1 (by decide), fun M2 e2 => ?_⟩
    have z2 : M2 3 = M 3 := by subst e2; rw [jP_n (by decide)]
    rw [z2, hD1.1, nI_cl (by omega)]
    refine ⟨vp_in_nI r1 (by decide), fun M3 e3 => ?_⟩
    have z3 : M3 3 = M 3 := by subst e3; rw [jP_n (by decide), z2]
    rw [z3, hD1.1, nI_cl (by omega)]
    refine sp_cnum (so := so) (n := n) hI hk hv r1 hw1.2.2.1 hw1.2.2.2.1 hw1.2.2.2.2 r2 r4 r5 (by rw [z3]; exact ⟨hD1.1, hD1.2.1, hD1.2.2.1, hD1.2.2.2.1, hD1.2.2.2.2.1⟩) (fun M4 o4 o3 p9 p10 p11 p12 q8 q9 q10 q11 => ⟨_, rfl, vp_in_nI r1 (by decide), fun M5 e5 M6 e6 => ?_⟩)
    have eo : ∀ c, c ≠ 3 → c ≠ 6 → M6 c = M4 c := fun c a b => by subst e6; subst e5; rw [jP_n a, jP_n b]
    have e63 : ∀ j, j ≠ 8 → M6 3 j = M4 3 j := fun j hj => by subst e6; subst e5; rw [jP_s]; simp [upd, hj]; rw [jP_n (by decide)]
    have y : ∀ c, c ≠ 4 → c ≠ 5 → M3 c = M c := fun c a b => by subst e3; subst e2; rw [jP_n b, jP_n a]
    have x4 : M3 4 = upd (M 4) n (nI k) := by subst e3; subst e2; rw [jP_n (by decide), jP_s]
    have x5 : M3 5 = upd (M 5) n (nI v) := by subst e3; subst e2; rw [jP_s, jP_n (by decide)]
    refine h M6 (fun c hc => by rw [eo c (by omega) (by omega), o4 c (by omega) (by omega) (by omega) (by omega) (by omega), y c (by omega) (by omega)]) ?_
    refine jDr_add r1 hD ?_ ?_ ?_ ?_ ?_ ?_ ?_ ?_ ?_ ?_ ?_ ?_ ?_
    · have : M5 3 8 = nI n := by subst e5; rw [jP_n (by decide), o3 8 (by decide), z3]; exact hD1.1
      subst e6
      rw [jP_s, this, nI_1]
      rfl
    · rw [e63 9 (by decide)]; exact p9
    · rw [e63 10 (by decide)]; exact p10
    · rw [e63 11 (by decide)]; exact p11
    · rw [e63 12 (by decide)]; exact p12
    · rw [e63 13 (by decide), o3 13 (by decide), z3]
    · rw [eo 4 (by decide) (by decide), o4 4 (by decide) (by decide) (by decide) (by decide) (by decide)]; exact x4
    · rw [eo 5 (by decide) (by decide), o4 5 (by decide) (by decide) (by decide) (by decide) (by decide)]; exact x5
    · subst e6; subst e5
      rw [jP_n (by decide), jP_s, o4 6 (by decide) (by decide) (by decide) (by decide) (by decide), y 6 (by decide) (by decide)]
    · rw [eo 8 (by decide) (by decide), q8, y 8 (by decide) (by decide)]
    · rw [eo 9 (by decide) (by decide), q9, y 9 (by decide) (by decide)]
    · rw [eo 10 (by decide) (by decide), q10, y 10 (by decide) (by decide)]
    · rw [eo 11 (by decide) (by decide), q11, y 11 (by decide) (by decide)]
  · rw [hr] at g; exact absurd g (by decide)
end JRE
