/-! small rules for walks -/
section JW
variable {X : jX} {T : jT} {d mi pc : Nat} {ls st : List Value} {M : jMem} {Q : Option Value → jMem → Prop}
def jP (M : jMem) (i k : Nat) (v : Int32) : jMem := jSC M i (upd (M i) k v)
theorem jRun.br {c : Prop} [Decidable c] {a b : Nat} {r : List Value × List Value × jMem} (h1 : c → jRun X T d mi (a, r) Q) (h2 : ¬ c → jRun X T d mi (b, r) Q) : jRun X T d mi (if c then a else b, r) Q := by
  by_cases h : c
  · rw [if_pos h]; exact h1 h
  · rw [if_neg h]; exact h2 h
theorem jRun.brn {c : Prop} [Decidable c] {a b : Nat} {r : List Value × List Value × jMem} (h1 : ¬ c → jRun X T d mi (a, r) Q) (h2 : c → jRun X T d mi (b, r) Q) : jRun X T d mi (if ¬ c then a else b, r) Q := by
  by_cases h : c
  · rw [if_neg (fun q => q h)]; exact h2 h
  · rw [if_pos h]; exact h1 h
theorem jRun.nm (h : ∀ M1, M1 = M → jRun X T d mi (pc, ls, st, M1) Q) : jRun X T d mi (pc, ls, st, M) Q := h M rfl
def jFew : List Value → List Value → Prop
  | [], [] => True
  | a :: r, b :: s => (a = .null ∨ a = b) ∧ jFew r s
  | _, _ => False
theorem jFew_len : ∀ (a b : List Value), jFew a b → a.length = b.length
  | [], [], _ => rfl
  | _ :: r, _ :: s, h => by simp [jFew_len r s h.2]
  | [], _ :: _, h => h.elim
  | _ :: _, [], h => h.elim
theorem jFew_at : ∀ (a b : List Value), jFew a b → ∀ i, jAt a i ≠ .null → jAt b i = jAt a i
  | [], [], _, _, h => absurd rfl h
  | x :: r, y :: s, h, 0, hn => by
    rcases h.1 with e | e
    · exact absurd e hn
    · exact e.symm
  | _ :: r, _ :: s, h, i + 1, hn => jFew_at r s h.2 i hn
  | [], _ :: _, h, _, _ => h.elim
  | _ :: _, [], h, _, _ => h.elim
theorem jRun.weak {ls' : List Value} (hw : jFew ls' ls) (h : jRun X T d mi (pc, ls', st, M) Q) : jRun X T d mi (pc, ls, st, M) Q :=
  fun p e s m args below meth cd H locs sl C hW hI hS hL => h p e s m args below meth cd H locs sl C hW hI hS ⟨(jFew_len _ _ hw).trans hL.1, hL.2.1, hL.2.2.1, fun i hi => by
    have e1 := jFew_at _ _ hw i hi
    have hi' : jAt ls' i ≠ .null := hi
    have := hL.2.2.2 i (by show jAt ls i ≠ .null; rw [e1]; exact hi')
    show _ = some (Slot.val (jtr X.2.2.2 (jAt ls' i)))
    rw [← e1]
    exact this⟩
end JW
