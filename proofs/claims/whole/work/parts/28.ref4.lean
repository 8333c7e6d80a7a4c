theorem EqL.tr {A B C : Nat → Nat → Int32} (h : EqL A B) (h2 : EqL B C) : EqL A C := fun k a b c d => (h k a b c d).trans (h2 k a b c d)
theorem EqL.cnt {A B : Nat → Nat → Int32} (h : EqL A B) (p : Nat) : cntR A p = cntR B p := by unfold cntR; rw [h 3 (by decide) (by decide) (by decide) (by decide)]
theorem eq_stp1 {A B : Nat → Nat → Int32} {p f w : Nat} {pc : Int32} (h : EqL A B) : EqL (stp1 p f pc w A) (stp1 p f pc w B) := by
  unfold stp1
  rw [h 0 (by decide) (by decide) (by decide) (by decide), h.cnt]
  split
  · exact h
  · split
    · exact h
    · split
      · exact h.note
      · exact h
theorem eq_stpL {p f : Nat} {pc : Int32} : ∀ (k w : Nat) (A B : Nat → Nat → Int32), EqL A B → EqL (stpL p f pc k w A) (stpL p f pc k w B)
  | 0, _, _, _, h => h
  | k + 1, w, A, B, h => eq_stpL k (w + 1) _ _ (eq_stp1 h)
theorem eq_stpR {p f : Nat} {A B : Nat → Nat → Int32} (h : EqL A B) : EqL (stpR p f A) (stpR p f B) := by
  unfold stpR
  rw [h 0 (by decide) (by decide) (by decide) (by decide)]
  exact eq_stpL 4 0 _ _ h
def obE (x y : Option (Nat → Nat → Int32)) : Prop := ∀ R, y = some R → ∃ Q, x = some Q ∧ EqL Q R
theorem eq_noteO {p : Nat} {A B : Nat → Nat → Int32} {v : Int32} (h : EqL A B) : obE (noteO p A v) (noteO p B v) := by
  intro R hR
  unfold noteO at hR ⊢
  rw [h.cnt, h 3 (by decide) (by decide) (by decide) (by decide)]
  by_cases hc : B 3 p = nI (cntR B p) ∧ cntR B p < 80
  · rw [if_pos hc] at hR ⊢
    rw [← Option.some.inj hR]
    exact ⟨_, rfl, h.note⟩
  · rw [if_neg hc] at hR; cases hR
theorem eq_dfL {p f : Nat} {pc : Int32} {rc : Nat → Int32 → (Nat → Nat → Int32) → Option (Nat → Nat → Int32)} {u : Nat} {T : Int32} (hrc : ∀ u T A B, EqL A B → obE (rc u T A) (rc u T B)) : ∀ (m w : Nat) (c : Bool) (A B : Nat → Nat → Int32), EqL A B → ∀ r, dfL p f pc rc u T m w c B = some r → ∃ q, dfL p f pc rc u T m w c A = some q ∧ EqL q.1 r.1 ∧ q.2 = r.2
  | 0, w, c, A, B, h, r, hr => by
    rw [dfL] at hr ⊢
    rw [← Option.some.inj hr]
    exact ⟨_, rfl, h, rfl⟩
  | m + 1, w, c, A, B, h, r, hr => by
    rw [dfL] at hr ⊢
    rw [h.leap]
    split at hr
    · rename_i h1; rw [if_pos h1]; exact eq_dfL hrc m _ _ _ _ h r hr
    · rename_i h1; rw [if_neg h1]
      split at hr
      · rename_i h2; rw [if_pos h2]; exact eq_dfL hrc m _ _ _ _ h r hr
      · rename_i h2; rw [if_neg h2]
        split at hr
        · rename_i h3; rw [if_pos h3]
          obtain ⟨q, h4, h5⟩ := Option.bind_eq_some_iff.mp hr
          obtain ⟨q2, h6, h7⟩ := eq_noteO h q h4
          obtain ⟨q3, h8, h9⟩ := eq_dfL hrc m _ _ _ _ h7 r h5
          exact ⟨q3, by rw [h6]; exact h8, h9⟩
        · rename_i h3; rw [if_neg h3]
          obtain ⟨q, h4, h5⟩ := Option.bind_eq_some_iff.mp hr
          obtain ⟨q2, h6, h7⟩ := hrc _ _ _ _ h q h4
          obtain ⟨q3, h8, h9⟩ := eq_dfL hrc m _ _ _ _ h7 r h5
          exact ⟨q3, by rw [h6]; exact h8, h9⟩
theorem eq_dfE {p f u : Nat} {T : Int32} {root : Bool} {q r : (Nat → Nat → Int32) × Bool} (h : EqL q.1 r.1) (h2 : q.2 = r.2) : obE (dfE p f u T root q) (dfE p f u T root r) := by
  intro R hR
  unfold dfE at hR ⊢
  rw [h2]
  split at hR
  · rename_i h1; rw [if_pos h1, ← Option.some.inj hR]; exact ⟨_, rfl, h⟩
  · rename_i h1; rw [if_neg h1]
    split at hR
    · rename_i h3; rw [if_pos h3, ← Option.some.inj hR]; exact ⟨_, rfl, h⟩
    · rename_i h3; rw [if_neg h3]; exact eq_noteO h R hR
theorem eq_dfN {p f : Nat} {pc : Int32} : ∀ (d : Nat) (root : Bool) (u : Nat) (T : Int32) (A B : Nat → Nat → Int32), EqL A B → obE (dfN p f pc d root u T A) (dfN p f pc d root u T B)
  | 0, _, _, _, _, _, _ => fun R hR => by rw [dfN] at hR; cases hR
  | d + 1, root, u, T, A, B, h => fun R hR => by
    rw [dfN] at hR ⊢
    obtain ⟨q, h4, h5⟩ := Option.bind_eq_some_iff.mp hR
    obtain ⟨q2, h6, h7, h8⟩ := eq_dfL (fun u T A B h => eq_dfN d false u T A B h) 4 0 false A B h q h4
    obtain ⟨q3, h9, h10⟩ := eq_dfE h7 h8 R h5
    exact ⟨q3, by rw [h6]; exact h9, h10⟩
theorem eq_jmpR {p f : Nat} {A B : Nat → Nat → Int32} (h : EqL A B) : obE (jmpR p f A) (jmpR p f B) := by
  unfold jmpR
  rw [h 0 (by decide) (by decide) (by decide) (by decide)]
  exact eq_dfN 8 true f 0 A B h
def genJ (p : Nat) : Nat → Nat → (Nat → Nat → Int32) → Option (Nat → Nat → Int32)
  | 0, _, S => some S
  | k + 1, s, S => if sideR (S 0 (18 * p + s)) = S 1 p then (jmpR p s S).bind (genJ p k (s + 1)) else genJ p k (s + 1) S
def stpO (p s : Nat) (S : Nat → Nat → Int32) : Option (Nat → Nat → Int32) := if S 3 p = nI (cntR S p) ∧ cntR S p ≤ 76 then some (stpR p s S) else none
def genS (p : Nat) : Nat → Nat → (Nat → Nat → Int32) → Option (Nat → Nat → Int32)
  | 0, _, S => some S
  | k + 1, s, S => if sideR (S 0 (18 * p + s)) = S 1 p then (stpO p s S).bind (genS p k (s + 1)) else genS p k (s + 1) S
/-- all moves of ply p -/
def genR (p : Nat) (S : Nat → Nat → Int32) : Option (Nat → Nat → Int32) := (genJ p 18 0 (va_up S 3 (upd (S 3) p 0))).bind (fun S1 => if S1 3 p = 0 then genS p 18 0 S1 else some S1)
