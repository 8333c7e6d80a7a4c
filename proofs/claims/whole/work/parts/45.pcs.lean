/-! positions: what stands on a square, by bits -/
def WFp (P : Ps) : Prop := (b18 P.1) ∧ (b18 P.2.1) ∧ (b18 P.2.2.1) ∧ (∀ i, i < 18 → bt P.1 i = true → bt P.2.1 i = false) ∧ (∀ i, i < 18 → bt P.2.2.1 i = true → bt P.1 i = true ∨ bt P.2.1 i = true) ∧ (∀ i, 15 ≤ i → i < 18 → bt P.1 i = true → bt P.2.2.1 i = true) ∧ (∀ i, i < 3 → bt P.2.1 i = true → bt P.2.2.1 i = true) ∧ (P.2.2.2.1 = 0 ∨ P.2.2.2.1 = 1)
theorem WFp.w {P : Ps} (h : WFp P) : b18 P.1 := h.1
theorem WFp.b {P : Ps} (h : WFp P) : b18 P.2.1 := h.2.1
theorem WFp.k {P : Ps} (h : WFp P) : b18 P.2.2.1 := h.2.2.1
theorem WFp.dj {P : Ps} (h : WFp P) : ∀ i, i < 18 → bt P.1 i = true → bt P.2.1 i = false := h.2.2.2.1
theorem WFp.kg {P : Ps} (h : WFp P) : ∀ i, i < 18 → bt P.2.2.1 i = true → bt P.1 i = true ∨ bt P.2.1 i = true := h.2.2.2.2.1
theorem WFp.wm {P : Ps} (h : WFp P) : ∀ i, 15 ≤ i → i < 18 → bt P.1 i = true → bt P.2.2.1 i = true := h.2.2.2.2.2.1
theorem WFp.bm {P : Ps} (h : WFp P) : ∀ i, i < 3 → bt P.2.1 i = true → bt P.2.2.1 i = true := h.2.2.2.2.2.2.1
theorem WFp.mo {P : Ps} (h : WFp P) : P.2.2.2.1 = 0 ∨ P.2.2.2.1 = 1 := h.2.2.2.2.2.2.2
def pcB (w b k : Bool) : Int32 := if w then (if k then 2 else 1) else if b then (if k then 4 else 3) else 0
theorem pc_bits (P : Ps) {i : Nat} (hi : i < 32) : pieceP P ((1 : Int32) <<< (nI i &&& 31)) = pcB (bt P.1 i) (bt P.2.1 i) (bt P.2.2.1 i) := by
  unfold pieceP pcB
  simp only [and_z _ hi]
  cases bt P.1 i <;> cases bt P.2.1 i <;> cases bt P.2.2.1 i <;> rfl
theorem ful_bits (P : Ps) (i : Nat) : bt (fulP P) i = (bt P.1 i || bt P.2.1 i) := by unfold fulP; rw [b_or]
theorem own_bits {P : Ps} (i : Nat) : (P.2.2.2.1 = 0 → bt (ownP P) i = bt P.1 i ∧ bt (othP P) i = bt P.2.1 i) ∧ (P.2.2.2.1 = 1 → bt (ownP P) i = bt P.2.1 i ∧ bt (othP P) i = bt P.1 i) := by
  unfold ownP othP
  constructor
  · intro h; rw [if_pos h, if_pos h]; exact ⟨rfl, rfl⟩
  · intro h; rw [if_neg (by rw [h]; decide), if_neg (by rw [h]; decide)]; exact ⟨rfl, rfl⟩
/-- what the reference reads off a square -/
theorem side_own {P : Ps} (h : WFp P) {i : Nat} (hi : i < 18) : (sideR (pieceP P ((1 : Int32) <<< (nI i &&& 31))) = P.2.2.2.1 ↔ bt (ownP P) i = true) ∧ (sideR (pieceP P ((1 : Int32) <<< (nI i &&& 31))) = 1 - P.2.2.2.1 ↔ bt (othP P) i = true) ∧ (pieceP P ((1 : Int32) <<< (nI i &&& 31)) = 0 ↔ bt (fulP P) i = false) ∧ (sideR (pieceP P ((1 : Int32) <<< (nI i &&& 31))) < 0 ↔ bt (fulP P) i = false) := by
  have hd := h.dj i hi
  rw [pc_bits P (by omega), ful_bits]
  rcases h.mo with hm | hm
  · rw [((own_bits i).1 hm).1, ((own_bits i).1 hm).2, hm]
    generalize bt P.1 i = a at *
    generalize bt P.2.1 i = b at *
    generalize bt P.2.2.1 i = c at *
    cases a <;> cases b <;> cases c <;> first | exact absurd (hd rfl) (by decide) | decide
  · rw [((own_bits i).2 hm).1, ((own_bits i).2 hm).2, hm]
    generalize bt P.1 i = a at *
    generalize bt P.2.1 i = b at *
    generalize bt P.2.2.1 i = c at *
    cases a <;> cases b <;> cases c <;> first | exact absurd (hd rfl) (by decide) | decide
def gs (md w : Nat) : Bool := md == 2 || (md == 0 && decide (w < 2)) || (md == 1 && decide (2 ≤ w))
theorem pc_own {P : Ps} (h : WFp P) {i : Nat} (hi : i < 18) (ho : bt (ownP P) i = true) : (∀ w, w < 4 → (goesR (pieceP P ((1 : Int32) <<< (nI i &&& 31))) (nI w) = 0 ↔ gs (mdP P i) w = false)) ∧ (kingR (pieceP P ((1 : Int32) <<< (nI i &&& 31))) = 0 ↔ mdP P i ≠ 2) ∧ (mdP P i = 0 → crownR (sideR (pieceP P ((1 : Int32) <<< (nI i &&& 31)))) = 5) ∧ (mdP P i = 1 → crownR (sideR (pieceP P ((1 : Int32) <<< (nI i &&& 31)))) = 0) := by
  have hd := h.dj i hi
  rw [pc_bits P (by omega)]
  unfold mdP
  rcases h.mo with hm | hm
  · rw [((own_bits i).1 hm).1] at ho
    rw [hm, ho]
    rw [ho] at hd
    rw [hd rfl]
    generalize bt P.2.2.1 i = c at *
    cases c <;> decide
  · rw [((own_bits i).2 hm).1] at ho
    have hw : bt P.1 i = false := by
      cases e : bt P.1 i with
      | false => rfl
      | true => have := hd e; rw [ho] at this; cases this
    rw [hm, ho, hw]
    generalize bt P.2.2.1 i = c at *
    cases c <;> decide
