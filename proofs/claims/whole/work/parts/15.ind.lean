/-! What stood in the list before doesn't matter -/
def lsE (S T : LSt) : Prop := S.2 = T.2 ∧ ∀ i, i < S.2 → S.1 i = T.1 i
theorem lsE.rf (S : LSt) : lsE S S := ⟨rfl, fun _ _ => rfl⟩
theorem plc_ind {f g : Nat → Int32} {v : Int32} : ∀ (n : Nat), (∀ i, i < n → f i = g i) → plc f v n = plc g v n
  | 0, _ => rfl
  | n + 1, h => by
    unfold plc
    rw [h n (by omega), plc_ind n (fun i hi => h i (by omega))]
theorem enterF_ind {S T : LSt} {v : Int32} (h : lsE S T) : lsE (enterF S.1 S.2 v) (enterF T.1 T.2 v) := by
  obtain ⟨f, n⟩ := S
  obtain ⟨g, m⟩ := T
  obtain ⟨h1, h2⟩ := h
  dsimp only at h1 h2
  subst h1
  have hp := plc_ind (v := v) n h2
  have hle := plc_le g v n
  by_cases hc : (0 < plc f v n ∧ f (plc f v n - 1) = v) ∨ 72 ≤ n
  · have hc2 : (0 < plc g v n ∧ g (plc g v n - 1) = v) ∨ 72 ≤ n := by
      rcases hc with ⟨a, b⟩ | a
      · rw [hp] at a b
        exact Or.inl ⟨a, by rw [← h2 _ (by omega)]; exact b⟩
      · exact Or.inr a
    unfold enterF
    rw [if_pos hc, if_pos hc2]
    exact ⟨rfl, h2⟩
  · have hc2 : ¬ ((0 < plc g v n ∧ g (plc g v n - 1) = v) ∨ 72 ≤ n) := by
      intro hd
      apply hc
      rcases hd with ⟨a, b⟩ | a
      · exact Or.inl ⟨by rw [hp]; exact a, by rw [hp, h2 _ (by omega)]; exact b⟩
      · exact Or.inr a
    unfold enterF
    rw [if_neg hc, if_neg hc2, hp]
    refine ⟨rfl, fun i hi => ?_⟩
    dsimp only at hi ⊢
    by_cases a : i < plc g v n
    · rw [if_pos a, if_pos a, h2 i (by omega)]
    · rw [if_neg a, if_neg a]
      by_cases b : i = plc g v n
      · rw [if_pos b, if_pos b]
      · rw [if_neg b, if_neg b, if_pos (by omega), if_pos (by omega), h2 (i - 1) (by omega)]
theorem step1_ind {P : Ps} {s w : Nat} {S T : LSt} (h : lsE S T) : lsE (step1 P s w S) (step1 P s w T) := by
  unfold step1
  split
  · exact h
  · split
    · exact enterF_ind h
    · exact h
theorem stepL_ind {P : Ps} {s : Nat} : ∀ (k w : Nat) (S T : LSt), lsE S T → lsE (stepL P s k w S) (stepL P s k w T)
  | 0, _, _, _, h => h
  | k + 1, w, S, T, h => by
    unfold stepL
    split
    · exact h
    · exact stepL_ind k _ _ _ (step1_ind h)
theorem lpW_ind {P : Ps} {s d u : Nat} {T : Int32} {rc : Nat → Int32 → LSt → LSt} (hrc : ∀ u T S S', lsE S S' → lsE (rc u T S) (rc u T S')) : ∀ (k w : Nat) (en : Int32) (S S' : LSt), lsE S S' → lsE (lpW P s d u T rc k w en S).1 (lpW P s d u T rc k w en S').1 ∧ (lpW P s d u T rc k w en S).2 = (lpW P s d u T rc k w en S').2
  | 0, _, _, _, _, h => ⟨h, rfl⟩
  | k + 1, w, en, S, S', h => by
    unfold lpW
    split
    · exact ⟨h, rfl⟩
    · split
      · exact ⟨h, rfl⟩
      · split
        · exact lpW_ind hrc k _ _ _ _ (hrc _ _ _ _ h)
        · exact lpW_ind hrc k _ _ _ _ h
theorem lpF_ind {P : Ps} {s d u : Nat} {T : Int32} {rc : Nat → Int32 → LSt → LSt} (hrc : ∀ u T S S', lsE S S' → lsE (rc u T S) (rc u T S')) {S S' : LSt} (h : lsE S S') : lsE (lpF P s d u T rc S) (lpF P s d u T rc S') := by
  obtain ⟨h1, h2⟩ := lpW_ind (P := P) (s := s) (d := d) (u := u) (T := T) hrc (4 - fstN P s) (fstN P s) 1 S S' h
  unfold lpF lpE
  rw [h2]
  split
  · exact h1
  · split
    · exact h1
    · exact enterF_ind h1
theorem leapF_ind {P : Ps} {s : Nat} : ∀ (d u : Nat) (T : Int32) (S S' : LSt), lsE S S' → lsE (leapF P s d u T S) (leapF P s d u T S')
  | 0, _, _, _, _, h => lpF_ind (fun _ _ _ _ h => h) h
  | d + 1, _, _, _, _, h => lpF_ind (fun u T S S' h => leapF_ind d u T S S' h) h
theorem allJ_ind {P : Ps} : ∀ (k i : Nat) (S T : LSt), lsE S T → lsE (allJ P k i S) (allJ P k i T)
  | 0, _, _, _, h => h
  | k + 1, i, S, T, h => by
    unfold allJ
    apply allJ_ind k
    split
    · exact h
    · exact leapF_ind _ _ _ _ _ h
theorem allS_ind {P : Ps} : ∀ (k i : Nat) (S T : LSt), lsE S T → lsE (allS P k i S) (allS P k i T)
  | 0, _, _, _, h => h
  | k + 1, i, S, T, h => by
    unfold allS
    apply allS_ind k
    split
    · exact h
    · exact stepL_ind _ _ _ _ h
theorem movesF_ind (P : Ps) (f g : Nat → Int32) : lsE (movesF P f) (movesF P g) := by
  have h := allJ_ind (P := P) 18 0 (f, 0) (g, 0) ⟨rfl, fun i hi => absurd hi (by simp)⟩
  unfold movesF
  rw [h.1]
  split
  · exact allS_ind _ _ _ _ h
  · exact h
/-- the moves, by number -/
def mvN (P : Ps) : Nat := (movesF P (fun _ => 0)).2
def mvA (P : Ps) (i : Nat) : Int32 := (movesF P (fun _ => 0)).1 i
theorem mvN_eq (P : Ps) (f : Nat → Int32) : (movesF P f).2 = mvN P := (movesF_ind P f _).1
theorem mvA_eq (P : Ps) (f : Nat → Int32) {i : Nat} (h : i < mvN P) : (movesF P f).1 i = mvA P i := (movesF_ind P f _).2 i (by rw [mvN_eq]; exact h)
theorem mvN_le (P : Ps) : mvN P ≤ 72 := movesF_le P _
