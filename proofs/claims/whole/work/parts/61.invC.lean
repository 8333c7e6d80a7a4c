/-! the class between two calls of the law -/
def eK (x : va_E) : Prop := (∃ fs, x = .inr (0, fs)) ∨ ∃ d n c, x = .inl (d, n, c) ∧ (n = 1297 ∨ n = 1296 ∨ n = 5184)
theorem eK_o {ci : Nat} {fs : List Value} (h : ci ≠ 0) : ¬ eK (.inr (ci, fs)) := by
  rintro (⟨f, e⟩ | ⟨d, n, c, e, _⟩)
  · cases e; exact h rfl
  · cases e
theorem eK_a {d : ClassId} {n : Nat} {c} (h1 : n ≠ 1297) (h2 : n ≠ 1296) (h3 : n ≠ 5184) : ¬ eK (.inl (d, n, c)) := by
  rintro (⟨f, e⟩ | ⟨d, n, c, e, h⟩)
  · cases e
  · cases e; omega
theorem jE.keep {dA : Nat → ClassId} {L L1 : List Nat} {M M1 : mm_M} {ev : Value} {eb : Bool} (h : jE dA L M ev eb) (hM : ∀ q, q ∈ L → eK (M q) → M1 q = M q) (hL : ∀ q, q ∈ L → q ∈ L1) : jE dA L1 M1 ev eb := by
  cases eb with
  | false => exact h
  | true =>
    obtain ⟨en, vd, ct, nz, cf, nf, e, h1, h2, h3, h4, m1, m2, m3, m4⟩ := h
    refine ⟨en, vd, ct, nz, cf, nf, e, hL _ h1, hL _ h2, hL _ h3, hL _ h4, ?_, ?_, ?_, ?_⟩
    · rw [hM en h1 (by rw [m1]; exact Or.inl ⟨_, rfl⟩)]; exact m1
    · rw [hM vd h2 (by rw [m2]; exact Or.inr ⟨_, _, _, rfl, Or.inl rfl⟩)]; exact m2
    · rw [hM ct h3 (by rw [m3]; exact Or.inr ⟨_, _, _, rfl, Or.inr (Or.inl rfl)⟩)]; exact m3
    · rw [hM nz h4 (by rw [m4]; exact Or.inr ⟨_, _, _, rfl, Or.inr (Or.inr rfl)⟩)]; exact m4
/-- what stands in the class's own cells, the game's object apart -/
def CB (dA : Nat → ClassId) (M : mm_M) (z : Nat → Nat) : Prop := jF dA M z ∧ jY dA M z ∧ jT dA M (z 5) (z 6) ∧ (∃ P, M (z 7) = oP P) ∧ ∀ i, i < 101 → ∃ P, M (z (10 + i)) = oP P
def CI (dA : Nat → ClassId) (L : List Nat) (M : mm_M) (z : Nat → Nat) (ev : Value) (lt : Nat) (ln : Nat → Ps) (eb : Bool) : Prop := zW L z ∧ M (z 0) = jO z ev lt ∧ jE dA L M ev eb ∧ CB dA M z ∧ ∀ i, i ≤ lt → M (z (10 + i)) = oP (ln i)
theorem CB.noE {dA : Nat → ClassId} {M : mm_M} {z : Nat → Nat} (h : CB dA M z) : ∀ k, 0 < k → k < 126 → ¬ eK (M (z k)) := by
  obtain ⟨hf, hy, ht, h7, hl⟩ := h
  obtain ⟨m1, m2, m3, m4, m8, m9⟩ := hf
  obtain ⟨f5, n5, _, m5, m6⟩ := ht
  obtain ⟨P7, m7⟩ := h7
  intro k k0 hk
  by_cases h10 : k < 10
  · have : k = 1 ∨ k = 2 ∨ k = 3 ∨ k = 4 ∨ k = 5 ∨ k = 6 ∨ k = 7 ∨ k = 8 ∨ k = 9 := by omega
    rcases this with e | e | e | e | e | e | e | e | e <;> subst e
    · rw [m1]; exact eK_o (by decide)
    · rw [m2]; exact eK_a (by decide) (by decide) (by decide)
    · rw [m3]; exact eK_a (by decide) (by decide) (by decide)
    · rw [m4]; exact eK_a (by decide) (by decide) (by decide)
    · rw [m5]; exact eK_o (by decide)
    · rw [m6]; exact eK_a (by decide) (by decide) (by decide)
    · rw [m7]; exact eK_o (by decide)
    · rw [m8]; exact eK_a (by decide) (by decide) (by decide)
    · rw [m9]; exact eK_a (by decide) (by decide) (by decide)
  · by_cases h111 : k < 111
    · obtain ⟨P, m⟩ := hl (k - 10) (by omega)
      rw [show 10 + (k - 10) = k by omega] at m
      rw [m]; exact eK_o (by decide)
    · have hi : (k - 111) / 3 < 5 := by omega
      obtain ⟨f, n, _, ma, mb⟩ := hy.1 ((k - 111) / 3) hi
      obtain ⟨P, mp⟩ := hy.2 ((k - 111) / 3) hi
      have : k = 111 + 3 * ((k - 111) / 3) ∨ k = 112 + 3 * ((k - 111) / 3) ∨ k = 113 + 3 * ((k - 111) / 3) := by omega
      rcases this with e | e | e
      · rw [← e] at ma; rw [ma]; exact eK_o (by decide)
      · rw [← e] at mb; rw [mb]; exact eK_a (by decide) (by decide) (by decide)
      · rw [← e] at mp; rw [mp]; exact eK_o (by decide)
theorem CI.noE {dA : Nat → ClassId} {L : List Nat} {M : mm_M} {z : Nat → Nat} {ev : Value} {lt : Nat} {ln : Nat → Ps} {eb : Bool} (h : CI dA L M z ev lt ln eb) : ∀ k, k < 126 → ¬ eK (M (z k)) := by
  intro k hk
  by_cases h0 : k = 0
  · subst h0; rw [h.2.1]; exact eK_o (by decide)
  · exact h.2.2.2.1.noE k (by omega) hk
theorem CB.keep {dA : Nat → ClassId} {M M1 : mm_M} {z : Nat → Nat} (h : CB dA M z) (hM : ∀ k, 0 < k → k < 126 → M1 (z k) = M (z k)) : CB dA M1 z := by
  obtain ⟨hf, hy, ht, h7, hl⟩ := h
  obtain ⟨m1, m2, m3, m4, m8, m9⟩ := hf
  obtain ⟨f5, n5, h5, m5, m6⟩ := ht
  obtain ⟨P7, m7⟩ := h7
  refine ⟨⟨?_, ?_, ?_, ?_, ?_, ?_⟩, ⟨fun i hi => ?_, fun i hi => ?_⟩, ⟨f5, n5, h5, ?_, ?_⟩, ⟨P7, ?_⟩, fun i hi => ?_⟩
  · rw [hM 1 (by omega) (by omega)]; exact m1
  · rw [hM 2 (by omega) (by omega)]; exact m2
  · rw [hM 3 (by omega) (by omega)]; exact m3
  · rw [hM 4 (by omega) (by omega)]; exact m4
  · rw [hM 8 (by omega) (by omega)]; exact m8
  · rw [hM 9 (by omega) (by omega)]; exact m9
  · obtain ⟨f, n, a, b, c⟩ := hy.1 i hi
    exact ⟨f, n, a, by rw [hM _ (by omega) (by omega)]; exact b, by rw [hM _ (by omega) (by omega)]; exact c⟩
  · obtain ⟨P, a⟩ := hy.2 i hi
    exact ⟨P, by rw [hM _ (by omega) (by omega)]; exact a⟩
  · rw [hM 5 (by omega) (by omega)]; exact m5
  · rw [hM 6 (by omega) (by omega)]; exact m6
  · rw [hM 7 (by omega) (by omega)]; exact m7
  · obtain ⟨P, a⟩ := hl i hi
    exact ⟨P, by rw [hM _ (by omega) (by omega)]; exact a⟩
theorem CI.keep {dA : Nat → ClassId} {L L1 : List Nat} {M M1 : mm_M} {z : Nat → Nat} {ev : Value} {lt : Nat} {ln : Nat → Ps} {eb : Bool} (hlt : lt ≤ 100) (h : CI dA L M z ev lt ln eb) (hM : ∀ k, k < 126 → M1 (z k) = M (z k)) (hE : ∀ q, q ∈ L → eK (M q) → M1 q = M q) (hL : ∀ q, q ∈ L → q ∈ L1) : CI dA L1 M1 z ev lt ln eb :=
  ⟨h.1.mono hL, by rw [hM 0 (by omega)]; exact h.2.1, h.2.2.1.keep hE hL, h.2.2.2.1.keep (fun k _ hk => hM k hk), fun i hi => by rw [hM _ (by omega)]; exact h.2.2.2.2 i hi⟩
/-- a write into the list -/
theorem CI.list {dA : Nat → ClassId} {L : List Nat} {M : mm_M} {z : Nat → Nat} {ev : Value} {lt : Nat} {ln : Nat → Ps} {eb : Bool} {f : Nat → Int32} {n : Nat} (hlt : lt ≤ 100) (h : CI dA L M z ev lt ln eb) (hn : n ≤ 72) : CI dA L (va_up (va_up M (z 5) (oL (z 6) (nI n))) (z 6) (.inl (dA 0, 72, .inl f))) z ev lt ln eb := by
  have hz := h.1
  have hne := h.noE
  obtain ⟨M1, e1⟩ : ∃ M1, M1 = va_up (va_up M (z 5) (oL (z 6) (nI n))) (z 6) (.inl (dA 0, 72, .inl f)) := ⟨_, rfl⟩
  rw [← e1]
  have hk : ∀ k, k < 126 → k ≠ 5 → k ≠ 6 → M1 (z k) = M (z k) := fun k hk h5 h6 => by
    rw [e1, va_up_ne _ _ (hz.ne hk (by omega) h6), va_up_ne _ _ (hz.ne hk (by omega) h5)]
  obtain ⟨hf, hy, ht, h7, hl⟩ := h.2.2.2.1
  obtain ⟨m1, m2, m3, m4, m8, m9⟩ := hf
  refine ⟨hz, by rw [hk 0 (by omega) (by omega) (by omega)]; exact h.2.1, h.2.2.1.keep (fun q hq he => ?_) (fun _ h => h), ⟨⟨?_, ?_, ?_, ?_, ?_, ?_⟩, ⟨fun i hi => ?_, fun i hi => ?_⟩, ⟨f, n, hn, ?_, ?_⟩, ?_, fun i hi => ?_⟩, fun i hi => ?_⟩
  · rw [e1, va_up_ne _ _ (fun e => hne 6 (by omega) (by rw [← e]; exact he)), va_up_ne _ _ (fun e => hne 5 (by omega) (by rw [← e]; exact he))]
  · rw [hk 1 (by omega) (by omega) (by omega)]; exact m1
  · rw [hk 2 (by omega) (by omega) (by omega)]; exact m2
  · rw [hk 3 (by omega) (by omega) (by omega)]; exact m3
  · rw [hk 4 (by omega) (by omega) (by omega)]; exact m4
  · rw [hk 8 (by omega) (by omega) (by omega)]; exact m8
  · rw [hk 9 (by omega) (by omega) (by omega)]; exact m9
  · obtain ⟨f, n, a, b, c⟩ := hy.1 i hi
    exact ⟨f, n, a, by rw [hk _ (by omega) (by omega) (by omega)]; exact b, by rw [hk _ (by omega) (by omega) (by omega)]; exact c⟩
  · obtain ⟨P, a⟩ := hy.2 i hi
    exact ⟨P, by rw [hk _ (by omega) (by omega) (by omega)]; exact a⟩
  · rw [e1, va_up_ne _ _ (hz.ne (by omega) (by omega) (by omega)), va_up_self]
  · rw [e1, va_up_self]
  · obtain ⟨P, a⟩ := h7
    exact ⟨P, by rw [hk 7 (by omega) (by omega) (by omega)]; exact a⟩
  · obtain ⟨P, a⟩ := hl i hi
    exact ⟨P, by rw [hk _ (by omega) (by omega) (by omega)]; exact a⟩
  · rw [hk _ (by omega) (by omega) (by omega)]; exact h.2.2.2.2 i hi
/-- a position is written, and the game stands there -/
theorem CI.pos {dA : Nat → ClassId} {L : List Nat} {M M1 : mm_M} {z : Nat → Nat} {ev : Value} {lt t : Nat} {ln ln1 : Nat → Ps} {eb : Bool} {P : Ps} (h : CI dA L M z ev lt ln eb) (ht : t ≤ 100) (h0 : M1 (z 0) = jO z ev t) (hp : M1 (z (10 + t)) = oP P) (hk : ∀ q, q ≠ z 0 → q ≠ z (10 + t) → M1 q = M q) (hl1 : ∀ i, i < t → i ≤ lt ∧ ln1 i = ln i) (hlt : ln1 t = P) : CI dA L M1 z ev t ln1 eb := by
  have hz := h.1
  have hne := h.noE
  have hkz : ∀ k, 0 < k → k < 126 → k ≠ 10 + t → M1 (z k) = M (z k) := fun k k0 hk1 hk2 => hk _ (hz.ne hk1 (by omega) (by omega)) (hz.ne hk1 (by omega) hk2)
  obtain ⟨hf, hy, htt, h7, hl⟩ := h.2.2.2.1
  obtain ⟨m1, m2, m3, m4, m8, m9⟩ := hf
  obtain ⟨f5, n5, h5, m5, m6⟩ := htt
  refine ⟨hz, h0, h.2.2.1.keep (fun q hq he => hk q (fun e => hne 0 (by omega) (by rw [← e]; exact he)) (fun e => hne (10 + t) (by omega) (by rw [← e]; exact he))) (fun _ h => h), ⟨⟨?_, ?_, ?_, ?_, ?_, ?_⟩, ⟨fun i hi => ?_, fun i hi => ?_⟩, ⟨f5, n5, h5, ?_, ?_⟩, ?_, fun i hi => ?_⟩, fun i hi => ?_⟩
  · rw [hkz 1 (by omega) (by omega) (by omega)]; exact m1
  · rw [hkz 2 (by omega) (by omega) (by omega)]; exact m2
  · rw [hkz 3 (by omega) (by omega) (by omega)]; exact m3
  · rw [hkz 4 (by omega) (by omega) (by omega)]; exact m4
  · rw [hkz 8 (by omega) (by omega) (by omega)]; exact m8
  · rw [hkz 9 (by omega) (by omega) (by omega)]; exact m9
  · obtain ⟨f, n, a, b, c⟩ := hy.1 i hi
    exact ⟨f, n, a, by rw [hkz _ (by omega) (by omega) (by omega)]; exact b, by rw [hkz _ (by omega) (by omega) (by omega)]; exact c⟩
  · obtain ⟨P, a⟩ := hy.2 i hi
    exact ⟨P, by rw [hkz _ (by omega) (by omega) (by omega)]; exact a⟩
  · rw [hkz 5 (by omega) (by omega) (by omega)]; exact m5
  · rw [hkz 6 (by omega) (by omega) (by omega)]; exact m6
  · obtain ⟨P, a⟩ := h7
    exact ⟨P, by rw [hkz 7 (by omega) (by omega) (by omega)]; exact a⟩
  · by_cases e : i = t
    · subst e; exact ⟨P, hp⟩
    · obtain ⟨P, a⟩ := hl i hi
      exact ⟨P, by rw [hkz _ (by omega) (by omega) (by omega)]; exact a⟩
  · by_cases e : i = t
    · subst e; rw [hp, hlt]
    · have := hl1 i (by omega)
      rw [hkz _ (by omega) (by omega) (by omega), this.2]; exact h.2.2.2.2 i this.1
/-- undo -/
theorem CI.back {dA : Nat → ClassId} {L : List Nat} {M : mm_M} {z : Nat → Nat} {ev : Value} {lt t : Nat} {ln : Nat → Ps} {eb : Bool} (hlt : lt ≤ 100) (h : CI dA L M z ev lt ln eb) (ht : t ≤ lt) : CI dA L (va_up M (z 0) (jO z ev t)) z ev t ln eb := by
  have hz := h.1
  have hne := h.noE
  have hk : ∀ k, 0 < k → k < 126 → va_up M (z 0) (jO z ev t) (z k) = M (z k) := fun k h0 hk => va_up_ne _ _ (hz.ne hk (by omega) (by omega))
  refine ⟨hz, va_up_self _ _ _, h.2.2.1.keep (fun q hq he => va_up_ne _ _ (fun e => hne 0 (by omega) (by rw [← e]; exact he))) (fun _ h => h), h.2.2.2.1.keep hk, fun i hi => ?_⟩
  rw [hk _ (by omega) (by omega)]; exact h.2.2.2.2 i (by omega)
/-- behind a search -/
theorem CI.srch {dA : Nat → ClassId} {L L1 : List Nat} {M M1 : mm_M} {z : Nat → Nat} {ev ev1 : Value} {lt : Nat} {ln : Nat → Ps} {eb eb1 : Bool} (hlt : lt ≤ 100) (h : CI dA L M z ev lt ln eb) (hL : ∀ q, q ∈ L → q ∈ L1) (h0 : M1 (z 0) = jO z ev1 lt) (he : jE dA L1 M1 ev1 eb1) (hy : jY dA M1 z) (hw : wfB L z M M1) (ht : jT dA M1 (z 5) (z 6)) (h7 : ∃ Q, M1 (z 7) = oP Q) : CI dA L1 M1 z ev1 lt ln eb1 := by
  have hz := h.1
  have hk : ∀ k, 0 < k → k < 111 → k ≠ 5 → k ≠ 6 → k ≠ 7 → M1 (z k) = M (z k) := fun k h0 h1 h5 h6 h7 => hw (z k) (hz.1 k (by omega)) (fun j hj hj2 => hz.ne (by omega) hj2 (by omega))
  obtain ⟨hf, -, -, -, hl⟩ := h.2.2.2.1
  obtain ⟨m1, m2, m3, m4, m8, m9⟩ := hf
  refine ⟨hz.mono hL, h0, he, ⟨⟨?_, ?_, ?_, ?_, ?_, ?_⟩, hy, ht, h7, fun i hi => ?_⟩, fun i hi => ?_⟩
  · rw [hk 1 (by omega) (by omega) (by omega) (by omega) (by omega)]; exact m1
  · rw [hk 2 (by omega) (by omega) (by omega) (by omega) (by omega)]; exact m2
  · rw [hk 3 (by omega) (by omega) (by omega) (by omega) (by omega)]; exact m3
  · rw [hk 4 (by omega) (by omega) (by omega) (by omega) (by omega)]; exact m4
  · rw [hk 8 (by omega) (by omega) (by omega) (by omega) (by omega)]; exact m8
  · rw [hk 9 (by omega) (by omega) (by omega) (by omega) (by omega)]; exact m9
  · obtain ⟨P, a⟩ := hl i hi
    exact ⟨P, by rw [hk _ (by omega) (by omega) (by omega) (by omega) (by omega)]; exact a⟩
  · rw [hk _ (by omega) (by omega) (by omega) (by omega) (by omega)]; exact h.2.2.2.2 i hi
