/-! the reference between two calls of the law -/
theorem CI.srchR {dA : Nat → ClassId} {L L1 : List Nat} {M M1 : mm_M} {z : Nat → Nat} {ev ev1 : Value} {lt : Nat} {ln : Nat → Ps} {eb eb1 : Bool} (hlt : lt ≤ 100) (h : CI dA L M z ev lt ln eb) (hL : ∀ q, q ∈ L → q ∈ L1) (h0 : M1 (z 0) = jO z ev1 lt) (he : jE dA L1 M1 ev1 eb1) (hy : jY dA M1 z) (hw : wfR L z 126 M M1) : CI dA L1 M1 z ev1 lt ln eb1 := by
  have hz := h.1
  have hk : ∀ k, 0 < k → k < 111 → M1 (z k) = M (z k) := fun k h0 h1 => hw (z k) (hz.1 k (by omega)) (hz.ne (by omega) (by omega) (by omega)) (fun j hj hj2 => hz.ne (by omega) hj2 (by omega))
  obtain ⟨f, n, a, b, c⟩ := h.2.2.2.1.2.2.1
  obtain ⟨P, d⟩ := h.2.2.2.1.2.2.2.1
  exact h.srch hlt hL h0 he hy (hw.B (by omega)) ⟨f, n, a, by rw [hk 5 (by omega) (by omega)]; exact b, by rw [hk 6 (by omega) (by omega)]; exact c⟩ ⟨P, by rw [hk 7 (by omega) (by omega)]; exact d⟩
def GI (lt : Nat) (ln : Nat → Ps) : Prop := lt ≤ 100 ∧ (∀ i, i ≤ lt → WFp (ln i)) ∧ ∀ i, i < lt → (ln (i + 1)).2.2.2.1 = 1 - (ln i).2.2.2.1
def RI (dA : Nat → ClassId) (KT : Nat → Int32) (L : List Nat) (M : mm_M) (ob : Nat) (ad : Nat → Nat) (S : Nat → Nat → Int32) (so : Int32) (lt : Nat) (ln : Nat → Ps) : Prop := ob ∈ L ∧ M ob = rO ad (nI lt) (ln lt).2.2.2.2 so ∧ rA dA L M ad S ∧ S 7 = nearR ∧ S 8 = farR ∧ kOK KT so S ∧ rowOK S 0 (ln lt) ∧ ∀ i, i < lt → (∀ j, j < 18 → S 15 (18 * i + j) = pieceP (ln i) ((1 : Int32) <<< (nI j &&& 31))) ∧ S 16 i = (ln i).2.2.2.2
theorem RI.keep {dA : Nat → ClassId} {KT : Nat → Int32} {L L1 : List Nat} {M M1 : mm_M} {ob : Nat} {ad : Nat → Nat} {S : Nat → Nat → Int32} {so : Int32} {lt : Nat} {ln : Nat → Ps} (h : RI dA KT L M ob ad S so lt ln) (h0 : M1 ob = M ob) (hk : ∀ k, rak k = true → M1 (ad k) = M (ad k)) (hL : ∀ q, q ∈ L → q ∈ L1) : RI dA KT L1 M1 ob ad S so lt ln :=
  ⟨hL _ h.1, by rw [h0]; exact h.2.1, ⟨fun k hr => ⟨hL _ (h.2.2.1.1 k hr).1, by rw [hk k hr]; exact (h.2.2.1.1 k hr).2⟩, h.2.2.1.2⟩, h.2.2.2⟩
/-- the reference's answer changed nothing that a game rests on -/
theorem RI.eqB {dA : Nat → ClassId} {KT : Nat → Int32} {L : List Nat} {M M1 : mm_M} {ob : Nat} {ad : Nat → Nat} {S S1 : Nat → Nat → Int32} {so so1 : Int32} {lt : Nat} {ln : Nat → Ps} (h : RI dA KT L M ob ad S so lt ln) (hE : EqB 0 S1 S) (hk : kOK KT so1 S1) (hA : rA dA L M1 ad S1) (h0 : M1 ob = rO ad (nI lt) (ln lt).2.2.2.2 so1) : RI dA KT L M1 ob ad S1 so1 lt ln := by
  obtain ⟨e0, e1, -, -, e7, e8, e15, e16⟩ := hE
  refine ⟨h.1, h0, hA, by rw [e7]; exact h.2.2.2.1, by rw [e8]; exact h.2.2.2.2.1, hk, ⟨fun i hi => ?_, ?_⟩, fun i hi => ?_⟩
  · rw [e0 _ (by omega)]; exact h.2.2.2.2.2.2.1.1 i hi
  · rw [e1 0 (by omega)]; exact h.2.2.2.2.2.2.1.2
  · rw [e15, e16]; exact h.2.2.2.2.2.2.2 i hi
theorem kOK.same {KT : Nat → Int32} {so : Int32} {S S1 : Nat → Nat → Int32} (h : kOK KT so S) (h18 : S1 18 = S 18) (h19 : S1 19 = S 19) : kOK KT so S1 := by
  unfold kOK; rw [h18, h19]; exact h
theorem RI.gen {dA : Nat → ClassId} {KT : Nat → Int32} {L : List Nat} {M M1 : mm_M} {ob : Nat} {ad : Nat → Nat} {S S1 : Nat → Nat → Int32} {so : Int32} {lt : Nat} {ln : Nat → Ps} {P : Ps} (h : RI dA KT L M ob ad S so lt ln) (hG : GenP S1 S 0 P) (hA : rA dA L M1 ad S1) (h0 : M1 ob = rO ad (nI lt) (ln lt).2.2.2.2 so) : RI dA KT L M1 ob ad S1 so lt ln := h.eqB hG.2.1 (h.2.2.2.2.2.1.same hG.2.2.2.1 hG.2.2.2.2) hA h0
/-- a new game -/
theorem RI.fresh {dA : Nat → ClassId} {KT : Nat → Int32} {L : List Nat} {M M1 : mm_M} {ob : Nat} {ad : Nat → Nat} {S S1 : Nat → Nat → Int32} {so : Int32} {lt : Nat} {ln ln1 : Nat → Ps} (h : RI dA KT L M ob ad S so lt ln) (hA : rA dA L M1 ad S1) (h0 : M1 ob = rO ad 0 0 so) (hs : ∀ k, k ≠ 0 → k ≠ 1 → S1 k = S k) (hr : rowOK S1 0 (ln1 0)) (hq : (ln1 0).2.2.2.2 = 0) : RI dA KT L M1 ob ad S1 so 0 ln1 := by
  refine ⟨h.1, by rw [hq]; exact h0, hA, by rw [hs 7 (by decide) (by decide)]; exact h.2.2.2.1, by rw [hs 8 (by decide) (by decide)]; exact h.2.2.2.2.1, h.2.2.2.2.2.1.same (hs 18 (by decide) (by decide)) (hs 19 (by decide) (by decide)), hr, fun i hi => by omega⟩
theorem begin_row (S : Nat → Nat → Int32) : rowOK (beginSR S) 0 setUpP ∧ ∀ k, k ≠ 0 → k ≠ 1 → beginSR S k = S k := by
  unfold beginSR
  refine ⟨⟨fun i hi => ?_, ?_⟩, fun k h0 h1 => by rw [va_up_ne _ _ h1, va_up_ne _ _ h0]⟩
  · rw [va_up_ne _ _ (by decide), va_up_self]
    unfold fillF
    rw [if_pos (by omega)]
    have : ∀ i, i < 18 → begV (18 * 0 + i) = pieceP setUpP ((1 : Int32) <<< (nI i &&& 31)) := by decide +kernel
    exact this i hi
  · rw [va_up_self, pk_us]; rfl
theorem clear_row (S : Nat → Nat → Int32) : rowOK (clearSR S) 0 wipeP ∧ ∀ k, k ≠ 0 → k ≠ 1 → clearSR S k = S k := by
  unfold clearSR
  refine ⟨⟨fun i hi => ?_, ?_⟩, fun k h0 h1 => by rw [va_up_ne _ _ h1, va_up_ne _ _ h0]⟩
  · rw [va_up_ne _ _ (by decide), va_up_self]
    unfold fillF
    rw [if_pos (by omega)]
    have : ∀ i, i < 18 → (0 : Int32) = pieceP wipeP ((1 : Int32) <<< (nI i &&& 31)) := by decide +kernel
    exact this i hi
  · rw [va_up_self, pk_us]; rfl
theorem wf_wipe : WFp wipeP := by
  have z : ∀ i, bt (0 : Int32) i = false := b_0
  refine ⟨fun i _ _ => z i, fun i _ _ => z i, fun i _ _ => z i, fun i _ _ => z i, fun i _ h => ?_, fun i _ _ h => ?_, fun i _ h => ?_, Or.inl rfl⟩
  · rw [show wipeP.2.2.1 = 0 from rfl, z] at h; cases h
  · rw [show wipeP.1 = 0 from rfl, z] at h; cases h
  · rw [show wipeP.2.1 = 0 from rfl, z] at h; cases h
theorem su_bits : ∀ i, i < 32 → bt setUpP.1 i = decide (i < 6) ∧ bt setUpP.2.1 i = (decide (12 ≤ i) && decide (i < 18)) := by decide +kernel
theorem wf_setup : WFp setUpP := by
  have z : ∀ i, bt (0 : Int32) i = false := b_0
  refine ⟨fun i h1 h2 => ?_, fun i h1 h2 => ?_, fun i _ _ => z i, fun i hi h => ?_, fun i _ h => ?_, fun i h1 h2 h => ?_, fun i h1 h => ?_, Or.inl rfl⟩
  · rw [(su_bits i h2).1]; exact decide_eq_false (by omega)
  · rw [(su_bits i h2).2, decide_eq_false (show ¬ i < 18 by omega), Bool.and_false]
  · rw [(su_bits i (by omega)).1] at h
    rw [(su_bits i (by omega)).2]
    have := of_decide_eq_true h
    rw [decide_eq_false (show ¬ 12 ≤ i by omega)]; rfl
  · rw [show setUpP.2.2.1 = 0 from rfl, z] at h; cases h
  · rw [(su_bits i (by omega)).1] at h
    have := of_decide_eq_true h; omega
  · rw [(su_bits i (by omega)).2, decide_eq_false (show ¬ 12 ≤ i by omega)] at h; cases h
/-! put and turn -/
theorem put_eq (x y : Int32) : putOK x y = putKR x y := by
  unfold putOK putKR isSqF
  by_cases h0 : x < 0
  · rw [if_pos h0, if_pos rfl, if_pos h0]
  · rw [if_neg h0, if_neg h0]
    by_cases h18 : 18 ≤ x
    · rw [if_pos h18, if_pos rfl, if_pos (ti_lt.mpr (by have := ti_le.mp h18; have a : (18 : Int32).toInt = 18 := by decide
                                                        have b : (17 : Int32).toInt = 17 := by decide
                                                        omega))]
    · obtain ⟨a, ha, ea⟩ : ∃ a : Nat, a ≤ 17 ∧ x = nI a := by
        refine nI_of2 (M := 17) (by decide) h0 ?_
        refine ti_le.mpr ?_
        have q : ¬ (18 : Int32).toInt ≤ x.toInt := fun c => h18 (ti_le.mpr c)
        have a : (18 : Int32).toInt = 18 := by decide
        have b : (17 : Int32).toInt = 17 := by decide
        omega
      rw [if_neg h18, if_neg (show ¬ (1 : Int32) = 0 by decide), if_neg (show ¬ 17 < x from fun c => by
        have := ti_lt.mp c
        have b : (17 : Int32).toInt = 17 := by decide
        rw [ea, nI_toInt (by omega)] at this
        omega)]
      by_cases hy0 : y < 0
      · rw [if_pos hy0, if_pos hy0]
      · rw [if_neg hy0, if_neg hy0]
        by_cases hy4 : y ≤ 4
        · rw [if_pos hy4, if_neg (Int32.not_lt.mpr hy4)]
          subst ea
          have r5 := row5 a (by omega)
          have e5 : rowR (nI a) = 5 ↔ ¬ a < 15 := by
            rw [row3 a (by omega), show (5 : Int32) = nI 5 from rfl, nI_eq (by omega) (by omega)]; omega
          have e0 : rowR (nI a) = 0 ↔ ¬ 3 ≤ a := by
            rw [row3 a (by omega), show (0 : Int32) = nI 0 from rfl, nI_eq (by omega) (by omega)]; omega
          simp only [r5.1, r5.2, e5, e0]
          by_cases h1 : y = 1
          · subst h1
            by_cases q : a < 15 <;> simp [q]
          · by_cases h3 : y = 3
            · subst h3
              by_cases q : 3 ≤ a <;> simp [q]
            · simp [h1, h3]
        · rw [if_neg hy4, if_pos (Int32.not_le.mp hy4)]
theorem turn_eq (x : Int32) : turnOK x = turnKR x := rfl
theorem put_in {x y : Int32} (h : ¬ putKR x y = 0) : ∃ a b : Nat, a < 18 ∧ b ≤ 4 ∧ x = nI a ∧ y = nI b ∧ (b = 1 → a < 15) ∧ (b = 3 → 3 ≤ a) := by
  unfold putKR at h
  by_cases h0 : x < 0
  · rw [if_pos h0] at h; exact absurd rfl h
  rw [if_neg h0] at h
  by_cases h17 : 17 < x
  · rw [if_pos h17] at h; exact absurd rfl h
  rw [if_neg h17] at h
  by_cases hy0 : y < 0
  · rw [if_pos hy0] at h; exact absurd rfl h
  rw [if_neg hy0] at h
  by_cases hy4 : 4 < y
  · rw [if_pos hy4] at h; exact absurd rfl h
  rw [if_neg hy4] at h
  obtain ⟨a, ha, ea⟩ := nI_of2 (M := 17) (n := 17) (by decide) h0 (Int32.not_lt.mp h17)
  obtain ⟨b, hb, eb⟩ := nI_of2 (M := 4) (n := 4) (by decide) hy0 (Int32.not_lt.mp hy4)
  refine ⟨a, b, by omega, hb, ea, eb, fun e => ?_, fun e => ?_⟩
  · subst e
    rw [eb, if_pos (show nI 1 = 1 from rfl), ea, row3 a (by omega)] at h
    rcases Nat.lt_or_ge a 15 with q | q
    · exact q
    · exact absurd (by rw [if_pos (show nI (a / 3) = 5 by rw [show a / 3 = 5 by omega]; rfl)]) h
  · subst e
    rw [eb, if_neg (show ¬ nI 3 = 1 by decide), if_pos (show nI 3 = 3 from rfl), ea, row3 a (by omega)] at h
    rcases Nat.lt_or_ge a 3 with q | q
    · exact absurd (by rw [if_pos (show nI (a / 3) = 0 by rw [show a / 3 = 0 by omega]; rfl)]) h
    · exact q
theorem place_bits {P : Ps} {a b j : Nat} (ha : a < 18) (hb : b ≤ 4) (hj : j < 32) : bt (placeP P ((1 : Int32) <<< (nI a &&& 31)) (nI b)).1 j = (if j = a then decide (b = 1 ∨ b = 2) else bt P.1 j) ∧ bt (placeP P ((1 : Int32) <<< (nI a &&& 31)) (nI b)).2.1 j = (if j = a then decide (b = 3 ∨ b = 4) else bt P.2.1 j) ∧ bt (placeP P ((1 : Int32) <<< (nI a &&& 31)) (nI b)).2.2.1 j = (if j = a then decide (b = 2 ∨ b = 4) else bt P.2.2.1 j) := by
  have gen : ∀ (x : Int32) (p : Prop) [Decidable p], bt (if p then (x &&& (((1 : Int32) <<< (nI a &&& 31)) ^^^ (-1))) ||| ((1 : Int32) <<< (nI a &&& 31)) else x &&& (((1 : Int32) <<< (nI a &&& 31)) ^^^ (-1))) j = (if j = a then decide p else bt x j) := by
    intro x p _
    by_cases hp : p
    · rw [if_pos hp, b_or, b_and, bt_not _ hj, bt_sh (by omega) hj]
      by_cases e : j = a
      · simp [e, hp]
      · simp [e]
    · rw [if_neg hp, b_and, bt_not _ hj, bt_sh (by omega) hj]
      by_cases e : j = a
      · simp [e, hp]
      · simp [e]
  have h5 : b = 0 ∨ b = 1 ∨ b = 2 ∨ b = 3 ∨ b = 4 := by omega
  unfold placeP
  refine ⟨?_, ?_, ?_⟩
  · rw [gen]; rcases h5 with e | e | e | e | e <;> subst e <;> rfl
  · rw [gen]; rcases h5 with e | e | e | e | e <;> subst e <;> rfl
  · rw [gen]; rcases h5 with e | e | e | e | e <;> subst e <;> rfl
theorem wf_place {P : Ps} {a b : Nat} (hP : WFp P) (ha : a < 18) (hb : b ≤ 4) (h1 : b = 1 → a < 15) (h3 : b = 3 → 3 ≤ a) : WFp (placeP P ((1 : Int32) <<< (nI a &&& 31)) (nI b)) := by
  have F := fun j (hj : j < 32) => place_bits (P := P) (j := j) ha hb hj
  refine ⟨fun j h1 h2 => ?_, fun j h1 h2 => ?_, fun j h1 h2 => ?_, fun j hj hw => ?_, fun j hj hk => ?_, fun j g1 g2 hw => ?_, fun j g1 hw => ?_, hP.mo⟩
  · rw [(F j h2).1, if_neg (by omega)]; exact hP.w j h1 h2
  · rw [(F j h2).2.1, if_neg (by omega)]; exact hP.b j h1 h2
  · rw [(F j h2).2.2, if_neg (by omega)]; exact hP.k j h1 h2
  · rw [(F j (by omega)).1] at hw
    rw [(F j (by omega)).2.1]
    by_cases e : j = a
    · rw [if_pos e] at hw ⊢
      have := of_decide_eq_true hw
      exact decide_eq_false (by omega)
    · rw [if_neg e] at hw ⊢; exact hP.dj j hj hw
  · rw [(F j (by omega)).2.2] at hk
    rw [(F j (by omega)).1, (F j (by omega)).2.1]
    by_cases e : j = a
    · rw [if_pos e] at hk
      rw [if_pos e, if_pos e]
      have := of_decide_eq_true hk
      rcases this with q | q
      · left; exact decide_eq_true (by omega)
      · right; exact decide_eq_true (by omega)
    · rw [if_neg e] at hk
      rw [if_neg e, if_neg e]; exact hP.kg j hj hk
  · rw [(F j (by omega)).1] at hw
    rw [(F j (by omega)).2.2]
    by_cases e : j = a
    · rw [if_pos e] at hw ⊢
      have := of_decide_eq_true hw
      refine decide_eq_true ?_
      rcases this with q | q
      · have := h1 q; omega
      · left; exact q
    · rw [if_neg e] at hw ⊢; exact hP.wm j g1 g2 hw
  · rw [(F j (by omega)).2.1] at hw
    rw [(F j (by omega)).2.2]
    by_cases e : j = a
    · rw [if_pos e] at hw ⊢
      have := of_decide_eq_true hw
      refine decide_eq_true ?_
      rcases this with q | q
      · have := h3 q; omega
      · right; exact q
    · rw [if_neg e] at hw ⊢; exact hP.bm j g1 hw
theorem wf_quiet {P : Ps} (hP : WFp P) : WFp (quietP P) := hP
theorem wf_mover {P : Ps} {x : Int32} (hP : WFp P) (hx : x = 0 ∨ x = 1) : WFp (moverP P x) := ⟨hP.w, hP.b, hP.k, hP.dj, hP.kg, hP.wm, hP.bm, hx⟩
theorem put_row {S : Nat → Nat → Int32} {P : Ps} {a b : Nat} (hrow : rowOK S 0 P) (ha : a < 18) (hb : b ≤ 4) : rowOK (putSR S (nI a) (nI b)) 0 (placeP (quietP P) ((1 : Int32) <<< (nI a &&& 31)) (nI b)) ∧ ∀ k, k ≠ 0 → k ≠ 1 → putSR S (nI a) (nI b) k = S k := by
  unfold putSR
  rw [nI_clamp (by omega)]
  refine ⟨⟨fun i hi => ?_, ?_⟩, fun k h0 _ => by rw [va_up_ne _ _ h0]⟩
  · rw [va_up_self, pc_bits _ (by omega), (place_bits ha hb (by omega)).1, (place_bits ha hb (by omega)).2.1, (place_bits ha hb (by omega)).2.2]
    by_cases e : i = a
    · subst e
      rw [show 18 * 0 + i = i by omega, pk_us, if_pos rfl, if_pos rfl, if_pos rfl]
      have : b = 0 ∨ b = 1 ∨ b = 2 ∨ b = 3 ∨ b = 4 := by omega
      rcases this with e | e | e | e | e <;> subst e <;> rfl
    · rw [pk_un (by omega), if_neg e, if_neg e, if_neg e, hrow.1 i hi, pc_bits _ (by omega)]; rfl
  · rw [va_up_ne _ _ (by decide)]; exact hrow.2
theorem turn_row {S : Nat → Nat → Int32} {P : Ps} {x : Int32} (hrow : rowOK S 0 P) : rowOK (turnSR S x) 0 (moverP (quietP P) x) ∧ ∀ k, k ≠ 0 → k ≠ 1 → turnSR S x k = S k := by
  unfold turnSR
  refine ⟨⟨fun i hi => ?_, ?_⟩, fun k _ h1 => by rw [va_up_ne _ _ h1]⟩
  · rw [va_up_ne _ _ (by decide)]; exact hrow.1 i hi
  · rw [va_up_self, pk_us]; rfl
theorem turn_in {x : Int32} (h : ¬ turnKR x = 0) : x = 0 ∨ x = 1 := by
  unfold turnKR at h
  by_cases h0 : x = 0
  · exact Or.inl h0
  · rw [if_neg h0] at h
    by_cases h1 : x = 1
    · exact Or.inr h1
    · rw [if_neg h1] at h; exact absurd rfl h
