/-! the two answers to one call -/
theorem at_eq {S : Nat → Nat → Int32} {P : Ps} (hrow : rowOK S 0 P) (x : Int32) : (if isSqF x = 0 then -1 else pieceP P ((1 : Int32) <<< (x &&& 31))) = atR S x := by
  unfold isSqF atR
  by_cases h0 : x < 0
  · rw [if_pos h0, if_pos rfl, if_pos h0]
  · rw [if_neg h0, if_neg h0]
    by_cases h17 : x ≤ 17
    · obtain ⟨a, ha, ea⟩ := nI_of2 (M := 17) (n := 17) (by decide) h0 h17
      rw [if_pos h17, if_neg (show ¬ 18 ≤ x from fun c => by
        have := ti_le.mp c
        have b : (18 : Int32).toInt = 18 := by decide
        rw [ea, nI_toInt (by omega)] at this
        omega), if_neg (show ¬ (1 : Int32) = 0 by decide), ea, nI_clamp (by omega)]
      have := hrow.1 a (by omega)
      rw [show 18 * 0 + a = a by omega] at this
      exact this.symm
    · rw [if_neg h17, if_pos (show 18 ≤ x from ti_le.mpr (by
        have q : ¬ x.toInt ≤ (17 : Int32).toInt := fun c => h17 (ti_le.mpr c)
        have b : (18 : Int32).toInt = 18 := by decide
        have c : (17 : Int32).toInt = 17 := by decide
        omega)), if_pos rfl]
theorem mvN_z {P : Ps} : nI (mvN P) = 0 ↔ mvN P = 0 := by
  have := mvN_le P
  rw [show (0 : Int32) = nI 0 from rfl, nI_eq (by omega) (by omega)]
theorem over_eq {P : Ps} (hP : WFp P) : overF P = overVR P P.2.2.2.2 := by
  unfold overF overVR
  by_cases h : mvN P = 0
  · rw [if_pos ((can_mv hP.mo).mpr h), if_pos (mvN_z.mpr h)]
  · rw [if_neg (fun c => h ((can_mv hP.mo).mp c)), if_neg (fun c => h (mvN_z.mp c))]
theorem x_in {P : Ps} {x : Int32} (h0 : ¬ x < 0) (h1 : x < nI (mvN P)) : x.toNatClampNeg < mvN P ∧ x = nI x.toNatClampNeg := by
  have hn := mvN_le P
  obtain ⟨j, hj, e⟩ := nI_of h0
  rw [e, nI_ltI hj (by omega)] at h1
  rw [e, nI_clamp hj]
  exact ⟨h1, rfl⟩
theorem mvPk_eq {P : Ps} {f0 : Nat → Int32} {x : Int32} (h0 : ¬ x < 0) (h1 : x < nI (mvN P)) : mvPk P f0 x = mvA P x.toNatClampNeg := by
  unfold mvPk; exact mvA_eq P f0 (x_in h0 h1).1
theorem move_eq {P : Ps} (hP : WFp P) (f0 : Nat → Int32) (x y : Int32) : moveF P f0 x y = moveVR P x y := by
  unfold moveF moveVR
  rw [mvN_eq]
  by_cases h0 : x < 0
  · rw [if_pos h0, if_pos h0]
  · rw [if_neg h0, if_neg h0]
    by_cases h1 : x < nI (mvN P)
    · rw [if_pos h1, if_neg (Int32.not_le.mpr h1), mvPk_eq h0 h1]
      unfold mvpR
      obtain ⟨m, hm, ok, e⟩ := mv_i hP (x_in h0 h1).1
      rw [e, rk_cc ok.ok, (beg_m ok.ok).1, (beg_m ok.ok).2.1, (beg_m ok.ok).2.2, (mv_cc ok.ok).1, (mv_cc ok.ok).2.1, (mv_cc ok.ok).2.2]
      by_cases y0 : y < 0
      · rw [if_pos y0, if_neg (fun c => absurd y0 (by rw [c]; decide)), if_neg (fun c => absurd y0 (by rw [c]; decide)), if_neg (fun c => absurd y0 (by rw [c]; decide))]
      · rw [if_neg y0]
        by_cases y2 : y ≤ 2
        · rw [if_pos y2]
          obtain ⟨b, hb, eb⟩ := nI_of2 (M := 2) (n := 2) (by decide) y0 y2
          have : b = 0 ∨ b = 1 ∨ b = 2 := by omega
          rcases this with q | q | q <;> subst q <;> subst eb
          · rw [if_pos (show nI 0 = 0 from rfl), if_pos (show nI 0 = 0 from rfl)]
          · rw [if_neg (show ¬ nI 1 = 0 by decide), if_pos (show nI 1 = 1 from rfl), if_neg (show ¬ nI 1 = 0 by decide), if_pos (show nI 1 = 1 from rfl)]
          · rw [if_neg (show ¬ nI 2 = 0 by decide), if_neg (show ¬ nI 2 = 1 by decide), if_pos (show nI 2 = 2 from rfl), if_neg (show ¬ nI 2 = 0 by decide), if_neg (show ¬ nI 2 = 1 by decide)]
        · rw [if_neg y2, if_neg (fun c => y2 (by rw [c]; decide)), if_neg (fun c => y2 (by rw [c]; decide)), if_neg (fun c => y2 (by rw [c]; decide))]
    · rw [if_neg h1, if_pos (Int32.not_lt.mp h1)]
theorem lt_100 {lt : Nat} (h : lt ≤ 100) : lt < 100 ↔ ¬ nI lt = 100 := by
  rw [show (100 : Int32) = nI 100 from rfl, nI_eq (by omega) (by omega)]; omega
theorem play_iff {P : Ps} (hP : WFp P) {f0 : Nat → Int32} {lt : Nat} (hlt : lt ≤ 100) (x : Int32) : playOK P f0 lt x ↔ playKR P P.2.2.2.2 (nI lt) x := by
  unfold playOK playKR
  rw [over_eq hP, mvN_eq, lt_100 hlt]
theorem play_val {P : Ps} (hP : WFp P) {f0 : Nat → Int32} {lt : Nat} {x : Int32} (h : playOK P f0 lt x) : bitC (mvT (mvPk P f0 x)) = tkC (mvpR P x) 18 ∧ mvPk P f0 x = mvA P x.toNatClampNeg ∧ x.toNatClampNeg < mvN P := by
  have h1 := h.2.2.1
  rw [mvN_eq] at h1
  have hi := x_in h.2.1 h1
  obtain ⟨m, hm, ok, e⟩ := mv_i hP hi.1
  refine ⟨?_, mvPk_eq h.2.1 h1, hi.1⟩
  rw [mvPk_eq h.2.1 h1]
  unfold mvpR
  rw [e, rk_cc ok.ok, tk_bit ok.ok]
theorem play_q {P : Ps} (hP : WFp P) {S : Nat → Nat → Int32} (hrow : rowOK S 0 P) {x : Int32} (hi : x.toNatClampNeg < mvN P) : (if kstR S (mvpR P x) = 0 then 0 else P.2.2.2.2 + 1) = (followP P (mvA P x.toNatClampNeg)).2.2.2.2 := by
  obtain ⟨m, hm, ok, e⟩ := mv_i hP hi
  have ho := cd_of ok.ok
  unfold mvpR kstR
  rw [e, rk_cc ok.ok, (beg_m ok.ok).1, (beg_m ok.ok).2.2, nI_clamp (by omega)]
  have hr := hrow.1 (cF m) ho.1
  rw [show 18 * 0 + cF m = cF m by omega] at hr
  rw [hr]
  have hk := (pc_own hP ho.1 ok.ow).2.1
  have hmd : mdP P (cF m) ≠ 2 ↔ bt P.2.2.1 (cF m) = false := by
    unfold mdP
    by_cases hb : bt P.2.2.1 (cF m) = true
    · rw [if_pos hb, hb]; simp
    · rw [if_neg hb]
      constructor
      · intro _; simpa using hb
      · intro _; split <;> omega
  have hc := mv_cc ok.ok
  have hq : (followP P (nI (cc m))).2.2.2.2 = (if P.2.2.1 &&& ((1 : Int32) <<< (nI (cF m) &&& 31)) = 0 then 0 else (if nI (cT m) = 0 then P.2.2.2.2 + 1 else 0)) := by
    unfold followP
    rw [hc.1, hc.2.2]
    by_cases hm : P.2.2.2.1 = 0
    · simp only [if_pos hm]
    · simp only [if_neg hm]
  rw [hq]
  by_cases hb : bt P.2.2.1 (cF m) = false
  · rw [if_pos ((and_z _ (by omega)).mpr hb), if_pos (hk.mpr (hmd.mpr hb)), ite_self, if_pos rfl]
  · rw [if_neg (fun c => hb ((and_z _ (by omega)).mp c)), if_neg (fun c => hb (hmd.mp (hk.mp c)))]
    by_cases ht : nI (cT m) = 0
    · rw [if_pos ht, if_pos ht, if_neg (show ¬ (1 : Int32) = 0 by decide)]
    · rw [if_neg ht, if_neg ht, if_pos rfl]
theorem fol_mo {P : Ps} (hP : WFp P) {i : Nat} (hi : i < mvN P) : (followP P (mvA P i)).2.2.2.1 = 1 - P.2.2.2.1 := by
  obtain ⟨m, hm, ok, e⟩ := mv_i hP hi
  rw [e]
  rcases hP.mo with h | h
  · rw [(fol_w ok h (show 0 < 32 by omega)).2.2.2, h]; rfl
  · rw [(fol_b ok h (show 0 < 32 by omega)).2.2.2, h]; rfl
/-- one more position in the line -/
def lnP (ln : Nat → Ps) (t : Nat) (P : Ps) : Nat → Ps := fun i => if i = t then P else ln i
theorem GI.push {lt : Nat} {ln : Nat → Ps} {P : Ps} (h : GI lt ln) (hl : lt < 100) (hP : WFp P) (hm : P.2.2.2.1 = 1 - (ln lt).2.2.2.1) : GI (lt + 1) (lnP ln (lt + 1) P) := by
  refine ⟨by omega, fun i hi => ?_, fun i hi => ?_⟩
  · unfold lnP
    by_cases e : i = lt + 1
    · rw [if_pos e]; exact hP
    · rw [if_neg e]; exact h.2.1 i (by omega)
  · unfold lnP
    by_cases e : i = lt
    · subst e; rw [if_pos rfl, if_neg (by omega)]; exact hm
    · rw [if_neg (by omega), if_neg (by omega)]; exact h.2.2 i (by omega)
theorem GI.one {P : Ps} (hP : WFp P) : GI 0 (fun _ => P) := ⟨by omega, fun _ _ => hP, fun i hi => by omega⟩
theorem GI.back {lt : Nat} {ln : Nat → Ps} (h : GI lt ln) : GI (lt - 1) ln := ⟨by have := h.1; omega, fun i hi => h.2.1 i (by omega), fun i hi => h.2.2 i (by omega)⟩
theorem RI.undo {dA : Nat → ClassId} {KT : Nat → Int32} {L : List Nat} {M M1 : mm_M} {ob : Nat} {ad : Nat → Nat} {S : Nat → Nat → Int32} {so : Int32} {lt : Nat} {ln : Nat → Ps} (hG : GI lt ln) (h : RI dA KT L M ob ad S so lt ln) (h0 : ¬ lt = 0) (hA : rA dA L M1 ad (undoSR S (lt - 1))) (hm : M1 ob = rO ad (nI (lt - 1)) (S 16 (lt - 1)) so) : RI dA KT L M1 ob ad (undoSR S (lt - 1)) so (lt - 1) ln := by
  have hl := h.2.2.2.2.2.2.2 (lt - 1) (by omega)
  have hs : ∀ k, k ≠ 0 → k ≠ 1 → undoSR S (lt - 1) k = S k := fun k a b => by unfold undoSR; rw [va_up_ne _ _ b, va_up_ne _ _ a]
  refine ⟨h.1, by rw [hm, hl.2], hA, by rw [hs 7 (by decide) (by decide)]; exact h.2.2.2.1, by rw [hs 8 (by decide) (by decide)]; exact h.2.2.2.2.1, h.2.2.2.2.2.1.same (hs 18 (by decide) (by decide)) (hs 19 (by decide) (by decide)), ⟨fun i hi => ?_, ?_⟩, fun i hi => ?_⟩
  · unfold undoSR
    rw [va_up_ne _ _ (by decide), va_up_self]
    unfold fillF
    rw [if_pos (by omega), show 18 * 0 + i = i by omega]
    exact hl.1 i hi
  · unfold undoSR
    rw [va_up_self, pk_us, h.2.2.2.2.2.2.1.2]
    have e := hG.2.2 (lt - 1) (by omega)
    rw [show lt - 1 + 1 = lt by omega] at e
    rw [e]
    rcases (hG.2.1 (lt - 1) (by omega)).mo with q | q <;> rw [q] <;> rfl
  · rw [hs 15 (by decide) (by decide), hs 16 (by decide) (by decide)]
    exact h.2.2.2.2.2.2.2 i (by omega)
theorem RI.play {dA : Nat → ClassId} {KT : Nat → Int32} {L : List Nat} {M M1 : mm_M} {ob : Nat} {ad : Nat → Nat} {S S1 : Nat → Nat → Int32} {so : Int32} {lt : Nat} {ln : Nat → Ps} {P : Ps} (h : RI dA KT L M ob ad S so lt ln) (hs : playS S1 S lt (ln lt).2.2.2.2 P) (hA : rA dA L M1 ad S1) (hm : M1 ob = rO ad (nI lt + 1) P.2.2.2.2 so) : RI dA KT L M1 ob ad S1 so (lt + 1) (lnP ln (lt + 1) P) := by
  obtain ⟨hr, h7, h8, ha, hb, hc, hd, h18, h19⟩ := hs
  have e1 : lnP ln (lt + 1) P (lt + 1) = P := by unfold lnP; rw [if_pos rfl]
  refine ⟨h.1, by rw [e1, hm, nI_1], hA, by rw [h7]; exact h.2.2.2.1, by rw [h8]; exact h.2.2.2.2.1, h.2.2.2.2.2.1.same h18 h19, by rw [e1]; exact hr, fun i hi => ?_⟩
  have e2 : lnP ln (lt + 1) P i = ln i := by unfold lnP; rw [if_neg (by omega)]
  rw [e2]
  by_cases e : i = lt
  · subst e
    refine ⟨fun j hj => ?_, hd⟩
    rw [hb j hj]
    have := h.2.2.2.2.2.2.1.1 j hj
    rw [show 18 * 0 + j = j by omega] at this
    exact this
  · have := h.2.2.2.2.2.2.2 i (by omega)
    refine ⟨fun j hj => ?_, ?_⟩
    · rw [ha _ (by omega)]; exact this.1 j hj
    · rw [hc i e]; exact this.2
