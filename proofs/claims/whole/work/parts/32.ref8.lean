/-! what the reference's arrays say of a position -/
def rk (x : Int32) : Int32 := keyR (mvB x) (mvE x) (mvT x)
def rowOK (S : Nat → Nat → Int32) (p : Nat) (P : Ps) : Prop := (∀ i, i < 18 → S 0 (18 * p + i) = pieceP P ((1 : Int32) <<< (nI i &&& 31))) ∧ S 1 p = P.2.2.2.1
def lstOK (S : Nat → Nat → Int32) (p : Nat) (P : Ps) : Prop := S 3 p = nI (mvN P) ∧ ∀ i, i < mvN P → S 2 (80 * p + i) = rk (mvA P i)
/-- the plies up to p are as they were; the lists below p -/
def EqB (p : Nat) (S1 S : Nat → Nat → Int32) : Prop := (∀ i, i < 18 * p + 18 → S1 0 i = S 0 i) ∧ (∀ i, i < p + 1 → S1 1 i = S 1 i) ∧ (∀ i, i < 80 * p → S1 2 i = S 2 i) ∧ (∀ k, 3 ≤ k → k ≤ 6 → ∀ i, i < p → S1 k i = S k i) ∧ S1 7 = S 7 ∧ S1 8 = S 8 ∧ S1 15 = S 15 ∧ S1 16 = S 16
theorem EqB.rf {p : Nat} {S : Nat → Nat → Int32} : EqB p S S := ⟨fun _ _ => rfl, fun _ _ => rfl, fun _ _ => rfl, fun _ _ _ _ _ => rfl, rfl, rfl, rfl, rfl⟩
theorem EqB.tr {p : Nat} {A B C : Nat → Nat → Int32} (h : EqB p A B) (h2 : EqB p B C) : EqB p A C := ⟨fun i a => (h.1 i a).trans (h2.1 i a), fun i a => (h.2.1 i a).trans (h2.2.1 i a), fun i a => (h.2.2.1 i a).trans (h2.2.2.1 i a), fun k a b i c => (h.2.2.2.1 k a b i c).trans (h2.2.2.2.1 k a b i c), h.2.2.2.2.1.trans h2.2.2.2.2.1, h.2.2.2.2.2.1.trans h2.2.2.2.2.2.1, h.2.2.2.2.2.2.1.trans h2.2.2.2.2.2.2.1, h.2.2.2.2.2.2.2.trans h2.2.2.2.2.2.2.2⟩
theorem EqB.le {p q : Nat} {A B : Nat → Nat → Int32} (h : EqB q A B) (hpq : p ≤ q) : EqB p A B := ⟨fun i a => h.1 i (by omega), fun i a => h.2.1 i (by omega), fun i a => h.2.2.1 i (by omega), fun k a b i c => h.2.2.2.1 k a b i (by omega), h.2.2.2.2⟩
theorem EqL.B {p : Nat} {A B : Nat → Nat → Int32} (h : EqL A B) : EqB p A B := by
  refine ⟨fun i _ => ?_, fun i _ => ?_, fun i _ => ?_, fun k a b i _ => ?_, h 7 (by decide) (by decide) (by decide) (by decide), h 8 (by decide) (by decide) (by decide) (by decide), h 15 (by decide) (by decide) (by decide) (by decide), h 16 (by decide) (by decide) (by decide) (by decide)⟩
  · rw [h 0 (by decide) (by decide) (by decide) (by decide)]
  · rw [h 1 (by decide) (by decide) (by decide) (by decide)]
  · rw [h 2 (by decide) (by decide) (by decide) (by decide)]
  · rw [h k (by omega) (by omega) (by omega) (by omega)]
theorem EqB.row {p q : Nat} {A B : Nat → Nat → Int32} {P : Ps} (h : EqB q A B) (hpq : p ≤ q) (hr : rowOK B p P) : rowOK A p P := ⟨fun i hi => (h.1 _ (by omega)).trans (hr.1 i hi), (h.2.1 p (by omega)).trans hr.2⟩
theorem EqB.lst {p q : Nat} {A B : Nat → Nat → Int32} {P : Ps} (h : EqB q A B) (hpq : p < q) (hr : lstOK B p P) : lstOK A p P := ⟨(h.2.2.2.1 3 (by decide) (by decide) p hpq).trans hr.1, fun i hi => (h.2.2.1 _ (by have := mvN_le P; omega)).trans (hr.2 i hi)⟩
theorem EqL.lst {p : Nat} {A B : Nat → Nat → Int32} {P : Ps} (h : EqL A B) (hr : lstOK B p P) : lstOK A p P := ⟨by rw [h 3 (by decide) (by decide) (by decide) (by decide)]; exact hr.1, fun i hi => by rw [h 2 (by decide) (by decide) (by decide) (by decide)]; exact hr.2 i hi⟩
/-- behind generate(p) -/
def GenP (S1 S : Nat → Nat → Int32) (p : Nat) (P : Ps) : Prop := lstOK S1 p P ∧ EqB p S1 S ∧ (∀ k, 4 ≤ k → k ≤ 6 → S1 k = S k) ∧ S1 18 = S 18 ∧ S1 19 = S 19
theorem EqL.G {p : Nat} {A B S : Nat → Nat → Int32} {P : Ps} (h : EqL A B) (hr : GenP B S p P) : GenP A S p P := ⟨h.lst hr.1, h.B.tr hr.2.1, fun k a b => (h k (by omega) (by omega) (by omega) (by omega)).trans (hr.2.2.1 k a b), (h 18 (by decide) (by decide) (by decide) (by decide)).trans hr.2.2.2.1, (h 19 (by decide) (by decide) (by decide) (by decide)).trans hr.2.2.2.2⟩
/-- what is asked of the rules: to be shown apart -/
def GenSem (WF : Ps → Prop) : Prop := ∀ (S : Nat → Nat → Int32) (p : Nat) (P : Ps), p < 6 → rowOK S p P → WF P → S 7 = nearR → S 8 = farR → ∃ R, genR p S = some R ∧ GenP R S p P
def MakeSem (WF : Ps → Prop) : Prop := ∀ (S : Nat → Nat → Int32) (p : Nat) (P : Ps) (i : Nat), rowOK S p P → WF P → i < mvN P → ∃ f t, begR (rk (mvA P i)) = nI f ∧ f < 18 ∧ endR (rk (mvA P i)) = nI t ∧ t < 18 ∧ rowOK (makeR S p (rk (mvA P i)) f t) (p + 1) (followP P (mvA P i))

def overVR (P : Ps) (qu : Int32) : Int32 := if nI (mvN P) = 0 then (if P.2.2.2.1 = 0 then 2 else 1) else (if qu < 20 then 0 else 3)
def mvpR (P : Ps) (x : Int32) : Int32 := rk (mvA P x.toNatClampNeg)
def moveVR (P : Ps) (x y : Int32) : Int32 := if x < 0 then -1 else if nI (mvN P) ≤ x then -1 else if y < 0 then -1 else if y ≤ 2 then (if y = 0 then begR (mvpR P x) else if y = 1 then endR (mvpR P x) else mvpR P x - mvpR P x / 262144 * 262144) else -1

set_option maxHeartbeats 1000000 in
set_option maxRecDepth 100000 in
theorem c_movesR (l : Launch) (D : va_G) (dA : Nat → ClassId) {L : List Nat} {M : mm_M} {ob : Nat} {ad : Nat → Nat} {S : Nat → Nat → Int32} {pl qu so : Int32} {P : Ps} {WF : Ps → Prop} (i_ob : ob ∈ L) (m_ob : M ob = rO ad pl qu so) (hA : rA dA L M ad S) (h7 : S 7 = nearR) (h8 : S 8 = farR) (GS : GenSem WF) (hrow : rowOK S 0 P) (hwf : WF P) : mm_Cn l D dA yX5_moves wsX5_moves 4 [.ref ob] L M (fun r M1 => r = nI (mvN P) ∧ ∃ S1, GenP S1 S 0 P ∧ rA dA L M1 ad S1 ∧ M1 ob = rO ad pl qu so ∧ rF L ad ob M M1) := by
  have hA0 := hA
  have m_ob0 := m_ob
  have fR : rF L ad ob M M := rF.rf
  refine mm_enter_i (cc := cX5_moves) (maxL := 1) (by decide) rfl (Nat.le_of_ble_eq_true rfl) ?_
  intro p e R s m args below meth c A ls H locs Q hR hx hb hml hin hown hts hK hV hl hret
  have hl : lv_has ls 1 [(0, .ref ob)] := hl
  have hown : s.vm.findClass RX5 = some m.cls := hown
  have f_19 := hts (.fieldLink RX5 19 "JumpBoardModel" "count" "[I") (by decide +kernel)
  have in_X5 : ∀ w ∈ wsX50, w ∈ wsX5_moves := by decide +kernel
  refine lv_aload_n hx hb dX5_moves_0 rfl (lv_at hl 0 rfl) ?_
  refine lv_iconst (v := 0) hx hb dX5_moves_1 (by decide) ?_
  obtain ⟨R9, hR9, hG9⟩ := GS S 0 P (by decide) hrow hwf h7 h8
  refine mm_Vm (ci := 5) (As := [.int 0]) (rest := []) ⟨hx, hb, hml, hown, hts⟩ hK hV (c_genR l D dA (p0 := 0) (RG := R9) 0 i_ob m_ob hA h7 h8 rfl (by decide) hR9) (cwV 1 hts gX5_moves_X5_generate rfl rfl rfl (by decide +kernel) (mm_levR hR (by omega) (by decide))) i_ob m_ob rfl rfl hl.1 rfl (Nat.le_of_ble_eq_true rfl) dX5_moves_2 ⟨Nat.zero_le _, Nat.zero_le _⟩ (fun M_1 H locs hp9 hV => ?_)
  obtain ⟨S2, hE9, hA, m_ob, fR9⟩ := hp9
  have fR : rF L ad ob M M_1 := fR.tr fR9
  have hG2 : GenP S2 S 0 P := hE9.G hG9
  refine lv_aload_n hx hb dX5_moves_5 rfl (lv_at hl 0 rfl) ?_
  refine mm_get (ci := 5) (C := RX5) (T := TX5) (N := 20) hx hb hts in_X5 hown hK hV i_ob m_ob rfl 3 (by decide) f_19 (fun _ h => h) rfl dX5_moves_6 ?_
  refine lv_iconst (v := 0) hx hb dX5_moves_9 (by decide) ?_
  refine mm_ialdN (j := 0) hx hb hK hV (hA.i 3 rfl) (show M_1 (ad 3) = .inl (dA 0, 6, .inl (S2 3)) from hA.m 3 rfl) rfl (by decide) (by decide) dX5_moves_10 ?_
  exact hret (v := (S2 3) 0) dX5_moves_11 hV (by decide) (by decide) ⟨rfl, hG2.1.1, S2, hG2, hA, m_ob, fR⟩

set_option maxHeartbeats 1000000 in
set_option maxRecDepth 100000 in
theorem c_moveR (l : Launch) (D : va_G) (dA : Nat → ClassId) {L : List Nat} {M : mm_M} {ob : Nat} {ad : Nat → Nat} {S : Nat → Nat → Int32} {pl qu so : Int32} {P : Ps} {WF : Ps → Prop} (x1 x2 : Int32) (i_ob : ob ∈ L) (m_ob : M ob = rO ad pl qu so) (hA : rA dA L M ad S) (h7 : S 7 = nearR) (h8 : S 8 = farR) (GS : GenSem WF) (hrow : rowOK S 0 P) (hwf : WF P) : mm_Cn l D dA yX5_move wsX5_move 5 [.ref ob, .int x1, .int x2] L M (fun r M1 => r = moveVR P x1 x2 ∧ ∃ S1, (S1 = S ∨ GenP S1 S 0 P) ∧ rA dA L M1 ad S1 ∧ M1 ob = rO ad pl qu so ∧ rF L ad ob M M1) := by
  have hA0 := hA
  have m_ob0 := m_ob
  have fR : rF L ad ob M M := rF.rf
  refine mm_enter_i (cc := cX5_move) (maxL := 4) (by decide) rfl (Nat.le_of_ble_eq_true rfl) ?_
  intro p e R s m args below meth c A ls H locs Q hR hx hb hml hin hown hts hK hV hl hret
  have hl : lv_has ls 4 [(0, .ref ob), (1, .int x1), (2, .int x2)] := hl
  have hown : s.vm.findClass RX5 = some m.cls := hown
  have f_16 := hts (.fieldLink RX5 16 "JumpBoardModel" "list" "[I") (by decide +kernel)
  have in_X5 : ∀ w ∈ wsX50, w ∈ wsX5_move := by decide +kernel
  refine lv_iload_n hx hb dX5_move_0 rfl (lv_at hl 1 rfl) ?_
  refine lv_if_lt (tgt := 21) hx hb dX5_move_1 (by decide) (fun c1 => ?_) (fun c1 => ?_)
  · refine lv_iconst (v := (-1)) hx hb dX5_move_21 (by decide) ?_
    exact hret (v := (-1)) dX5_move_22 hV (by decide) (by decide) ⟨rfl, by unfold moveVR; rw [if_pos c1], S, Or.inl rfl, hA, m_ob, fR⟩
  · obtain ⟨i, hi31, hxi⟩ := nI_of c1
    refine lv_iload_n hx hb dX5_move_4 rfl (lv_at hl 1 rfl) ?_
    refine lv_aload_n hx hb dX5_move_5 rfl (lv_at hl 0 rfl) ?_
    refine mm_Vn (ci := 5) (As := []) (rest := [.int x1]) ⟨hx, hb, hml, hown, hts⟩ hK hV (c_movesR l D dA i_ob m_ob hA h7 h8 GS hrow hwf) (cwV 0 hts gX5_move_X5_moves rfl rfl rfl (by decide +kernel) (mm_levR hR (by omega) (by decide))) i_ob m_ob rfl rfl hl.1 rfl (Nat.le_of_ble_eq_true rfl) dX5_move_6 ⟨Nat.zero_le _, Nat.zero_le _⟩ (fun r9 M_1 H locs hp9 hV => ?_)
    obtain ⟨er9, S2, hG2, hA, m_ob, fR9⟩ := hp9
    have fR : rF L ad ob M M_1 := fR.tr fR9
    refine lv_icmp_ge (tgt := 21) hx hb dX5_move_9 (by decide) (fun c9 => ?_) (fun c9 => ?_)
    · refine lv_iconst (v := (-1)) hx hb dX5_move_21 (by decide) ?_
      exact hret (v := (-1)) dX5_move_22 hV (by decide) (by decide) ⟨rfl, by unfold moveVR; rw [if_neg c1, if_pos (by rw [← er9]; exact c9)], S2, Or.inr hG2, hA, m_ob, fR⟩
    · have hin9 : i < mvN P := (nI_ltI hi31 (by have := mvN_le P; omega)).mp (by rw [← hxi, ← er9]; exact Int32.not_le.mp c9)
      have hn72 := mvN_le P
      refine lv_iload_n hx hb dX5_move_12 rfl (lv_at hl 2 rfl) ?_
      refine lv_if_lt (tgt := 21) hx hb dX5_move_13 (by decide) (fun c13 => ?_) (fun c13 => ?_)
      · refine lv_iconst (v := (-1)) hx hb dX5_move_21 (by decide) ?_
        exact hret (v := (-1)) dX5_move_22 hV (by decide) (by decide) ⟨rfl, by unfold moveVR; rw [if_neg c1, if_neg (by rw [← er9]; exact c9), if_pos c13], S2, Or.inr hG2, hA, m_ob, fR⟩
      · refine lv_iload_n hx hb dX5_move_16 rfl (lv_at hl 2 rfl) ?_
        refine lv_iconst (v := 2) hx hb dX5_move_17 (by decide) ?_
        refine lv_icmp_le (tgt := 23) hx hb dX5_move_18 (by decide) (fun c18 => ?_) (fun c18 => ?_)
        · refine lv_aload_n hx hb dX5_move_23 rfl (lv_at hl 0 rfl) ?_
          refine mm_get (ci := 5) (C := RX5) (T := TX5) (N := 20) hx hb hts in_X5 hown hK hV i_ob m_ob rfl 2 (by decide) f_16 (fun _ h => h) rfl dX5_move_24 ?_
          refine lv_iload_n hx hb dX5_move_27 rfl (lv_at hl 1 rfl) ?_
          refine mm_ialdN (j := i) hx hb hK hV (hA.i 2 rfl) (show M_1 (ad 2) = .inl (dA 0, 480, .inl (S2 2)) from hA.m 2 rfl) hxi (by omega) (by decide) dX5_move_28 ?_
          refine lv_topi (fun x3 ex3 => ?_)
          refine lv_istore_n (lv' := [(3, .int x3), (0, .ref ob), (1, .int x1), (2, .int x2)]) hx hb dX5_move_29 rfl hl (by decide) rfl (fun ls hl => ?_)
          have hk3 : mvpR P x1 = x3 := by unfold mvpR; rw [ex3, hxi, nI_clamp hi31, ← hG2.1.2 i hin9, Nat.mul_zero, Nat.zero_add]
          refine lv_iload_n hx hb dX5_move_30 rfl (lv_at hl 3 rfl) ?_
          refine lv_if_ne (tgt := 41) hx hb dX5_move_31 (by decide) (fun c31 => ?_) (fun c31 => ?_)
          · refine lv_iload_n hx hb dX5_move_41 rfl (lv_at hl 3 rfl) ?_
            refine lv_iconst (v := 1) hx hb dX5_move_42 (by decide) ?_
            refine lv_icmp_ne (tgt := 53) hx hb dX5_move_43 (by decide) (fun c43 => ?_) (fun c43 => ?_)
            · refine lv_iload_n hx hb dX5_move_53 rfl (lv_at hl 0 rfl) ?_
              refine lv_ldc hx hb hown (hts (.constant RX5 77 (262144)) (by decide +kernel)) dX5_move_54 ?_
              refine lv_irem hx hb dX5_move_56 (by decide) ?_
              exact hret (v := (x3 - x3 / 262144 * 262144)) dX5_move_57 hV (by decide) (by decide) ⟨rfl, by unfold moveVR; rw [if_neg c1, if_neg (by rw [← er9]; exact c9), if_neg c13, if_pos c18, if_neg c31, if_neg c43, hk3], S2, Or.inr hG2, hA, m_ob, fR⟩
            · refine lv_iload_n hx hb dX5_move_46 rfl (lv_at hl 0 rfl) ?_
              refine mm_Sp (v := (endR x3)) (As := [.int x3]) (rest := []) ⟨hx, hb, hml, hown, hts⟩ hK hV (c_endR l D dA x3) (va_cwS 1 hts gX5_move_X5_end rfl rfl rfl (by decide +kernel) (mm_levR hR (by omega) (by decide))) rfl hl.1 rfl (Nat.le_of_ble_eq_true rfl) dX5_move_47 ⟨Nat.zero_le _, Nat.zero_le _⟩ (fun H locs hV => ?_)
              refine lv_goto (tgt := 57) hx hb dX5_move_50 (by decide) ?_
              exact hret (v := endR x3) dX5_move_57 hV (by decide) (by decide) ⟨rfl, by unfold moveVR; rw [if_neg c1, if_neg (by rw [← er9]; exact c9), if_neg c13, if_pos c18, if_neg c31, if_pos c43, hk3], S2, Or.inr hG2, hA, m_ob, fR⟩
          · refine lv_iload_n hx hb dX5_move_34 rfl (lv_at hl 0 rfl) ?_
            refine mm_Sp (v := (begR x3)) (As := [.int x3]) (rest := []) ⟨hx, hb, hml, hown, hts⟩ hK hV (c_begR l D dA x3) (va_cwS 1 hts gX5_move_X5_beginning rfl rfl rfl (by decide +kernel) (mm_levR hR (by omega) (by decide))) rfl hl.1 rfl (Nat.le_of_ble_eq_true rfl) dX5_move_35 ⟨Nat.zero_le _, Nat.zero_le _⟩ (fun H locs hV => ?_)
            refine lv_goto (tgt := 57) hx hb dX5_move_38 (by decide) ?_
            exact hret (v := begR x3) dX5_move_57 hV (by decide) (by decide) ⟨rfl, by unfold moveVR; rw [if_neg c1, if_neg (by rw [← er9]; exact c9), if_neg c13, if_pos c18, if_pos c31, hk3], S2, Or.inr hG2, hA, m_ob, fR⟩
        · refine lv_iconst (v := (-1)) hx hb dX5_move_21 (by decide) ?_
          exact hret (v := (-1)) dX5_move_22 hV (by decide) (by decide) ⟨rfl, by unfold moveVR; rw [if_neg c1, if_neg (by rw [← er9]; exact c9), if_neg c13, if_neg c18], S2, Or.inr hG2, hA, m_ob, fR⟩

set_option maxHeartbeats 1000000 in
set_option maxRecDepth 100000 in
theorem c_overR (l : Launch) (D : va_G) (dA : Nat → ClassId) {L : List Nat} {M : mm_M} {ob : Nat} {ad : Nat → Nat} {S : Nat → Nat → Int32} {pl qu so : Int32} {P : Ps} {WF : Ps → Prop} (i_ob : ob ∈ L) (m_ob : M ob = rO ad pl qu so) (hA : rA dA L M ad S) (h7 : S 7 = nearR) (h8 : S 8 = farR) (GS : GenSem WF) (hrow : rowOK S 0 P) (hwf : WF P) : mm_Cn l D dA yX5_over wsX5_over 5 [.ref ob] L M (fun r M1 => r = overVR P qu ∧ ∃ S1, GenP S1 S 0 P ∧ rA dA L M1 ad S1 ∧ M1 ob = rO ad pl qu so ∧ rF L ad ob M M1) := by
  have hA0 := hA
  have m_ob0 := m_ob
  have fR : rF L ad ob M M := rF.rf
  refine mm_enter_i (cc := cX5_over) (maxL := 1) (by decide) rfl (Nat.le_of_ble_eq_true rfl) ?_
  intro p e R s m args below meth c A ls H locs Q hR hx hb hml hin hown hts hK hV hl hret
  have hl : lv_has ls 1 [(0, .ref ob)] := hl
  have hown : s.vm.findClass RX5 = some m.cls := hown
  have f_160 := hts (.fieldLink RX5 160 "JumpBoardModel" "quiet" "I") (by decide +kernel)
  have in_X5 : ∀ w ∈ wsX50, w ∈ wsX5_over := by decide +kernel
  have f_13 := hts (.fieldLink RX5 13 "JumpBoardModel" "mover" "[I") (by decide +kernel)
  refine lv_aload_n hx hb dX5_over_0 rfl (lv_at hl 0 rfl) ?_
  refine mm_Vn (ci := 5) (As := []) (rest := []) ⟨hx, hb, hml, hown, hts⟩ hK hV (c_movesR l D dA i_ob m_ob hA h7 h8 GS hrow hwf) (cwV 0 hts gX5_over_X5_moves rfl rfl rfl (by decide +kernel) (mm_levR hR (by omega) (by decide))) i_ob m_ob rfl rfl hl.1 rfl (Nat.le_of_ble_eq_true rfl) dX5_over_1 ⟨Nat.zero_le _, Nat.zero_le _⟩ (fun r9 M_1 H locs hp9 hV => ?_)
  obtain ⟨er9, S2, hG2, hA, m_ob, fR9⟩ := hp9
  have fR : rF L ad ob M M_1 := fR.tr fR9
  have hm9 : S2 1 0 = P.2.2.2.1 := (hG2.2.1.row (Nat.le_refl 0) hrow).2
  refine lv_if_ne (tgt := 22) hx hb dX5_over_4 (by decide) (fun c4 => ?_) (fun c4 => ?_)
  · refine lv_aload_n hx hb dX5_over_22 rfl (lv_at hl 0 rfl) ?_
    refine mm_get (ci := 5) (C := RX5) (T := TX5) (N := 20) hx hb hts in_X5 hown hK hV i_ob m_ob rfl 14 (by decide) f_160 (fun _ h => h) rfl dX5_over_23 ?_
    refine lv_bipush (v := 20) hx hb dX5_over_26 (by decide) ?_
    refine lv_icmp_lt (tgt := 35) hx hb dX5_over_28 (by decide) (fun c28 => ?_) (fun c28 => ?_)
    · refine lv_iconst (v := 0) hx hb dX5_over_35 (by decide) ?_
      exact hret (v := 0) dX5_over_36 hV (by decide) (by decide) ⟨rfl, by unfold overVR; rw [if_neg (by rw [← er9]; exact c4), if_pos c28], S2, hG2, hA, m_ob, fR⟩
    · refine lv_iconst (v := 3) hx hb dX5_over_31 (by decide) ?_
      refine lv_goto (tgt := 36) hx hb dX5_over_32 (by decide) ?_
      exact hret (v := 3) dX5_over_36 hV (by decide) (by decide) ⟨rfl, by unfold overVR; rw [if_neg (by rw [← er9]; exact c4), if_neg c28], S2, hG2, hA, m_ob, fR⟩
  · refine lv_aload_n hx hb dX5_over_7 rfl (lv_at hl 0 rfl) ?_
    refine mm_get (ci := 5) (C := RX5) (T := TX5) (N := 20) hx hb hts in_X5 hown hK hV i_ob m_ob rfl 1 (by decide) f_13 (fun _ h => h) rfl dX5_over_8 ?_
    refine lv_iconst (v := 0) hx hb dX5_over_11 (by decide) ?_
    refine mm_ialdN (j := 0) hx hb hK hV (hA.i 1 rfl) (show M_1 (ad 1) = .inl (dA 0, 6, .inl (S2 1)) from hA.m 1 rfl) rfl (by decide) (by decide) dX5_over_12 ?_
    refine lv_if_ne (tgt := 20) hx hb dX5_over_13 (by decide) (fun c13 => ?_) (fun c13 => ?_)
    · refine lv_iconst (v := 1) hx hb dX5_over_20 (by decide) ?_
      exact hret (v := 1) dX5_over_21 hV (by decide) (by decide) ⟨rfl, by unfold overVR; rw [if_pos (by rw [← er9]; exact c4), if_neg (by rw [← hm9]; exact c13)], S2, hG2, hA, m_ob, fR⟩
    · refine lv_iconst (v := 2) hx hb dX5_over_16 (by decide) ?_
      refine lv_goto (tgt := 21) hx hb dX5_over_17 (by decide) ?_
      exact hret (v := 2) dX5_over_21 hV (by decide) (by decide) ⟨rfl, by unfold overVR; rw [if_pos (by rw [← er9]; exact c4), if_pos (by rw [← hm9]; exact c13)], S2, hG2, hA, m_ob, fR⟩
