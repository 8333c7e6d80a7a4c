/-! JumpBoard: its cells stand at z 0 .. z 125: 0 the board, 1 2 3 the rules and their tables, 4 the line, 5 6 the list, 7 after, 8 lists, 9 spots, 10 + i the line's positions, 111 + 3 i the lists, 112 + 3 i their rows, 113 + 3 i the spots -/
def zW (L : List Nat) (z : Nat → Nat) : Prop := (∀ i, i < 126 → z i ∈ L) ∧ ∀ i j, i < 126 → j < 126 → z i = z j → i = j
theorem zW.ne {L : List Nat} {z : Nat → Nat} (h : zW L z) {i j : Nat} (hi : i < 126) (hj : j < 126) (hij : i ≠ j) : z i ≠ z j := fun e => hij (h.2 i j hi hj e)
def gzL (z : Nat → Nat) : Nat → Option Nat := fun i => if i < 101 then some (z (10 + i)) else none
def gzX (z : Nat → Nat) (a : Nat) : Nat → Option Nat := fun i => if i < 5 then some (z (a + 3 * i)) else none
theorem gzL_at {z : Nat → Nat} {i : Nat} (h : i < 101) : gzL z i = some (z (10 + i)) := by unfold gzL; rw [if_pos h]
theorem gzX_at {z : Nat → Nat} {a i : Nat} (h : i < 5) : gzX z a i = some (z (a + 3 * i)) := by unfold gzX; rw [if_pos h]
def jO (z : Nat → Nat) (ev : Value) (lt : Nat) : va_E := .inr (4, [.ref (z 1), ev, .ref (z 4), .int (nI lt), .ref (z 5), .ref (z 7), .ref (z 8), .ref (z 9)])
/-- what never changes -/
def jF (dA : Nat → ClassId) (M : mm_M) (z : Nat → Nat) : Prop := M (z 1) = .inr (3, [.ref (z 2), .ref (z 3)]) ∧ M (z 2) = .inl (dA 0, 72, .inl nearT) ∧ M (z 3) = .inl (dA 0, 72, .inl behT) ∧ M (z 4) = .inl (dA 4, 101, .inr (.inr (.inr (.inr (gzL z))))) ∧ M (z 8) = .inl (dA 5, 5, .inr (.inr (.inr (.inr (gzX z 111))))) ∧ M (z 9) = .inl (dA 4, 5, .inr (.inr (.inr (.inr (gzX z 113)))))
def isSqF (x : Int32) : Int32 := if x < 0 then 0 else (if 18 ≤ x then 0 else 1)
def isDpF (x : Int32) : Int32 := if x < 0 then 0 else (if 4 < x then 0 else 1)
def wvF (x : Int32) : Int32 := if x = -100 then -1000 else if x ≤ 0 then (if 0 ≤ x then 0 else -x - 1000) else 1000 - x
def quietP (P : Ps) : Ps := (P.1, P.2.1, P.2.2.1, P.2.2.2.1, 0)
def moverP (P : Ps) (x : Int32) : Ps := (P.1, P.2.1, P.2.2.1, x, P.2.2.2.2)
def overF (P : Ps) : Int32 := if canM P = 0 then (if P.2.2.2.1 = 0 then 2 else 1) else (if P.2.2.2.2 < 20 then 0 else 3)

set_option maxHeartbeats 1000000 in
set_option maxRecDepth 100000 in
theorem c_isSq (l : Launch) (D : va_G) (dA : Nat → ClassId) {L : List Nat} {M : mm_M} (x : Int32)  : mm_Cp l D dA yX4_isSquare wsX4_isSquare 0 [.int x] L M (isSqF x) := by
  refine mm_enter_z (cc := cX4_isSquare) (maxL := 1) (by decide) rfl (Nat.le_of_ble_eq_true rfl) ?_
  intro p e R s m args below meth c A ls H locs Q hR hx hb hml hin hown hts hK hV hl hret
  have hl : lv_has ls 1 [(0, .int x)] := hl
  have hown : s.vm.findClass RX4 = some m.cls := hown
  refine lv_iload_n hx hb dX4_isSquare_0 rfl (lv_at hl 0 rfl) ?_
  have J15 : ∀ (v15_1 : Int32), v15_1 = (if x < 0 then 0 else (if 18 ≤ x then 0 else 1)) → W p l e R s m args below meth c H locs 0 0 Q (F0 m 15 ls [.int v15_1]) := by
    intro v15_1 ev15_1
    exact hret (v := v15_1) dX4_isSquare_15 hV (by decide) (by decide) (by subst_vars; (repeat' split) <;> first | exact Or.inl rfl | exact Or.inr rfl) ⟨by subst_vars; rfl, rfl, rfl⟩
  refine lv_if_lt (tgt := 14) hx hb dX4_isSquare_1 (by decide) (fun c1 => ?_) (fun c1 => ?_)
  · refine lv_iconst (v := 0) hx hb dX4_isSquare_14 (by decide) ?_
    exact J15 _ (by rw [if_pos c1])
  · refine lv_iload_n hx hb dX4_isSquare_4 rfl (lv_at hl 0 rfl) ?_
    refine lv_bipush (v := 18) hx hb dX4_isSquare_5 (by decide) ?_
    refine lv_icmp_ge (tgt := 14) hx hb dX4_isSquare_7 (by decide) (fun c7 => ?_) (fun c7 => ?_)
    · refine lv_iconst (v := 0) hx hb dX4_isSquare_14 (by decide) ?_
      exact J15 _ (by rw [if_neg c1, if_pos c7])
    · refine lv_iconst (v := 1) hx hb dX4_isSquare_10 (by decide) ?_
      refine lv_goto (tgt := 15) hx hb dX4_isSquare_11 (by decide) ?_
      exact J15 _ (by rw [if_neg c1, if_neg c7])

set_option maxHeartbeats 1000000 in
set_option maxRecDepth 100000 in
theorem c_isDp (l : Launch) (D : va_G) (dA : Nat → ClassId) {L : List Nat} {M : mm_M} (x : Int32)  : mm_Cp l D dA yX4_isDepth wsX4_isDepth 0 [.int x] L M (isDpF x) := by
  refine mm_enter_z (cc := cX4_isDepth) (maxL := 1) (by decide) rfl (Nat.le_of_ble_eq_true rfl) ?_
  intro p e R s m args below meth c A ls H locs Q hR hx hb hml hin hown hts hK hV hl hret
  have hl : lv_has ls 1 [(0, .int x)] := hl
  have hown : s.vm.findClass RX4 = some m.cls := hown
  refine lv_iload_n hx hb dX4_isDepth_0 rfl (lv_at hl 0 rfl) ?_
  have J14 : ∀ (v14_1 : Int32), v14_1 = (if x < 0 then 0 else (if 4 < x then 0 else 1)) → W p l e R s m args below meth c H locs 0 0 Q (F0 m 14 ls [.int v14_1]) := by
    intro v14_1 ev14_1
    exact hret (v := v14_1) dX4_isDepth_14 hV (by decide) (by decide) (by subst_vars; (repeat' split) <;> first | exact Or.inl rfl | exact Or.inr rfl) ⟨by subst_vars; rfl, rfl, rfl⟩
  refine lv_if_lt (tgt := 13) hx hb dX4_isDepth_1 (by decide) (fun c1 => ?_) (fun c1 => ?_)
  · refine lv_iconst (v := 0) hx hb dX4_isDepth_13 (by decide) ?_
    exact J14 _ (by rw [if_pos c1])
  · refine lv_iload_n hx hb dX4_isDepth_4 rfl (lv_at hl 0 rfl) ?_
    refine lv_iconst (v := 4) hx hb dX4_isDepth_5 (by decide) ?_
    refine lv_icmp_gt (tgt := 13) hx hb dX4_isDepth_6 (by decide) (fun c6 => ?_) (fun c6 => ?_)
    · refine lv_iconst (v := 0) hx hb dX4_isDepth_13 (by decide) ?_
      exact J14 _ (by rw [if_neg c1, if_pos c6])
    · refine lv_iconst (v := 1) hx hb dX4_isDepth_9 (by decide) ?_
      refine lv_goto (tgt := 14) hx hb dX4_isDepth_10 (by decide) ?_
      exact J14 _ (by rw [if_neg c1, if_neg c6])

set_option maxHeartbeats 1000000 in
set_option maxRecDepth 100000 in
theorem c_wv (l : Launch) (D : va_G) (dA : Nat → ClassId) {L : List Nat} {M : mm_M} (x : Int32)  : mm_Cp l D dA yX4_weighVerdict wsX4_weighVerdict 0 [.int x] L M (wvF x) := by
  refine mm_enter_i (cc := cX4_weighVerdict) (maxL := 1) (by decide) rfl (Nat.le_of_ble_eq_true rfl) ?_
  intro p e R s m args below meth c A ls H locs Q hR hx hb hml hin hown hts hK hV hl hret
  have hl : lv_has ls 1 [(0, .int x)] := hl
  have hown : s.vm.findClass RX4 = some m.cls := hown
  refine lv_iload_n hx hb dX4_weighVerdict_0 rfl (lv_at hl 0 rfl) ?_
  refine lv_bipush (v := (-100)) hx hb dX4_weighVerdict_1 (by decide) ?_
  refine lv_icmp_ne (tgt := 10) hx hb dX4_weighVerdict_3 (by decide) (fun c3 => ?_) (fun c3 => ?_)
  · refine lv_iload_n hx hb dX4_weighVerdict_10 rfl (lv_at hl 0 rfl) ?_
    refine lv_if_le (tgt := 20) hx hb dX4_weighVerdict_11 (by decide) (fun c11 => ?_) (fun c11 => ?_)
    · refine lv_iload_n hx hb dX4_weighVerdict_20 rfl (lv_at hl 0 rfl) ?_
      have J34 : ∀ (v34 : Int32), v34 = (if 0 ≤ x then 0 else ((-x) - 1000)) → W p l e R s m args below meth c H locs 0 0 Q (F0 m 34 ls [.int v34]) := by
        intro v34 ev34
        exact hret (v := v34) dX4_weighVerdict_34 hV (by decide) (by decide) ⟨by rw [ev34]; unfold wvF; simp only [c3, c11, ↓reduceIte], rfl, rfl⟩
      refine lv_if_ge (tgt := 33) hx hb dX4_weighVerdict_21 (by decide) (fun c21 => ?_) (fun c21 => ?_)
      · refine lv_iconst (v := 0) hx hb dX4_weighVerdict_33 (by decide) ?_
        exact J34 _ (by rw [if_pos c21])
      · refine lv_iload_n hx hb dX4_weighVerdict_24 rfl (lv_at hl 0 rfl) ?_
        refine lv_ineg hx hb dX4_weighVerdict_25 ?_
        refine lv_sipush (v := 1000) hx hb dX4_weighVerdict_26 (by decide) ?_
        refine lv_isub hx hb dX4_weighVerdict_29 ?_
        refine lv_goto (tgt := 34) hx hb dX4_weighVerdict_30 (by decide) ?_
        exact J34 _ (by rw [if_neg c21])
    · refine lv_sipush (v := 1000) hx hb dX4_weighVerdict_14 (by decide) ?_
      refine lv_iload_n hx hb dX4_weighVerdict_17 rfl (lv_at hl 0 rfl) ?_
      refine lv_isub hx hb dX4_weighVerdict_18 ?_
      exact hret (v := (1000 - x)) dX4_weighVerdict_19 hV (by decide) (by decide) ⟨by unfold wvF; simp only [c3, c11, ↓reduceIte], rfl, rfl⟩
  · refine lv_sipush (v := (-1000)) hx hb dX4_weighVerdict_6 (by decide) ?_
    exact hret (v := (-1000)) dX4_weighVerdict_9 hV (by decide) (by decide) ⟨by unfold wvF; simp only [c3, ↓reduceIte], rfl, rfl⟩

set_option maxHeartbeats 1000000 in
set_option maxRecDepth 100000 in
theorem c_copy_self (l : Launch) (D : va_G) (dA : Nat → ClassId) {L : List Nat} {M : mm_M} {a : Nat} {P : Ps} (i_a : a ∈ L) (m_a : M a = oP P) : mm_Cm l D dA yX2_copy wsX2_copy 0 [.ref a, .ref a] L M (fun M1 => M1 = va_up M a (oP P)) := by
  have m_a : M a = .inr (2, [.int P.1, .int P.2.1, .int P.2.2.1, .int P.2.2.2.1, .int P.2.2.2.2]) := m_a
  refine mm_enter_v (cc := cX2_copy) (maxL := 2) (by decide) rfl (Nat.le_of_ble_eq_true rfl) ?_
  intro p e R s m args below meth c A ls H locs Q hR hx hb hml hin hown hts hK hV hl hret
  have hl : lv_has ls 2 [(0, .ref a), (1, .ref a)] := hl
  have hown : s.vm.findClass RX2 = some m.cls := hown
  have f_9 := hts (.fieldLink RX2 9 "JumpBoard$Position" "white" "I") (by decide +kernel)
  have in_X2 : ∀ w ∈ wsX20, w ∈ wsX2_copy := by decide +kernel
  have f_15 := hts (.fieldLink RX2 15 "JumpBoard$Position" "black" "I") (by decide +kernel)
  have f_18 := hts (.fieldLink RX2 18 "JumpBoard$Position" "kings" "I") (by decide +kernel)
  have f_21 := hts (.fieldLink RX2 21 "JumpBoard$Position" "mover" "I") (by decide +kernel)
  have f_24 := hts (.fieldLink RX2 24 "JumpBoard$Position" "kingSteps" "I") (by decide +kernel)
  refine lv_aload_n hx hb dX2_copy_0 rfl (lv_at hl 0 rfl) ?_
  refine lv_aload_n hx hb dX2_copy_1 rfl (lv_at hl 1 rfl) ?_
  refine mm_get (ci := 2) (C := RX2) (T := TX2) (N := 5) hx hb hts in_X2 hown hK hV i_a m_a rfl 0 (by decide) f_9 (fun _ h => h) rfl dX2_copy_2 ?_
  refine lv_topi (fun v_1 ev_1 => ?_)
  refine mm_put (ci := 2) (v := .int v_1) (fs' := [.int v_1, .int P.2.1, .int P.2.2.1, .int P.2.2.2.1, .int P.2.2.2.2]) (ty := .int) (C := RX2) (T := TX2) (N := 5) hx hb hts in_X2 tyX2 tyX2_ok nmX2 hown hK hV i_a m_a rfl 0 (by decide) f_9 (fun _ h => h) rfl (by decide +kernel) rfl rfl (Nat.le_of_ble_eq_true rfl) rfl dX2_copy_5 (fun M_2 H locs eM_2 hV => ?_)
  have m_a : M_2 a = .inr (2, [.int v_1, .int P.2.1, .int P.2.2.1, .int P.2.2.2.1, .int P.2.2.2.2]) := by rw [eM_2]; exact va_up_self _ _ _
  have fr : ∀ q : Nat, q ≠ a → M_2 q = M q := fun q h0 => (congrFun eM_2 q).trans ((va_up_ne _ _ h0).trans rfl)
  refine lv_aload_n hx hb dX2_copy_8 rfl (lv_at hl 0 rfl) ?_
  refine lv_aload_n hx hb dX2_copy_9 rfl (lv_at hl 1 rfl) ?_
  refine mm_get (ci := 2) (C := RX2) (T := TX2) (N := 5) hx hb hts in_X2 hown hK hV i_a m_a rfl 1 (by decide) f_15 (fun _ h => h) rfl dX2_copy_10 ?_
  refine lv_topi (fun v_3 ev_3 => ?_)
  refine mm_put (ci := 2) (v := .int v_3) (fs' := [.int v_1, .int v_3, .int P.2.2.1, .int P.2.2.2.1, .int P.2.2.2.2]) (ty := .int) (C := RX2) (T := TX2) (N := 5) hx hb hts in_X2 tyX2 tyX2_ok nmX2 hown hK hV i_a m_a rfl 1 (by decide) f_15 (fun _ h => h) rfl (by decide +kernel) rfl rfl (Nat.le_of_ble_eq_true rfl) rfl dX2_copy_13 (fun M_4 H locs eM_4 hV => ?_)
  have m_a : M_4 a = .inr (2, [.int v_1, .int v_3, .int P.2.2.1, .int P.2.2.2.1, .int P.2.2.2.2]) := by rw [eM_4]; exact va_up_self _ _ _
  have fr : ∀ q : Nat, q ≠ a → M_4 q = M q := fun q h0 => (congrFun eM_4 q).trans ((va_up_ne _ _ h0).trans (fr q h0))
  refine lv_aload_n hx hb dX2_copy_16 rfl (lv_at hl 0 rfl) ?_
  refine lv_aload_n hx hb dX2_copy_17 rfl (lv_at hl 1 rfl) ?_
  refine mm_get (ci := 2) (C := RX2) (T := TX2) (N := 5) hx hb hts in_X2 hown hK hV i_a m_a rfl 2 (by decide) f_18 (fun _ h => h) rfl dX2_copy_18 ?_
  refine lv_topi (fun v_5 ev_5 => ?_)
  refine mm_put (ci := 2) (v := .int v_5) (fs' := [.int v_1, .int v_3, .int v_5, .int P.2.2.2.1, .int P.2.2.2.2]) (ty := .int) (C := RX2) (T := TX2) (N := 5) hx hb hts in_X2 tyX2 tyX2_ok nmX2 hown hK hV i_a m_a rfl 2 (by decide) f_18 (fun _ h => h) rfl (by decide +kernel) rfl rfl (Nat.le_of_ble_eq_true rfl) rfl dX2_copy_21 (fun M_6 H locs eM_6 hV => ?_)
  have m_a : M_6 a = .inr (2, [.int v_1, .int v_3, .int v_5, .int P.2.2.2.1, .int P.2.2.2.2]) := by rw [eM_6]; exact va_up_self _ _ _
  have fr : ∀ q : Nat, q ≠ a → M_6 q = M q := fun q h0 => (congrFun eM_6 q).trans ((va_up_ne _ _ h0).trans (fr q h0))
  refine lv_aload_n hx hb dX2_copy_24 rfl (lv_at hl 0 rfl) ?_
  refine lv_aload_n hx hb dX2_copy_25 rfl (lv_at hl 1 rfl) ?_
  refine mm_get (ci := 2) (C := RX2) (T := TX2) (N := 5) hx hb hts in_X2 hown hK hV i_a m_a rfl 3 (by decide) f_21 (fun _ h => h) rfl dX2_copy_26 ?_
  refine lv_topi (fun v_7 ev_7 => ?_)
  refine mm_put (ci := 2) (v := .int v_7) (fs' := [.int v_1, .int v_3, .int v_5, .int v_7, .int P.2.2.2.2]) (ty := .int) (C := RX2) (T := TX2) (N := 5) hx hb hts in_X2 tyX2 tyX2_ok nmX2 hown hK hV i_a m_a rfl 3 (by decide) f_21 (fun _ h => h) rfl (by decide +kernel) rfl rfl (Nat.le_of_ble_eq_true rfl) rfl dX2_copy_29 (fun M_8 H locs eM_8 hV => ?_)
  have m_a : M_8 a = .inr (2, [.int v_1, .int v_3, .int v_5, .int v_7, .int P.2.2.2.2]) := by rw [eM_8]; exact va_up_self _ _ _
  have fr : ∀ q : Nat, q ≠ a → M_8 q = M q := fun q h0 => (congrFun eM_8 q).trans ((va_up_ne _ _ h0).trans (fr q h0))
  refine lv_aload_n hx hb dX2_copy_32 rfl (lv_at hl 0 rfl) ?_
  refine lv_aload_n hx hb dX2_copy_33 rfl (lv_at hl 1 rfl) ?_
  refine mm_get (ci := 2) (C := RX2) (T := TX2) (N := 5) hx hb hts in_X2 hown hK hV i_a m_a rfl 4 (by decide) f_24 (fun _ h => h) rfl dX2_copy_34 ?_
  refine lv_topi (fun v_9 ev_9 => ?_)
  refine mm_put (ci := 2) (v := .int v_9) (fs' := [.int v_1, .int v_3, .int v_5, .int v_7, .int v_9]) (ty := .int) (C := RX2) (T := TX2) (N := 5) hx hb hts in_X2 tyX2 tyX2_ok nmX2 hown hK hV i_a m_a rfl 4 (by decide) f_24 (fun _ h => h) rfl (by decide +kernel) rfl rfl (Nat.le_of_ble_eq_true rfl) rfl dX2_copy_37 (fun M_10 H locs eM_10 hV => ?_)
  have m_a : M_10 a = .inr (2, [.int v_1, .int v_3, .int v_5, .int v_7, .int v_9]) := by rw [eM_10]; exact va_up_self _ _ _
  have fr : ∀ q : Nat, q ≠ a → M_10 q = M q := fun q h0 => (congrFun eM_10 q).trans ((va_up_ne _ _ h0).trans (fr q h0))
  exact hret dX2_copy_40 hV (by decide) (by decide) ⟨rfl, mm_fin1 (by rw [m_a]; subst_vars; rfl) fr⟩

set_option maxHeartbeats 1000000 in
set_option maxRecDepth 100000 in
theorem c_at (l : Launch) (D : va_G) (dA : Nat → ClassId) {L : List Nat} {M : mm_M} {z : Nat → Nat} {ev : Value} {lt : Nat} {P : Ps} (x : Int32) (hz : zW L z) (m_0 : M (z 0) = jO z ev lt) (m_4 : M (z 4) = .inl (dA 4, 101, .inr (.inr (.inr (.inr (gzL z)))))) (hlt : lt ≤ 100) (m_p : M (z (10 + lt)) = oP P) : mm_Cp l D dA yX4_at wsX4_at 1 [.ref (z 0), .int x] L M (if isSqF x = 0 then -1 else pieceP P ((1 : Int32) <<< (x &&& 31))) := by
  have m_0 : M (z 0) = .inr (4, [.ref (z 1), ev, .ref (z 4), .int (nI lt), .ref (z 5), .ref (z 7), .ref (z 8), .ref (z 9)]) := m_0
  have m_p : M (z (10 + lt)) = .inr (2, [.int P.1, .int P.2.1, .int P.2.2.1, .int P.2.2.2.1, .int P.2.2.2.2]) := m_p
  refine mm_enter_i (cc := cX4_at) (maxL := 2) (by decide) rfl (Nat.le_of_ble_eq_true rfl) ?_
  intro p e R s m args below meth c A ls H locs Q hR hx hb hml hin hown hts hK hV hl hret
  have hl : lv_has ls 2 [(0, .ref (z 0)), (1, .int x)] := hl
  have hown : s.vm.findClass RX4 = some m.cls := hown
  have f_22 := hts (.fieldLink RX4 22 "JumpBoard" "line" "[LJumpBoard$Position;") (by decide +kernel)
  have in_X4 : ∀ w ∈ wsX40, w ∈ wsX4_at := by decide +kernel
  have f_26 := hts (.fieldLink RX4 26 "JumpBoard" "latest" "I") (by decide +kernel)
  refine lv_iload_n hx hb dX4_at_0 rfl (lv_at hl 1 rfl) ?_
  refine mm_Sp (v := (isSqF x)) (As := [.int x]) (rest := []) ⟨hx, hb, hml, hown, hts⟩ hK hV (c_isSq l D dA x) (va_cwS 1 hts gX4_at_X4_isSquare rfl rfl rfl (by decide +kernel) (mm_levR hR (by omega) (by decide))) rfl hl.1 rfl (Nat.le_of_ble_eq_true rfl) dX4_at_1 ⟨Nat.zero_le _, Nat.zero_le _⟩ (fun H locs hV => ?_)
  have J26 : ∀ (v26 : Int32) (H : Heap) (locs : List Loc), v26 = (if isSqF x = 0 then (-1) else (pieceP P (1 <<< (x &&& 31)))) → mm_V A D L M s H locs → W p l e R s m args below meth c H locs 0 0 Q (F0 m 26 ls [.int v26]) := by
    intro v26 H locs ev26 hV
    exact hret (v := v26) dX4_at_26 hV (by decide) (by decide) ⟨ev26, rfl, rfl⟩
  refine lv_if_eq (tgt := 25) hx hb dX4_at_4 (by decide) (fun c4 => ?_) (fun c4 => ?_)
  · refine lv_iconst (v := (-1)) hx hb dX4_at_25 (by decide) ?_
    exact J26 _ _ _ (by rw [if_pos c4]) hV
  · refine lv_aload_n hx hb dX4_at_7 rfl (lv_at hl 0 rfl) ?_
    refine mm_get (ci := 4) (C := RX4) (T := TX4) (N := 8) hx hb hts in_X4 hown hK hV (hz.1 0 (by omega)) m_0 rfl 2 (by decide) f_22 (fun _ h => h) rfl dX4_at_8 ?_
    refine lv_aload_n hx hb dX4_at_11 rfl (lv_at hl 0 rfl) ?_
    refine mm_get (ci := 4) (C := RX4) (T := TX4) (N := 8) hx hb hts in_X4 hown hK hV (hz.1 0 (by omega)) m_0 rfl 3 (by decide) f_26 (fun _ h => h) rfl dX4_at_12 ?_
    refine mm_aaldN (j := lt) (b := (z (10 + lt))) hx hb hK hV 4 (hz.1 4 (by omega)) m_4 rfl rfl (by omega) (by decide) (gzL_at (by omega)) dX4_at_15 ?_
    refine lv_iconst (v := 1) hx hb dX4_at_16 (by decide) ?_
    refine lv_iload_n hx hb dX4_at_17 rfl (lv_at hl 1 rfl) ?_
    refine lv_ishl hx hb dX4_at_18 ?_
    refine mm_Vp (v := (pieceP P (1 <<< (x &&& 31)))) (ci := 2) (As := [.int (1 <<< (x &&& 31))]) (rest := []) ⟨hx, hb, hml, hown, hts⟩ hK hV (c_pieceOn l D dA (P := P) (1 <<< (x &&& 31)) (hz.1 (10 + lt) (by omega)) m_p) (cwV 1 hts gX4_at_X2_pieceOn rfl rfl rfl (by decide +kernel) (mm_levR hR (by omega) (by decide))) (hz.1 (10 + lt) (by omega)) m_p rfl rfl hl.1 rfl (Nat.le_of_ble_eq_true rfl) dX4_at_19 ⟨Nat.zero_le _, Nat.zero_le _⟩ (fun H locs hV => ?_)
    refine lv_goto (tgt := 26) hx hb dX4_at_22 (by decide) ?_
    exact J26 _ _ _ (by rw [if_neg c4]) hV

set_option maxHeartbeats 1000000 in
set_option maxRecDepth 100000 in
theorem c_side (l : Launch) (D : va_G) (dA : Nat → ClassId) {L : List Nat} {M : mm_M} {z : Nat → Nat} {ev : Value} {lt : Nat} {P : Ps} (hz : zW L z) (m_0 : M (z 0) = jO z ev lt) (m_4 : M (z 4) = .inl (dA 4, 101, .inr (.inr (.inr (.inr (gzL z)))))) (hlt : lt ≤ 100) (m_p : M (z (10 + lt)) = oP P) : mm_Cp l D dA yX4_side wsX4_side 0 [.ref (z 0)] L M P.2.2.2.1 := by
  have m_0 : M (z 0) = .inr (4, [.ref (z 1), ev, .ref (z 4), .int (nI lt), .ref (z 5), .ref (z 7), .ref (z 8), .ref (z 9)]) := m_0
  have m_p : M (z (10 + lt)) = .inr (2, [.int P.1, .int P.2.1, .int P.2.2.1, .int P.2.2.2.1, .int P.2.2.2.2]) := m_p
  refine mm_enter_i (cc := cX4_side) (maxL := 1) (by decide) rfl (Nat.le_of_ble_eq_true rfl) ?_
  intro p e R s m args below meth c A ls H locs Q hR hx hb hml hin hown hts hK hV hl hret
  have hl : lv_has ls 1 [(0, .ref (z 0))] := hl
  have hown : s.vm.findClass RX4 = some m.cls := hown
  have f_22 := hts (.fieldLink RX4 22 "JumpBoard" "line" "[LJumpBoard$Position;") (by decide +kernel)
  have in_X4 : ∀ w ∈ wsX40, w ∈ wsX4_side := by decide +kernel
  have f_26 := hts (.fieldLink RX4 26 "JumpBoard" "latest" "I") (by decide +kernel)
  have f_67 := hts (.fieldLink RX4 67 "JumpBoard$Position" "mover" "I") (by decide +kernel)
  have in_X2 : ∀ w ∈ wsX20, w ∈ wsX4_side := by decide +kernel
  refine lv_aload_n hx hb dX4_side_0 rfl (lv_at hl 0 rfl) ?_
  refine mm_get (ci := 4) (C := RX4) (T := TX4) (N := 8) hx hb hts in_X4 hown hK hV (hz.1 0 (by omega)) m_0 rfl 2 (by decide) f_22 (fun _ h => h) rfl dX4_side_1 ?_
  refine lv_aload_n hx hb dX4_side_4 rfl (lv_at hl 0 rfl) ?_
  refine mm_get (ci := 4) (C := RX4) (T := TX4) (N := 8) hx hb hts in_X4 hown hK hV (hz.1 0 (by omega)) m_0 rfl 3 (by decide) f_26 (fun _ h => h) rfl dX4_side_5 ?_
  refine mm_aaldN (j := lt) (b := (z (10 + lt))) hx hb hK hV 4 (hz.1 4 (by omega)) m_4 rfl rfl (by omega) (by decide) (gzL_at (by omega)) dX4_side_8 ?_
  refine mm_get (ci := 2) (C := RX2) (T := TX2) (N := 5) hx hb hts in_X2 hown hK hV (hz.1 (10 + lt) (by omega)) m_p rfl 3 (by decide) f_67 (fun _ h => h) rfl dX4_side_9 ?_
  exact hret (v := P.2.2.2.1) dX4_side_12 hV (by decide) (by decide) ⟨rfl, rfl, rfl⟩

set_option maxHeartbeats 1000000 in
set_option maxRecDepth 100000 in
theorem c_quiet (l : Launch) (D : va_G) (dA : Nat → ClassId) {L : List Nat} {M : mm_M} {z : Nat → Nat} {ev : Value} {lt : Nat} {P : Ps} (hz : zW L z) (m_0 : M (z 0) = jO z ev lt) (m_4 : M (z 4) = .inl (dA 4, 101, .inr (.inr (.inr (.inr (gzL z)))))) (hlt : lt ≤ 100) (m_p : M (z (10 + lt)) = oP P) : mm_Cp l D dA yX4_quiet wsX4_quiet 0 [.ref (z 0)] L M P.2.2.2.2 := by
  have m_0 : M (z 0) = .inr (4, [.ref (z 1), ev, .ref (z 4), .int (nI lt), .ref (z 5), .ref (z 7), .ref (z 8), .ref (z 9)]) := m_0
  have m_p : M (z (10 + lt)) = .inr (2, [.int P.1, .int P.2.1, .int P.2.2.1, .int P.2.2.2.1, .int P.2.2.2.2]) := m_p
  refine mm_enter_i (cc := cX4_quiet) (maxL := 1) (by decide) rfl (Nat.le_of_ble_eq_true rfl) ?_
  intro p e R s m args below meth c A ls H locs Q hR hx hb hml hin hown hts hK hV hl hret
  have hl : lv_has ls 1 [(0, .ref (z 0))] := hl
  have hown : s.vm.findClass RX4 = some m.cls := hown
  have f_22 := hts (.fieldLink RX4 22 "JumpBoard" "line" "[LJumpBoard$Position;") (by decide +kernel)
  have in_X4 : ∀ w ∈ wsX40, w ∈ wsX4_quiet := by decide +kernel
  have f_26 := hts (.fieldLink RX4 26 "JumpBoard" "latest" "I") (by decide +kernel)
  have f_114 := hts (.fieldLink RX4 114 "JumpBoard$Position" "kingSteps" "I") (by decide +kernel)
  have in_X2 : ∀ w ∈ wsX20, w ∈ wsX4_quiet := by decide +kernel
  refine lv_aload_n hx hb dX4_quiet_0 rfl (lv_at hl 0 rfl) ?_
  refine mm_get (ci := 4) (C := RX4) (T := TX4) (N := 8) hx hb hts in_X4 hown hK hV (hz.1 0 (by omega)) m_0 rfl 2 (by decide) f_22 (fun _ h => h) rfl dX4_quiet_1 ?_
  refine lv_aload_n hx hb dX4_quiet_4 rfl (lv_at hl 0 rfl) ?_
  refine mm_get (ci := 4) (C := RX4) (T := TX4) (N := 8) hx hb hts in_X4 hown hK hV (hz.1 0 (by omega)) m_0 rfl 3 (by decide) f_26 (fun _ h => h) rfl dX4_quiet_5 ?_
  refine mm_aaldN (j := lt) (b := (z (10 + lt))) hx hb hK hV 4 (hz.1 4 (by omega)) m_4 rfl rfl (by omega) (by decide) (gzL_at (by omega)) dX4_quiet_8 ?_
  refine mm_get (ci := 2) (C := RX2) (T := TX2) (N := 5) hx hb hts in_X2 hown hK hV (hz.1 (10 + lt) (by omega)) m_p rfl 4 (by decide) f_114 (fun _ h => h) rfl dX4_quiet_9 ?_
  exact hret (v := P.2.2.2.2) dX4_quiet_12 hV (by decide) (by decide) ⟨rfl, rfl, rfl⟩

set_option maxHeartbeats 1000000 in
set_option maxRecDepth 100000 in
theorem c_played (l : Launch) (D : va_G) (dA : Nat → ClassId) {L : List Nat} {M : mm_M} {z : Nat → Nat} {ev : Value} {lt : Nat} {P : Ps} (hz : zW L z) (m_0 : M (z 0) = jO z ev lt) (m_4 : M (z 4) = .inl (dA 4, 101, .inr (.inr (.inr (.inr (gzL z)))))) (hlt : lt ≤ 100) (m_p : M (z (10 + lt)) = oP P) : mm_Cp l D dA yX4_played wsX4_played 0 [.ref (z 0)] L M (nI lt) := by
  have m_0 : M (z 0) = .inr (4, [.ref (z 1), ev, .ref (z 4), .int (nI lt), .ref (z 5), .ref (z 7), .ref (z 8), .ref (z 9)]) := m_0
  have m_p : M (z (10 + lt)) = .inr (2, [.int P.1, .int P.2.1, .int P.2.2.1, .int P.2.2.2.1, .int P.2.2.2.2]) := m_p
  refine mm_enter_i (cc := cX4_played) (maxL := 1) (by decide) rfl (Nat.le_of_ble_eq_true rfl) ?_
  intro p e R s m args below meth c A ls H locs Q hR hx hb hml hin hown hts hK hV hl hret
  have hl : lv_has ls 1 [(0, .ref (z 0))] := hl
  have hown : s.vm.findClass RX4 = some m.cls := hown
  have f_26 := hts (.fieldLink RX4 26 "JumpBoard" "latest" "I") (by decide +kernel)
  have in_X4 : ∀ w ∈ wsX40, w ∈ wsX4_played := by decide +kernel
  refine lv_aload_n hx hb dX4_played_0 rfl (lv_at hl 0 rfl) ?_
  refine mm_get (ci := 4) (C := RX4) (T := TX4) (N := 8) hx hb hts in_X4 hown hK hV (hz.1 0 (by omega)) m_0 rfl 3 (by decide) f_26 (fun _ h => h) rfl dX4_played_1 ?_
  exact hret (v := (nI lt)) dX4_played_4 hV (by decide) (by decide) ⟨rfl, rfl, rfl⟩

set_option maxHeartbeats 1000000 in
set_option maxRecDepth 100000 in
theorem c_over (l : Launch) (D : va_G) (dA : Nat → ClassId) {L : List Nat} {M : mm_M} {z : Nat → Nat} {ev : Value} {lt : Nat} {P : Ps} (hz : zW L z) (m_0 : M (z 0) = jO z ev lt) (m_4 : M (z 4) = .inl (dA 4, 101, .inr (.inr (.inr (.inr (gzL z)))))) (hlt : lt ≤ 100) (m_p : M (z (10 + lt)) = oP P) (hru : ruW dA L M (z 1) (z 2) (z 3)) : mm_Cp l D dA yX4_over wsX4_over 4 [.ref (z 0)] L M (overF P) := by
  have m_0 : M (z 0) = .inr (4, [.ref (z 1), ev, .ref (z 4), .int (nI lt), .ref (z 5), .ref (z 7), .ref (z 8), .ref (z 9)]) := m_0
  have m_p : M (z (10 + lt)) = .inr (2, [.int P.1, .int P.2.1, .int P.2.2.1, .int P.2.2.2.1, .int P.2.2.2.2]) := m_p
  have m_1 := hru.2.2.2.1
  refine mm_enter_i (cc := cX4_over) (maxL := 2) (by decide) rfl (Nat.le_of_ble_eq_true rfl) ?_
  intro p e R s m args below meth c A ls H locs Q hR hx hb hml hin hown hts hK hV hl hret
  have hl : lv_has ls 2 [(0, .ref (z 0))] := hl
  have hown : s.vm.findClass RX4 = some m.cls := hown
  have f_22 := hts (.fieldLink RX4 22 "JumpBoard" "line" "[LJumpBoard$Position;") (by decide +kernel)
  have in_X4 : ∀ w ∈ wsX40, w ∈ wsX4_over := by decide +kernel
  have f_26 := hts (.fieldLink RX4 26 "JumpBoard" "latest" "I") (by decide +kernel)
  have f_10 := hts (.fieldLink RX4 10 "JumpBoard" "rules" "LJumpBoard$Rules;") (by decide +kernel)
  have f_114 := hts (.fieldLink RX4 114 "JumpBoard$Position" "kingSteps" "I") (by decide +kernel)
  have in_X2 : ∀ w ∈ wsX20, w ∈ wsX4_over := by decide +kernel
  have f_67 := hts (.fieldLink RX4 67 "JumpBoard$Position" "mover" "I") (by decide +kernel)
  refine lv_aload_n hx hb dX4_over_0 rfl (lv_at hl 0 rfl) ?_
  refine mm_get (ci := 4) (C := RX4) (T := TX4) (N := 8) hx hb hts in_X4 hown hK hV (hz.1 0 (by omega)) m_0 rfl 2 (by decide) f_22 (fun _ h => h) rfl dX4_over_1 ?_
  refine lv_aload_n hx hb dX4_over_4 rfl (lv_at hl 0 rfl) ?_
  refine mm_get (ci := 4) (C := RX4) (T := TX4) (N := 8) hx hb hts in_X4 hown hK hV (hz.1 0 (by omega)) m_0 rfl 3 (by decide) f_26 (fun _ h => h) rfl dX4_over_5 ?_
  refine mm_aaldN (j := lt) (b := (z (10 + lt))) hx hb hK hV 4 (hz.1 4 (by omega)) m_4 rfl rfl (by omega) (by decide) (gzL_at (by omega)) dX4_over_8 ?_
  refine lv_astore_n (lv' := [(1, .ref (z (10 + lt))), (0, .ref (z 0))]) hx hb dX4_over_9 rfl hl (by decide) rfl (fun ls hl => ?_)
  refine lv_aload_n hx hb dX4_over_10 rfl (lv_at hl 1 rfl) ?_
  refine mm_get (ci := 4) (C := RX4) (T := TX4) (N := 8) hx hb hts in_X4 hown hK hV (hz.1 0 (by omega)) m_0 rfl 0 (by decide) f_10 (fun _ h => h) rfl dX4_over_11 ?_
  refine lv_aload_n hx hb dX4_over_14 rfl (lv_at hl 0 rfl) ?_
  refine mm_Vp (v := (canM P)) (ci := 3) (As := [.ref (z (10 + lt))]) (rest := []) ⟨hx, hb, hml, hown, hts⟩ hK hV (c_canMove l D dA hru (hz.1 (10 + lt) (by omega)) m_p) (cwV 1 hts gX4_over_X3_canMove rfl rfl rfl (by decide +kernel) (mm_levR hR (by omega) (by decide))) (hz.1 1 (by omega)) m_1 rfl rfl hl.1 rfl (Nat.le_of_ble_eq_true rfl) dX4_over_15 ⟨Nat.zero_le _, Nat.zero_le _⟩ (fun H locs hV => ?_)
  refine lv_if_ne (tgt := 34) hx hb dX4_over_18 (by decide) (fun c18 => ?_) (fun c18 => ?_)
  · refine lv_aload_n hx hb dX4_over_34 rfl (lv_at hl 0 rfl) ?_
    refine mm_get (ci := 2) (C := RX2) (T := TX2) (N := 5) hx hb hts in_X2 hown hK hV (hz.1 (10 + lt) (by omega)) m_p rfl 4 (by decide) f_114 (fun _ h => h) rfl dX4_over_35 ?_
    refine lv_bipush (v := 20) hx hb dX4_over_38 (by decide) ?_
    have J48 : ∀ (v48 : Int32), v48 = (if P.2.2.2.2 < 20 then 0 else 3) → W p l e R s m args below meth c H locs 0 0 Q (F0 m 48 ls [.int v48]) := by
      intro v48 ev48
      exact hret (v := v48) dX4_over_48 hV (by decide) (by decide) ⟨by rw [ev48, overF, if_neg c18], rfl, rfl⟩
    refine lv_icmp_lt (tgt := 47) hx hb dX4_over_40 (by decide) (fun c40 => ?_) (fun c40 => ?_)
    · refine lv_iconst (v := 0) hx hb dX4_over_47 (by decide) ?_
      exact J48 _ (by rw [if_pos c40])
    · refine lv_iconst (v := 3) hx hb dX4_over_43 (by decide) ?_
      refine lv_goto (tgt := 48) hx hb dX4_over_44 (by decide) ?_
      exact J48 _ (by rw [if_neg c40])
  · refine lv_aload_n hx hb dX4_over_21 rfl (lv_at hl 0 rfl) ?_
    refine mm_get (ci := 2) (C := RX2) (T := TX2) (N := 5) hx hb hts in_X2 hown hK hV (hz.1 (10 + lt) (by omega)) m_p rfl 3 (by decide) f_67 (fun _ h => h) rfl dX4_over_22 ?_
    have J33 : ∀ (v33 : Int32), v33 = (if P.2.2.2.1 = 0 then 2 else 1) → W p l e R s m args below meth c H locs 0 0 Q (F0 m 33 ls [.int v33]) := by
      intro v33 ev33
      exact hret (v := v33) dX4_over_33 hV (by decide) (by decide) ⟨by rw [ev33, overF, if_pos c18], rfl, rfl⟩
    refine lv_if_ne (tgt := 32) hx hb dX4_over_25 (by decide) (fun c25 => ?_) (fun c25 => ?_)
    · refine lv_iconst (v := 1) hx hb dX4_over_32 (by decide) ?_
      exact J33 _ (by rw [if_neg c25])
    · refine lv_iconst (v := 2) hx hb dX4_over_28 (by decide) ?_
      refine lv_goto (tgt := 33) hx hb dX4_over_29 (by decide) ?_
      exact J33 _ (by rw [if_pos c25])

set_option maxHeartbeats 1000000 in
set_option maxRecDepth 100000 in
theorem c_undo (l : Launch) (D : va_G) (dA : Nat → ClassId) {L : List Nat} {M : mm_M} {z : Nat → Nat} {ev : Value} {lt : Nat} {P : Ps} (hz : zW L z) (m_0 : M (z 0) = jO z ev lt) (m_4 : M (z 4) = .inl (dA 4, 101, .inr (.inr (.inr (.inr (gzL z)))))) (hlt : lt ≤ 100) (m_p : M (z (10 + lt)) = oP P) : mm_Cn l D dA yX4_undo wsX4_undo 0 [.ref (z 0)] L M (fun r M1 => r = (if lt = 0 then 0 else 1) ∧ M1 = if lt = 0 then M else va_up M (z 0) (jO z ev (lt - 1))) := by
  have m_0 : M (z 0) = .inr (4, [.ref (z 1), ev, .ref (z 4), .int (nI lt), .ref (z 5), .ref (z 7), .ref (z 8), .ref (z 9)]) := m_0
  have m_p : M (z (10 + lt)) = .inr (2, [.int P.1, .int P.2.1, .int P.2.2.1, .int P.2.2.2.1, .int P.2.2.2.2]) := m_p
  refine mm_enter_z (cc := cX4_undo) (maxL := 1) (by decide) rfl (Nat.le_of_ble_eq_true rfl) ?_
  intro p e R s m args below meth c A ls H locs Q hR hx hb hml hin hown hts hK hV hl hret
  have hl : lv_has ls 1 [(0, .ref (z 0))] := hl
  have hown : s.vm.findClass RX4 = some m.cls := hown
  have f_26 := hts (.fieldLink RX4 26 "JumpBoard" "latest" "I") (by decide +kernel)
  have in_X4 : ∀ w ∈ wsX40, w ∈ wsX4_undo := by decide +kernel
  refine lv_aload_n hx hb dX4_undo_0 rfl (lv_at hl 0 rfl) ?_
  refine mm_get (ci := 4) (C := RX4) (T := TX4) (N := 8) hx hb hts in_X4 hown hK hV (hz.1 0 (by omega)) m_0 rfl 3 (by decide) f_26 (fun _ h => h) rfl dX4_undo_1 ?_
  refine lv_if_ne (tgt := 9) hx hb dX4_undo_4 (by decide) (fun c4 => ?_) (fun c4 => ?_)
  · have hlt0 : ¬ lt = 0 := fun h => c4 (by rw [h]; rfl)
    refine lv_aload_n hx hb dX4_undo_9 rfl (lv_at hl 0 rfl) ?_
    refine lv_dup hx hb dX4_undo_10 rfl ?_
    refine mm_get (ci := 4) (C := RX4) (T := TX4) (N := 8) hx hb hts in_X4 hown hK hV (hz.1 0 (by omega)) m_0 rfl 3 (by decide) f_26 (fun _ h => h) rfl dX4_undo_11 ?_
    refine lv_iconst (v := 1) hx hb dX4_undo_14 (by decide) ?_
    refine lv_isub hx hb dX4_undo_15 ?_
    refine lv_topi (fun cn ecn => ?_)
    refine mm_put (ci := 4) (v := .int cn) (fs' := [.ref (z 1), ev, .ref (z 4), .int cn, .ref (z 5), .ref (z 7), .ref (z 8), .ref (z 9)]) (ty := .int) (C := RX4) (T := TX4) (N := 8) hx hb hts in_X4 tyX4 tyX4_ok nmX4 hown hK hV (hz.1 0 (by omega)) m_0 rfl 3 (by decide) f_26 (fun _ h => h) rfl (by decide +kernel) rfl rfl (Nat.le_of_ble_eq_true rfl) rfl dX4_undo_16 (fun M_1 H locs eM_1 hV => ?_)
    have m_4 : M_1 (z 4) = _ := (congrFun eM_1 (z 4)).trans ((va_up_ne _ _ (hz.ne (i := 4) (j := 0) (by omega) (by omega) (by omega))).trans m_4)
    have m_p : M_1 (z (10 + lt)) = _ := (congrFun eM_1 (z (10 + lt))).trans ((va_up_ne _ _ (hz.ne (i := (10 + lt)) (j := 0) (by omega) (by omega) (by omega))).trans m_p)
    have m_0 : M_1 (z 0) = .inr (4, [.ref (z 1), ev, .ref (z 4), .int cn, .ref (z 5), .ref (z 7), .ref (z 8), .ref (z 9)]) := by rw [eM_1]; exact va_up_self _ _ _
    have fr : ∀ q : Nat, q ≠ (z 0) → M_1 q = M q := fun q h0 => (congrFun eM_1 q).trans ((va_up_ne _ _ h0).trans rfl)
    refine lv_iconst (v := 1) hx hb dX4_undo_19 (by decide) ?_
    exact hret (v := 1) dX4_undo_20 hV (by decide) (by decide) (by subst_vars; (repeat' split) <;> first | exact Or.inl rfl | exact Or.inr rfl) ⟨rfl, by rw [if_neg hlt0], by rw [if_neg hlt0]; exact mm_fin1 (by rw [m_0, ecn, mm_pred (Nat.pos_of_ne_zero hlt0)]; rfl) fr⟩
  · have hlt0 : lt = 0 := (nI_eq (b := 0) (by omega) (by decide)).mp c4
    refine lv_iconst (v := 0) hx hb dX4_undo_7 (by decide) ?_
    exact hret (v := 0) dX4_undo_8 hV (by decide) (by decide) (by subst_vars; (repeat' split) <;> first | exact Or.inl rfl | exact Or.inr rfl) ⟨rfl, by rw [if_pos hlt0], by rw [if_pos hlt0]⟩

set_option maxHeartbeats 1000000 in
set_option maxRecDepth 100000 in
theorem c_begin (l : Launch) (D : va_G) (dA : Nat → ClassId) {L : List Nat} {M : mm_M} {z : Nat → Nat} {ev : Value} {lt : Nat} {P : Ps} (hz : zW L z) (m_0 : M (z 0) = jO z ev lt) (m_4 : M (z 4) = .inl (dA 4, 101, .inr (.inr (.inr (.inr (gzL z)))))) (hlt : lt ≤ 100) (m_q : M (z 10) = oP P) : mm_Cm l D dA yX4_begin wsX4_begin 2 [.ref (z 0)] L M (fun M1 => M1 = va_up (va_up M (z 0) (jO z ev 0)) (z 10) (oP setUpP)) := by
  have m_0 : M (z 0) = .inr (4, [.ref (z 1), ev, .ref (z 4), .int (nI lt), .ref (z 5), .ref (z 7), .ref (z 8), .ref (z 9)]) := m_0
  have m_q : M (z 10) = .inr (2, [.int P.1, .int P.2.1, .int P.2.2.1, .int P.2.2.2.1, .int P.2.2.2.2]) := m_q
  refine mm_enter_v (cc := cX4_begin) (maxL := 1) (by decide) rfl (Nat.le_of_ble_eq_true rfl) ?_
  intro p e R s m args below meth c A ls H locs Q hR hx hb hml hin hown hts hK hV hl hret
  have hl : lv_has ls 1 [(0, .ref (z 0))] := hl
  have hown : s.vm.findClass RX4 = some m.cls := hown
  have f_26 := hts (.fieldLink RX4 26 "JumpBoard" "latest" "I") (by decide +kernel)
  have in_X4 : ∀ w ∈ wsX40, w ∈ wsX4_begin := by decide +kernel
  have f_22 := hts (.fieldLink RX4 22 "JumpBoard" "line" "[LJumpBoard$Position;") (by decide +kernel)
  refine lv_aload_n hx hb dX4_begin_0 rfl (lv_at hl 0 rfl) ?_
  refine lv_iconst (v := 0) hx hb dX4_begin_1 (by decide) ?_
  refine mm_put (ci := 4) (v := .int 0) (fs' := [.ref (z 1), ev, .ref (z 4), .int 0, .ref (z 5), .ref (z 7), .ref (z 8), .ref (z 9)]) (ty := .int) (C := RX4) (T := TX4) (N := 8) hx hb hts in_X4 tyX4 tyX4_ok nmX4 hown hK hV (hz.1 0 (by omega)) m_0 rfl 3 (by decide) f_26 (fun _ h => h) rfl (by decide +kernel) rfl rfl (Nat.le_of_ble_eq_true rfl) rfl dX4_begin_2 (fun M_1 H locs eM_1 hV => ?_)
  have m_4 : M_1 (z 4) = _ := (congrFun eM_1 (z 4)).trans ((va_up_ne _ _ (hz.ne (i := 4) (j := 0) (by omega) (by omega) (by omega))).trans m_4)
  have m_q : M_1 (z 10) = _ := (congrFun eM_1 (z 10)).trans ((va_up_ne _ _ (hz.ne (i := 10) (j := 0) (by omega) (by omega) (by omega))).trans m_q)
  have m_0 : M_1 (z 0) = .inr (4, [.ref (z 1), ev, .ref (z 4), .int 0, .ref (z 5), .ref (z 7), .ref (z 8), .ref (z 9)]) := by rw [eM_1]; exact va_up_self _ _ _
  have fr : ∀ q : Nat, q ≠ (z 0) → M_1 q = M q := fun q h0 => (congrFun eM_1 q).trans ((va_up_ne _ _ h0).trans rfl)
  refine lv_aload_n hx hb dX4_begin_5 rfl (lv_at hl 0 rfl) ?_
  refine mm_get (ci := 4) (C := RX4) (T := TX4) (N := 8) hx hb hts in_X4 hown hK hV (hz.1 0 (by omega)) m_0 rfl 2 (by decide) f_22 (fun _ h => h) rfl dX4_begin_6 ?_
  refine lv_iconst (v := 0) hx hb dX4_begin_9 (by decide) ?_
  refine mm_aaldN (j := 0) (b := (z 10)) hx hb hK hV 4 (hz.1 4 (by omega)) m_4 rfl rfl (by omega) (by decide) (gzL_at (i := 0) (by omega)) dX4_begin_10 ?_
  refine mm_Vm (ci := 2) (As := []) (rest := []) ⟨hx, hb, hml, hown, hts⟩ hK hV (c_setUp l D dA (P := P) (hz.1 10 (by omega)) m_q) (cwV 0 hts gX4_begin_X2_setUp rfl rfl rfl (by decide +kernel) (mm_levR hR (by omega) (by decide))) (hz.1 10 (by omega)) m_q rfl rfl hl.1 rfl (Nat.le_of_ble_eq_true rfl) dX4_begin_11 ⟨Nat.zero_le _, Nat.zero_le _⟩ (fun M_2 H locs eM_2 hV => ?_)
  have m_0 : M_2 (z 0) = _ := (congrFun eM_2 (z 0)).trans ((va_up_ne _ _ (hz.ne (i := 0) (j := 10) (by omega) (by omega) (by omega))).trans m_0)
  have m_4 : M_2 (z 4) = _ := (congrFun eM_2 (z 4)).trans ((va_up_ne _ _ (hz.ne (i := 4) (j := 10) (by omega) (by omega) (by omega))).trans m_4)
  have m_q : M_2 (z 10) = .inr (2, [.int setUpP.1, .int setUpP.2.1, .int setUpP.2.2.1, .int setUpP.2.2.2.1, .int setUpP.2.2.2.2]) := by rw [eM_2]; exact va_up_self _ _ _
  have fr : ∀ q : Nat, q ≠ (z 0) → q ≠ (z 10) → M_2 q = M q := fun q h0 h1 => (congrFun eM_2 q).trans ((va_up_ne _ _ h1).trans (fr q h0))
  exact hret dX4_begin_14 hV (by decide) (by decide) ⟨rfl, mm_fin2 m_0 m_q (hz.ne (by omega) (by omega) (by omega)) fr⟩

set_option maxHeartbeats 1000000 in
set_option maxRecDepth 100000 in
theorem c_clear (l : Launch) (D : va_G) (dA : Nat → ClassId) {L : List Nat} {M : mm_M} {z : Nat → Nat} {ev : Value} {lt : Nat} {P : Ps} (hz : zW L z) (m_0 : M (z 0) = jO z ev lt) (m_4 : M (z 4) = .inl (dA 4, 101, .inr (.inr (.inr (.inr (gzL z)))))) (hlt : lt ≤ 100) (m_q : M (z 10) = oP P) : mm_Cm l D dA yX4_clear wsX4_clear 2 [.ref (z 0)] L M (fun M1 => M1 = va_up (va_up M (z 0) (jO z ev 0)) (z 10) (oP wipeP)) := by
  have m_0 : M (z 0) = .inr (4, [.ref (z 1), ev, .ref (z 4), .int (nI lt), .ref (z 5), .ref (z 7), .ref (z 8), .ref (z 9)]) := m_0
  have m_q : M (z 10) = .inr (2, [.int P.1, .int P.2.1, .int P.2.2.1, .int P.2.2.2.1, .int P.2.2.2.2]) := m_q
  refine mm_enter_v (cc := cX4_clear) (maxL := 1) (by decide) rfl (Nat.le_of_ble_eq_true rfl) ?_
  intro p e R s m args below meth c A ls H locs Q hR hx hb hml hin hown hts hK hV hl hret
  have hl : lv_has ls 1 [(0, .ref (z 0))] := hl
  have hown : s.vm.findClass RX4 = some m.cls := hown
  have f_26 := hts (.fieldLink RX4 26 "JumpBoard" "latest" "I") (by decide +kernel)
  have in_X4 : ∀ w ∈ wsX40, w ∈ wsX4_clear := by decide +kernel
  have f_22 := hts (.fieldLink RX4 22 "JumpBoard" "line" "[LJumpBoard$Position;") (by decide +kernel)
  refine lv_aload_n hx hb dX4_clear_0 rfl (lv_at hl 0 rfl) ?_
  refine lv_iconst (v := 0) hx hb dX4_clear_1 (by decide) ?_
  refine mm_put (ci := 4) (v := .int 0) (fs' := [.ref (z 1), ev, .ref (z 4), .int 0, .ref (z 5), .ref (z 7), .ref (z 8), .ref (z 9)]) (ty := .int) (C := RX4) (T := TX4) (N := 8) hx hb hts in_X4 tyX4 tyX4_ok nmX4 hown hK hV (hz.1 0 (by omega)) m_0 rfl 3 (by decide) f_26 (fun _ h => h) rfl (by decide +kernel) rfl rfl (Nat.le_of_ble_eq_true rfl) rfl dX4_clear_2 (fun M_1 H locs eM_1 hV => ?_)
  have m_4 : M_1 (z 4) = _ := (congrFun eM_1 (z 4)).trans ((va_up_ne _ _ (hz.ne (i := 4) (j := 0) (by omega) (by omega) (by omega))).trans m_4)
  have m_q : M_1 (z 10) = _ := (congrFun eM_1 (z 10)).trans ((va_up_ne _ _ (hz.ne (i := 10) (j := 0) (by omega) (by omega) (by omega))).trans m_q)
  have m_0 : M_1 (z 0) = .inr (4, [.ref (z 1), ev, .ref (z 4), .int 0, .ref (z 5), .ref (z 7), .ref (z 8), .ref (z 9)]) := by rw [eM_1]; exact va_up_self _ _ _
  have fr : ∀ q : Nat, q ≠ (z 0) → M_1 q = M q := fun q h0 => (congrFun eM_1 q).trans ((va_up_ne _ _ h0).trans rfl)
  refine lv_aload_n hx hb dX4_clear_5 rfl (lv_at hl 0 rfl) ?_
  refine mm_get (ci := 4) (C := RX4) (T := TX4) (N := 8) hx hb hts in_X4 hown hK hV (hz.1 0 (by omega)) m_0 rfl 2 (by decide) f_22 (fun _ h => h) rfl dX4_clear_6 ?_
  refine lv_iconst (v := 0) hx hb dX4_clear_9 (by decide) ?_
  refine mm_aaldN (j := 0) (b := (z 10)) hx hb hK hV 4 (hz.1 4 (by omega)) m_4 rfl rfl (by omega) (by decide) (gzL_at (i := 0) (by omega)) dX4_clear_10 ?_
  refine mm_Vm (ci := 2) (As := []) (rest := []) ⟨hx, hb, hml, hown, hts⟩ hK hV (c_wipe l D dA (P := P) (hz.1 10 (by omega)) m_q) (cwV 0 hts gX4_clear_X2_wipe rfl rfl rfl (by decide +kernel) (mm_levR hR (by omega) (by decide))) (hz.1 10 (by omega)) m_q rfl rfl hl.1 rfl (Nat.le_of_ble_eq_true rfl) dX4_clear_11 ⟨Nat.zero_le _, Nat.zero_le _⟩ (fun M_2 H locs eM_2 hV => ?_)
  have m_0 : M_2 (z 0) = _ := (congrFun eM_2 (z 0)).trans ((va_up_ne _ _ (hz.ne (i := 0) (j := 10) (by omega) (by omega) (by omega))).trans m_0)
  have m_4 : M_2 (z 4) = _ := (congrFun eM_2 (z 4)).trans ((va_up_ne _ _ (hz.ne (i := 4) (j := 10) (by omega) (by omega) (by omega))).trans m_4)
  have m_q : M_2 (z 10) = .inr (2, [.int wipeP.1, .int wipeP.2.1, .int wipeP.2.2.1, .int wipeP.2.2.2.1, .int wipeP.2.2.2.2]) := by rw [eM_2]; exact va_up_self _ _ _
  have fr : ∀ q : Nat, q ≠ (z 0) → q ≠ (z 10) → M_2 q = M q := fun q h0 h1 => (congrFun eM_2 q).trans ((va_up_ne _ _ h1).trans (fr q h0))
  exact hret dX4_clear_14 hV (by decide) (by decide) ⟨rfl, mm_fin2 m_0 m_q (hz.ne (by omega) (by omega) (by omega)) fr⟩

set_option maxHeartbeats 1000000 in
set_option maxRecDepth 100000 in
theorem c_forget0 (l : Launch) (D : va_G) (dA : Nat → ClassId) {L : List Nat} {M : mm_M} {z : Nat → Nat} {ev : Value} {P : Ps} (hz : zW L z) (m_0 : M (z 0) = jO z ev 0) (m_4 : M (z 4) = .inl (dA 4, 101, .inr (.inr (.inr (.inr (gzL z)))))) (m_q : M (z 10) = oP P) : mm_Cm l D dA yX4_forgetGame wsX4_forgetGame 1 [.ref (z 0)] L M (fun M1 => M1 = va_up (va_up M (z 10) (oP (quietP P))) (z 0) (jO z ev 0)) := by
  have m_0 : M (z 0) = .inr (4, [.ref (z 1), ev, .ref (z 4), .int (nI 0), .ref (z 5), .ref (z 7), .ref (z 8), .ref (z 9)]) := m_0
  have m_q : M (z 10) = .inr (2, [.int P.1, .int P.2.1, .int P.2.2.1, .int P.2.2.2.1, .int P.2.2.2.2]) := m_q
  refine mm_enter_v (cc := cX4_forgetGame) (maxL := 1) (by decide) rfl (Nat.le_of_ble_eq_true rfl) ?_
  intro p e R s m args below meth c A ls H locs Q hR hx hb hml hin hown hts hK hV hl hret
  have hl : lv_has ls 1 [(0, .ref (z 0))] := hl
  have hown : s.vm.findClass RX4 = some m.cls := hown
  have f_22 := hts (.fieldLink RX4 22 "JumpBoard" "line" "[LJumpBoard$Position;") (by decide +kernel)
  have in_X4 : ∀ w ∈ wsX40, w ∈ wsX4_forgetGame := by decide +kernel
  have f_26 := hts (.fieldLink RX4 26 "JumpBoard" "latest" "I") (by decide +kernel)
  have f_114 := hts (.fieldLink RX4 114 "JumpBoard$Position" "kingSteps" "I") (by decide +kernel)
  have in_X2 : ∀ w ∈ wsX20, w ∈ wsX4_forgetGame := by decide +kernel
  refine lv_aload_n hx hb dX4_forgetGame_0 rfl (lv_at hl 0 rfl) ?_
  refine mm_get (ci := 4) (C := RX4) (T := TX4) (N := 8) hx hb hts in_X4 hown hK hV (hz.1 0 (by omega)) m_0 rfl 2 (by decide) f_22 (fun _ h => h) rfl dX4_forgetGame_1 ?_
  refine lv_iconst (v := 0) hx hb dX4_forgetGame_4 (by decide) ?_
  refine mm_aaldN (j := 0) (b := (z 10)) hx hb hK hV 4 (hz.1 4 (by omega)) m_4 rfl rfl (by omega) (by decide) (gzL_at (i := 0) (by omega)) dX4_forgetGame_5 ?_
  refine lv_aload_n hx hb dX4_forgetGame_6 rfl (lv_at hl 0 rfl) ?_
  refine mm_get (ci := 4) (C := RX4) (T := TX4) (N := 8) hx hb hts in_X4 hown hK hV (hz.1 0 (by omega)) m_0 rfl 2 (by decide) f_22 (fun _ h => h) rfl dX4_forgetGame_7 ?_
  refine lv_aload_n hx hb dX4_forgetGame_10 rfl (lv_at hl 0 rfl) ?_
  refine mm_get (ci := 4) (C := RX4) (T := TX4) (N := 8) hx hb hts in_X4 hown hK hV (hz.1 0 (by omega)) m_0 rfl 3 (by decide) f_26 (fun _ h => h) rfl dX4_forgetGame_11 ?_
  refine mm_aaldN (j := 0) (b := (z 10)) hx hb hK hV 4 (hz.1 4 (by omega)) m_4 rfl rfl (by omega) (by decide) (gzL_at (i := 0) (by omega)) dX4_forgetGame_14 ?_
  refine mm_Vm (ci := 2) (As := [.ref (z 10)]) (rest := []) ⟨hx, hb, hml, hown, hts⟩ hK hV (c_copy_self l D dA (P := P) (hz.1 10 (by omega)) m_q) (cwV 1 hts gX4_forgetGame_X2_copy rfl rfl rfl (by decide +kernel) (mm_levR hR (by omega) (by decide))) (hz.1 10 (by omega)) m_q rfl rfl hl.1 rfl (Nat.le_of_ble_eq_true rfl) dX4_forgetGame_15 ⟨Nat.zero_le _, Nat.zero_le _⟩ (fun M_1 H locs eM_1 hV => ?_)
  have m_0 : M_1 (z 0) = _ := (congrFun eM_1 (z 0)).trans ((va_up_ne _ _ (hz.ne (i := 0) (j := 10) (by omega) (by omega) (by omega))).trans m_0)
  have m_4 : M_1 (z 4) = _ := (congrFun eM_1 (z 4)).trans ((va_up_ne _ _ (hz.ne (i := 4) (j := 10) (by omega) (by omega) (by omega))).trans m_4)
  have m_q : M_1 (z 10) = .inr (2, [.int P.1, .int P.2.1, .int P.2.2.1, .int P.2.2.2.1, .int P.2.2.2.2]) := by rw [eM_1]; exact va_up_self _ _ _
  have fr : ∀ q : Nat, q ≠ (z 10) → M_1 q = M q := fun q h0 => (congrFun eM_1 q).trans ((va_up_ne _ _ h0).trans rfl)
  refine lv_aload_n hx hb dX4_forgetGame_18 rfl (lv_at hl 0 rfl) ?_
  refine mm_get (ci := 4) (C := RX4) (T := TX4) (N := 8) hx hb hts in_X4 hown hK hV (hz.1 0 (by omega)) m_0 rfl 2 (by decide) f_22 (fun _ h => h) rfl dX4_forgetGame_19 ?_
  refine lv_iconst (v := 0) hx hb dX4_forgetGame_22 (by decide) ?_
  refine mm_aaldN (j := 0) (b := (z 10)) hx hb hK hV 4 (hz.1 4 (by omega)) m_4 rfl rfl (by omega) (by decide) (gzL_at (i := 0) (by omega)) dX4_forgetGame_23 ?_
  refine lv_iconst (v := 0) hx hb dX4_forgetGame_24 (by decide) ?_
  refine mm_put (ci := 2) (v := .int 0) (fs' := [.int P.1, .int P.2.1, .int P.2.2.1, .int P.2.2.2.1, .int 0]) (ty := .int) (C := RX2) (T := TX2) (N := 5) hx hb hts in_X2 tyX2 tyX2_ok nmX2 hown hK hV (hz.1 10 (by omega)) m_q rfl 4 (by decide) f_114 (fun _ h => h) rfl (by decide +kernel) rfl rfl (Nat.le_of_ble_eq_true rfl) rfl dX4_forgetGame_25 (fun M_2 H locs eM_2 hV => ?_)
  have m_0 : M_2 (z 0) = _ := (congrFun eM_2 (z 0)).trans ((va_up_ne _ _ (hz.ne (i := 0) (j := 10) (by omega) (by omega) (by omega))).trans m_0)
  have m_4 : M_2 (z 4) = _ := (congrFun eM_2 (z 4)).trans ((va_up_ne _ _ (hz.ne (i := 4) (j := 10) (by omega) (by omega) (by omega))).trans m_4)
  have m_q : M_2 (z 10) = .inr (2, [.int P.1, .int P.2.1, .int P.2.2.1, .int P.2.2.2.1, .int 0]) := by rw [eM_2]; exact va_up_self _ _ _
  have fr : ∀ q : Nat, q ≠ (z 10) → M_2 q = M q := fun q h0 => (congrFun eM_2 q).trans ((va_up_ne _ _ h0).trans (fr q h0))
  refine lv_aload_n hx hb dX4_forgetGame_28 rfl (lv_at hl 0 rfl) ?_
  refine lv_iconst (v := 0) hx hb dX4_forgetGame_29 (by decide) ?_
  refine mm_put (ci := 4) (v := .int 0) (fs' := [.ref (z 1), ev, .ref (z 4), .int 0, .ref (z 5), .ref (z 7), .ref (z 8), .ref (z 9)]) (ty := .int) (C := RX4) (T := TX4) (N := 8) hx hb hts in_X4 tyX4 tyX4_ok nmX4 hown hK hV (hz.1 0 (by omega)) m_0 rfl 3 (by decide) f_26 (fun _ h => h) rfl (by decide +kernel) rfl rfl (Nat.le_of_ble_eq_true rfl) rfl dX4_forgetGame_30 (fun M_3 H locs eM_3 hV => ?_)
  have m_4 : M_3 (z 4) = _ := (congrFun eM_3 (z 4)).trans ((va_up_ne _ _ (hz.ne (i := 4) (j := 0) (by omega) (by omega) (by omega))).trans m_4)
  have m_q : M_3 (z 10) = _ := (congrFun eM_3 (z 10)).trans ((va_up_ne _ _ (hz.ne (i := 10) (j := 0) (by omega) (by omega) (by omega))).trans m_q)
  have m_0 : M_3 (z 0) = .inr (4, [.ref (z 1), ev, .ref (z 4), .int 0, .ref (z 5), .ref (z 7), .ref (z 8), .ref (z 9)]) := by rw [eM_3]; exact va_up_self _ _ _
  have fr : ∀ q : Nat, q ≠ (z 10) → q ≠ (z 0) → M_3 q = M q := fun q h0 h1 => (congrFun eM_3 q).trans ((va_up_ne _ _ h1).trans (fr q h0))
  exact hret dX4_forgetGame_33 hV (by decide) (by decide) ⟨rfl, mm_fin2 m_q m_0 (hz.ne (by omega) (by omega) (by omega)) fr⟩

set_option maxHeartbeats 1000000 in
set_option maxRecDepth 100000 in
theorem c_forgetS (l : Launch) (D : va_G) (dA : Nat → ClassId) {L : List Nat} {M : mm_M} {z : Nat → Nat} {ev : Value} {lt : Nat} {P : Ps} {P0 : Ps} (hz : zW L z) (m_0 : M (z 0) = jO z ev lt) (m_4 : M (z 4) = .inl (dA 4, 101, .inr (.inr (.inr (.inr (gzL z)))))) (hlt : lt ≤ 100) (m_p : M (z (10 + lt)) = oP P) (h0 : 0 < lt) (m_q : M (z 10) = oP P0) : mm_Cm l D dA yX4_forgetGame wsX4_forgetGame 1 [.ref (z 0)] L M (fun M1 => M1 = va_up (va_up M (z 10) (oP (quietP P))) (z 0) (jO z ev 0)) := by
  have m_0 : M (z 0) = .inr (4, [.ref (z 1), ev, .ref (z 4), .int (nI lt), .ref (z 5), .ref (z 7), .ref (z 8), .ref (z 9)]) := m_0
  have m_p : M (z (10 + lt)) = .inr (2, [.int P.1, .int P.2.1, .int P.2.2.1, .int P.2.2.2.1, .int P.2.2.2.2]) := m_p
  have m_q : M (z 10) = .inr (2, [.int P0.1, .int P0.2.1, .int P0.2.2.1, .int P0.2.2.2.1, .int P0.2.2.2.2]) := m_q
  refine mm_enter_v (cc := cX4_forgetGame) (maxL := 1) (by decide) rfl (Nat.le_of_ble_eq_true rfl) ?_
  intro p e R s m args below meth c A ls H locs Q hR hx hb hml hin hown hts hK hV hl hret
  have hl : lv_has ls 1 [(0, .ref (z 0))] := hl
  have hown : s.vm.findClass RX4 = some m.cls := hown
  have f_22 := hts (.fieldLink RX4 22 "JumpBoard" "line" "[LJumpBoard$Position;") (by decide +kernel)
  have in_X4 : ∀ w ∈ wsX40, w ∈ wsX4_forgetGame := by decide +kernel
  have f_26 := hts (.fieldLink RX4 26 "JumpBoard" "latest" "I") (by decide +kernel)
  have f_114 := hts (.fieldLink RX4 114 "JumpBoard$Position" "kingSteps" "I") (by decide +kernel)
  have in_X2 : ∀ w ∈ wsX20, w ∈ wsX4_forgetGame := by decide +kernel
  refine lv_aload_n hx hb dX4_forgetGame_0 rfl (lv_at hl 0 rfl) ?_
  refine mm_get (ci := 4) (C := RX4) (T := TX4) (N := 8) hx hb hts in_X4 hown hK hV (hz.1 0 (by omega)) m_0 rfl 2 (by decide) f_22 (fun _ h => h) rfl dX4_forgetGame_1 ?_
  refine lv_iconst (v := 0) hx hb dX4_forgetGame_4 (by decide) ?_
  refine mm_aaldN (j := 0) (b := (z 10)) hx hb hK hV 4 (hz.1 4 (by omega)) m_4 rfl rfl (by omega) (by decide) (gzL_at (i := 0) (by omega)) dX4_forgetGame_5 ?_
  refine lv_aload_n hx hb dX4_forgetGame_6 rfl (lv_at hl 0 rfl) ?_
  refine mm_get (ci := 4) (C := RX4) (T := TX4) (N := 8) hx hb hts in_X4 hown hK hV (hz.1 0 (by omega)) m_0 rfl 2 (by decide) f_22 (fun _ h => h) rfl dX4_forgetGame_7 ?_
  refine lv_aload_n hx hb dX4_forgetGame_10 rfl (lv_at hl 0 rfl) ?_
  refine mm_get (ci := 4) (C := RX4) (T := TX4) (N := 8) hx hb hts in_X4 hown hK hV (hz.1 0 (by omega)) m_0 rfl 3 (by decide) f_26 (fun _ h => h) rfl dX4_forgetGame_11 ?_
  refine mm_aaldN (j := lt) (b := (z (10 + lt))) hx hb hK hV 4 (hz.1 4 (by omega)) m_4 rfl rfl (by omega) (by decide) (gzL_at (by omega)) dX4_forgetGame_14 ?_
  refine mm_Vm (ci := 2) (As := [.ref (z (10 + lt))]) (rest := []) ⟨hx, hb, hml, hown, hts⟩ hK hV (c_copy l D dA (P0 := P0) (P := P) (hz.ne (i := 10) (j := 10 + lt) (by omega) (by omega) (by omega)) (hz.1 10 (by omega)) (hz.1 (10 + lt) (by omega)) m_q m_p) (cwV 1 hts gX4_forgetGame_X2_copy rfl rfl rfl (by decide +kernel) (mm_levR hR (by omega) (by decide))) (hz.1 10 (by omega)) m_q rfl rfl hl.1 rfl (Nat.le_of_ble_eq_true rfl) dX4_forgetGame_15 ⟨Nat.zero_le _, Nat.zero_le _⟩ (fun M_1 H locs eM_1 hV => ?_)
  have m_0 : M_1 (z 0) = _ := (congrFun eM_1 (z 0)).trans ((va_up_ne _ _ (hz.ne (i := 0) (j := 10) (by omega) (by omega) (by omega))).trans m_0)
  have m_4 : M_1 (z 4) = _ := (congrFun eM_1 (z 4)).trans ((va_up_ne _ _ (hz.ne (i := 4) (j := 10) (by omega) (by omega) (by omega))).trans m_4)
  have m_p : M_1 (z (10 + lt)) = _ := (congrFun eM_1 (z (10 + lt))).trans ((va_up_ne _ _ (hz.ne (i := (10 + lt)) (j := 10) (by omega) (by omega) (by omega))).trans m_p)
  have m_q : M_1 (z 10) = .inr (2, [.int P.1, .int P.2.1, .int P.2.2.1, .int P.2.2.2.1, .int P.2.2.2.2]) := by rw [eM_1]; exact va_up_self _ _ _
  have fr : ∀ q : Nat, q ≠ (z 10) → M_1 q = M q := fun q h0 => (congrFun eM_1 q).trans ((va_up_ne _ _ h0).trans rfl)
  refine lv_aload_n hx hb dX4_forgetGame_18 rfl (lv_at hl 0 rfl) ?_
  refine mm_get (ci := 4) (C := RX4) (T := TX4) (N := 8) hx hb hts in_X4 hown hK hV (hz.1 0 (by omega)) m_0 rfl 2 (by decide) f_22 (fun _ h => h) rfl dX4_forgetGame_19 ?_
  refine lv_iconst (v := 0) hx hb dX4_forgetGame_22 (by decide) ?_
  refine mm_aaldN (j := 0) (b := (z 10)) hx hb hK hV 4 (hz.1 4 (by omega)) m_4 rfl rfl (by omega) (by decide) (gzL_at (i := 0) (by omega)) dX4_forgetGame_23 ?_
  refine lv_iconst (v := 0) hx hb dX4_forgetGame_24 (by decide) ?_
  refine mm_put (ci := 2) (v := .int 0) (fs' := [.int P.1, .int P.2.1, .int P.2.2.1, .int P.2.2.2.1, .int 0]) (ty := .int) (C := RX2) (T := TX2) (N := 5) hx hb hts in_X2 tyX2 tyX2_ok nmX2 hown hK hV (hz.1 10 (by omega)) m_q rfl 4 (by decide) f_114 (fun _ h => h) rfl (by decide +kernel) rfl rfl (Nat.le_of_ble_eq_true rfl) rfl dX4_forgetGame_25 (fun M_2 H locs eM_2 hV => ?_)
  have m_0 : M_2 (z 0) = _ := (congrFun eM_2 (z 0)).trans ((va_up_ne _ _ (hz.ne (i := 0) (j := 10) (by omega) (by omega) (by omega))).trans m_0)
  have m_4 : M_2 (z 4) = _ := (congrFun eM_2 (z 4)).trans ((va_up_ne _ _ (hz.ne (i := 4) (j := 10) (by omega) (by omega) (by omega))).trans m_4)
  have m_p : M_2 (z (10 + lt)) = _ := (congrFun eM_2 (z (10 + lt))).trans ((va_up_ne _ _ (hz.ne (i := (10 + lt)) (j := 10) (by omega) (by omega) (by omega))).trans m_p)
  have m_q : M_2 (z 10) = .inr (2, [.int P.1, .int P.2.1, .int P.2.2.1, .int P.2.2.2.1, .int 0]) := by rw [eM_2]; exact va_up_self _ _ _
  have fr : ∀ q : Nat, q ≠ (z 10) → M_2 q = M q := fun q h0 => (congrFun eM_2 q).trans ((va_up_ne _ _ h0).trans (fr q h0))
  refine lv_aload_n hx hb dX4_forgetGame_28 rfl (lv_at hl 0 rfl) ?_
  refine lv_iconst (v := 0) hx hb dX4_forgetGame_29 (by decide) ?_
  refine mm_put (ci := 4) (v := .int 0) (fs' := [.ref (z 1), ev, .ref (z 4), .int 0, .ref (z 5), .ref (z 7), .ref (z 8), .ref (z 9)]) (ty := .int) (C := RX4) (T := TX4) (N := 8) hx hb hts in_X4 tyX4 tyX4_ok nmX4 hown hK hV (hz.1 0 (by omega)) m_0 rfl 3 (by decide) f_26 (fun _ h => h) rfl (by decide +kernel) rfl rfl (Nat.le_of_ble_eq_true rfl) rfl dX4_forgetGame_30 (fun M_3 H locs eM_3 hV => ?_)
  have m_4 : M_3 (z 4) = _ := (congrFun eM_3 (z 4)).trans ((va_up_ne _ _ (hz.ne (i := 4) (j := 0) (by omega) (by omega) (by omega))).trans m_4)
  have m_p : M_3 (z (10 + lt)) = _ := (congrFun eM_3 (z (10 + lt))).trans ((va_up_ne _ _ (hz.ne (i := (10 + lt)) (j := 0) (by omega) (by omega) (by omega))).trans m_p)
  have m_q : M_3 (z 10) = _ := (congrFun eM_3 (z 10)).trans ((va_up_ne _ _ (hz.ne (i := 10) (j := 0) (by omega) (by omega) (by omega))).trans m_q)
  have m_0 : M_3 (z 0) = .inr (4, [.ref (z 1), ev, .ref (z 4), .int 0, .ref (z 5), .ref (z 7), .ref (z 8), .ref (z 9)]) := by rw [eM_3]; exact va_up_self _ _ _
  have fr : ∀ q : Nat, q ≠ (z 10) → q ≠ (z 0) → M_3 q = M q := fun q h0 h1 => (congrFun eM_3 q).trans ((va_up_ne _ _ h1).trans (fr q h0))
  exact hret dX4_forgetGame_33 hV (by decide) (by decide) ⟨rfl, mm_fin2 m_q m_0 (hz.ne (by omega) (by omega) (by omega)) fr⟩

/-- forgetGame: the present position comes to the line's beginning -/
theorem c_forget (l : Launch) (D : va_G) (dA : Nat → ClassId) {L : List Nat} {M : mm_M} {z : Nat → Nat} {ev : Value} {lt : Nat} {P P0 : Ps} (hz : zW L z) (m_0 : M (z 0) = jO z ev lt) (m_4 : M (z 4) = .inl (dA 4, 101, .inr (.inr (.inr (.inr (gzL z)))))) (hlt : lt ≤ 100) (m_p : M (z (10 + lt)) = oP P) (m_q : M (z 10) = oP P0) : mm_Cm l D dA yX4_forgetGame wsX4_forgetGame 1 [.ref (z 0)] L M (fun M1 => M1 = va_up (va_up M (z 10) (oP (quietP P))) (z 0) (jO z ev 0)) := by
  rcases Nat.eq_zero_or_pos lt with h | h
  · subst h; exact c_forget0 l D dA hz m_0 m_4 m_p
  · exact c_forgetS l D dA hz m_0 m_4 hlt m_p h m_q

set_option maxHeartbeats 1000000 in
set_option maxRecDepth 100000 in
theorem c_moves (l : Launch) (D : va_G) (dA : Nat → ClassId) {L : List Nat} {M : mm_M} {z : Nat → Nat} {ev : Value} {lt : Nat} {P : Ps} {f0 : Nat → Int32} {n0 : Nat} (hz : zW L z) (m_0 : M (z 0) = jO z ev lt) (m_4 : M (z 4) = .inl (dA 4, 101, .inr (.inr (.inr (.inr (gzL z)))))) (hlt : lt ≤ 100) (m_p : M (z (10 + lt)) = oP P) (hru : ruW dA L M (z 1) (z 2) (z 3)) (hli : liW dA L M (z 5) (z 6) f0 n0) : mm_Cn l D dA yX4_moves wsX4_moves 22 [.ref (z 0)] L M (fun r M1 => r = nI (movesF P f0).2 ∧ M1 = va_up (va_up M (z 5) (oL (z 6) (nI (movesF P f0).2))) (z 6) (.inl (dA 0, 72, .inl (movesF P f0).1))) := by
  have m_0 : M (z 0) = .inr (4, [.ref (z 1), ev, .ref (z 4), .int (nI lt), .ref (z 5), .ref (z 7), .ref (z 8), .ref (z 9)]) := m_0
  have m_p : M (z (10 + lt)) = .inr (2, [.int P.1, .int P.2.1, .int P.2.2.1, .int P.2.2.2.1, .int P.2.2.2.2]) := m_p
  have m_1 := hru.2.2.2.1
  obtain ⟨-, -, m_5, m_6, hn0⟩ := id hli
  have m_5 : M (z 5) = .inr (1, [.ref (z 6), .int (nI n0)]) := m_5
  refine mm_enter_i (cc := cX4_moves) (maxL := 1) (by decide) rfl (Nat.le_of_ble_eq_true rfl) ?_
  intro p e R s m args below meth c A ls H locs Q hR hx hb hml hin hown hts hK hV hl hret
  have hl : lv_has ls 1 [(0, .ref (z 0))] := hl
  have hown : s.vm.findClass RX4 = some m.cls := hown
  have f_10 := hts (.fieldLink RX4 10 "JumpBoard" "rules" "LJumpBoard$Rules;") (by decide +kernel)
  have in_X4 : ∀ w ∈ wsX40, w ∈ wsX4_moves := by decide +kernel
  have f_22 := hts (.fieldLink RX4 22 "JumpBoard" "line" "[LJumpBoard$Position;") (by decide +kernel)
  have f_26 := hts (.fieldLink RX4 26 "JumpBoard" "latest" "I") (by decide +kernel)
  have f_33 := hts (.fieldLink RX4 33 "JumpBoard" "list" "LJumpBoard$MoveList;") (by decide +kernel)
  have f_78 := hts (.fieldLink RX4 78 "JumpBoard$MoveList" "count" "I") (by decide +kernel)
  have in_X1 : ∀ w ∈ wsX10, w ∈ wsX4_moves := by decide +kernel
  refine lv_aload_n hx hb dX4_moves_0 rfl (lv_at hl 0 rfl) ?_
  refine mm_get (ci := 4) (C := RX4) (T := TX4) (N := 8) hx hb hts in_X4 hown hK hV (hz.1 0 (by omega)) m_0 rfl 0 (by decide) f_10 (fun _ h => h) rfl dX4_moves_1 ?_
  refine lv_aload_n hx hb dX4_moves_4 rfl (lv_at hl 0 rfl) ?_
  refine mm_get (ci := 4) (C := RX4) (T := TX4) (N := 8) hx hb hts in_X4 hown hK hV (hz.1 0 (by omega)) m_0 rfl 2 (by decide) f_22 (fun _ h => h) rfl dX4_moves_5 ?_
  refine lv_aload_n hx hb dX4_moves_8 rfl (lv_at hl 0 rfl) ?_
  refine mm_get (ci := 4) (C := RX4) (T := TX4) (N := 8) hx hb hts in_X4 hown hK hV (hz.1 0 (by omega)) m_0 rfl 3 (by decide) f_26 (fun _ h => h) rfl dX4_moves_9 ?_
  refine mm_aaldN (j := lt) (b := (z (10 + lt))) hx hb hK hV 4 (hz.1 4 (by omega)) m_4 rfl rfl (by omega) (by decide) (gzL_at (by omega)) dX4_moves_12 ?_
  refine lv_aload_n hx hb dX4_moves_13 rfl (lv_at hl 0 rfl) ?_
  refine mm_get (ci := 4) (C := RX4) (T := TX4) (N := 8) hx hb hts in_X4 hown hK hV (hz.1 0 (by omega)) m_0 rfl 4 (by decide) f_33 (fun _ h => h) rfl dX4_moves_14 ?_
  refine mm_Vm (ci := 3) (As := [.ref (z (10 + lt)), .ref (z 5)]) (rest := []) ⟨hx, hb, hml, hown, hts⟩ hK hV (c_listMoves l D dA (P := P) hru (hz.1 (10 + lt) (by omega)) m_p hli (hz.ne (by omega) (by omega) (by omega)) (hz.ne (by omega) (by omega) (by omega))) (cwV 2 hts gX4_moves_X3_listMoves rfl rfl rfl (by decide +kernel) (mm_levR hR (by omega) (by decide))) (hz.1 1 (by omega)) m_1 rfl rfl hl.1 rfl (Nat.le_of_ble_eq_true rfl) dX4_moves_17 ⟨Nat.zero_le _, Nat.zero_le _⟩ (fun M_1 H locs eM_1 hV => ?_)
  have m_0 : M_1 (z 0) = _ := (congrFun eM_1 (z 0)).trans ((va_up_ne _ _ (hz.ne (i := 0) (j := 6) (by omega) (by omega) (by omega))).trans ((va_up_ne _ _ (hz.ne (i := 0) (j := 5) (by omega) (by omega) (by omega))).trans m_0))
  have m_4 : M_1 (z 4) = _ := (congrFun eM_1 (z 4)).trans ((va_up_ne _ _ (hz.ne (i := 4) (j := 6) (by omega) (by omega) (by omega))).trans ((va_up_ne _ _ (hz.ne (i := 4) (j := 5) (by omega) (by omega) (by omega))).trans m_4))
  have m_p : M_1 (z (10 + lt)) = _ := (congrFun eM_1 (z (10 + lt))).trans ((va_up_ne _ _ (hz.ne (i := (10 + lt)) (j := 6) (by omega) (by omega) (by omega))).trans ((va_up_ne _ _ (hz.ne (i := (10 + lt)) (j := 5) (by omega) (by omega) (by omega))).trans m_p))
  have m_1 : M_1 (z 1) = _ := (congrFun eM_1 (z 1)).trans ((va_up_ne _ _ (hz.ne (i := 1) (j := 6) (by omega) (by omega) (by omega))).trans ((va_up_ne _ _ (hz.ne (i := 1) (j := 5) (by omega) (by omega) (by omega))).trans m_1))
  have m_5 : M_1 (z 5) = .inr (1, [.ref (z 6), .int (nI (movesF P f0).2)]) := (congrFun eM_1 (z 5)).trans ((va_up_ne _ _ (hz.ne (i := 5) (j := 6) (by omega) (by omega) (by omega))).trans (va_up_self _ _ _))
  have m_6 : M_1 (z 6) = .inl (dA 0, 72, .inl ((movesF P f0).1)) := (congrFun eM_1 (z 6)).trans (va_up_self _ _ _)
  have fr : ∀ q : Nat, q ≠ (z 5) → q ≠ (z 6) → M_1 q = M q := fun q h0 h1 => (congrFun eM_1 q).trans ((va_up_ne _ _ h1).trans ((va_up_ne _ _ h0).trans rfl))
  refine lv_aload_n hx hb dX4_moves_20 rfl (lv_at hl 0 rfl) ?_
  refine mm_get (ci := 4) (C := RX4) (T := TX4) (N := 8) hx hb hts in_X4 hown hK hV (hz.1 0 (by omega)) m_0 rfl 4 (by decide) f_33 (fun _ h => h) rfl dX4_moves_21 ?_
  refine mm_get (ci := 1) (C := RX1) (T := TX1) (N := 2) hx hb hts in_X1 hown hK hV (hz.1 5 (by omega)) m_5 rfl 1 (by decide) f_78 (fun _ h => h) rfl dX4_moves_24 ?_
  exact hret (v := (nI (movesF P f0).2)) dX4_moves_27 hV (by decide) (by decide) ⟨rfl, rfl, mm_fin2 m_5 m_6 (hz.ne (by omega) (by omega) (by omega)) fr⟩
