def jT (dA : Nat → ClassId) (M : mm_M) (a b : Nat) : Prop := ∃ (f : Nat → Int32) (n : Nat), n ≤ 72 ∧ M a = oL b (nI n) ∧ M b = .inl (dA 0, 72, .inl f)
/-- the rows of a search: lists and spots -/
def jY (dA : Nat → ClassId) (M : mm_M) (z : Nat → Nat) : Prop := (∀ i, i < 5 → jT dA M (z (111 + 3 * i)) (z (112 + 3 * i))) ∧ ∀ i, i < 5 → ∃ P, M (z (113 + 3 * i)) = oP P
theorem jY.list {dA : Nat → ClassId} {L : List Nat} {M M1 : mm_M} {z : Nat → Nat} (hz : zW L z) (h : jY dA M z) {e : Nat} (he : e < 5) {f : Nat → Int32} {n : Nat} (hn : n ≤ 72) (hM : M1 = va_up (va_up M (z (111 + 3 * e)) (oL (z (112 + 3 * e)) (nI n))) (z (112 + 3 * e)) (.inl (dA 0, 72, .inl f))) : jY dA M1 z := by
  subst hM
  refine ⟨fun i hi => ?_, fun i hi => ?_⟩
  · by_cases hie : i = e
    · subst hie
      exact ⟨f, n, hn, by rw [va_up_ne _ _ (hz.ne (by omega) (by omega) (by omega)), va_up_self], va_up_self _ _ _⟩
    · obtain ⟨f2, n2, h1, h2, h3⟩ := h.1 i hi
      exact ⟨f2, n2, h1, by rw [va_up_ne _ _ (hz.ne (by omega) (by omega) (by omega)), va_up_ne _ _ (hz.ne (by omega) (by omega) (by omega))]; exact h2, by rw [va_up_ne _ _ (hz.ne (by omega) (by omega) (by omega)), va_up_ne _ _ (hz.ne (by omega) (by omega) (by omega))]; exact h3⟩
  · obtain ⟨P, hP⟩ := h.2 i hi
    exact ⟨P, by rw [va_up_ne _ _ (hz.ne (by omega) (by omega) (by omega)), va_up_ne _ _ (hz.ne (by omega) (by omega) (by omega))]; exact hP⟩
theorem jY.spot {dA : Nat → ClassId} {L : List Nat} {M M1 : mm_M} {z : Nat → Nat} (hz : zW L z) (h : jY dA M z) {e : Nat} (he : e < 5) {Q : Ps} (hM : M1 = va_up M (z (113 + 3 * e)) (oP Q)) : jY dA M1 z := by
  subst hM
  refine ⟨fun i hi => ?_, fun i hi => ?_⟩
  · obtain ⟨f2, n2, h1, h2, h3⟩ := h.1 i hi
    exact ⟨f2, n2, h1, by rw [va_up_ne _ _ (hz.ne (by omega) (by omega) (by omega))]; exact h2, by rw [va_up_ne _ _ (hz.ne (by omega) (by omega) (by omega))]; exact h3⟩
  · by_cases hie : i = e
    · subst hie; exact ⟨Q, va_up_self _ _ _⟩
    · obtain ⟨P, hP⟩ := h.2 i hi
      exact ⟨P, by rw [va_up_ne _ _ (hz.ne (by omega) (by omega) (by omega))]; exact hP⟩
/-- rows outside z 111 .. are untouched -/
def rgF (z : Nat → Nat) (e : Nat) (M M1 : mm_M) : Prop := ∀ q : Nat, (∀ k, 111 ≤ k → k < e → q ≠ z k) → M1 q = M q
theorem rgF.at {L : List Nat} {z : Nat → Nat} {e : Nat} {M M1 : mm_M} (hz : zW L z) (h : rgF z e M M1) (he : e ≤ 126) {k : Nat} (hk : k < 126) (hk2 : k < 111 ∨ e ≤ k) : M1 (z k) = M (z k) := h _ (fun j h1 h2 => hz.ne hk (by omega) (by omega))
theorem rgF.mono {z : Nat → Nat} {e e2 : Nat} {M M1 : mm_M} (h : rgF z e M M1) (he : e ≤ e2) : rgF z e2 M M1 := fun q hq => h q (fun k h1 h2 => hq k h1 (by omega))
theorem rgF.rf {z : Nat → Nat} {e : Nat} {M : mm_M} : rgF z e M M := fun _ _ => rfl
theorem rgF.tr {z : Nat → Nat} {e : Nat} {M M1 M2 : mm_M} (h : rgF z e M M1) (h2 : rgF z e M1 M2) : rgF z e M M2 := fun q hq => (h2 q hq).trans (h q hq)
theorem rgF.up {z : Nat → Nat} {e k : Nat} {M M1 M2 : mm_M} {x : va_E} (h : rgF z e M M1) (h1 : 111 ≤ k) (h2 : k < e) (hM : M2 = va_up M1 (z k) x) : rgF z e M M2 := fun q hq => by rw [hM, va_up_ne _ _ (hq k h1 h2)]; exact h q hq
def AK (d ka : Nat) : Prop := ka < 126 ∧ 7 ≤ ka ∧ ka ≠ 8 ∧ ka ≠ 9 ∧ (ka < 111 ∨ 113 + 3 * d ≤ ka)
def sumK (g : Nat → Int32) : Nat → Nat → Int32 → Int32
  | 0, _, s => s
  | k + 1, i, s => sumK g k (i + 1) (s + g i)
/-- in how many ways d moves can be played -/
def waysF : Nat → Ps → Int32
  | 0, _ => 1
  | d + 1, P => if d = 0 then nI (mvN P) else sumK (fun i => waysF d (followP P (mvA P i))) (mvN P) 0 0

set_option maxHeartbeats 1000000 in
set_option maxRecDepth 100000 in
theorem c_cw0 (l : Launch) (D : va_G) (dA : Nat → ClassId) {L : List Nat} {M : mm_M} {z : Nat → Nat} {ev : Value} {lt ka : Nat} {P : Ps} (x2 : Int32) (hz : zW L z) (m_0 : M (z 0) = jO z ev lt) (hF : jF dA M z) (hY : jY dA M z) (hx2 : x2 = nI 0) : mm_Cn l D dA yX4_countWays wsX4_countWays 23 [.ref (z 0), .ref (z ka), .int x2] L M (fun r M1 => r = waysF 0 P ∧ jY dA M1 z ∧ rgF z (113 + 3 * 0) M M1) := by
  have m_0 : M (z 0) = .inr (4, [.ref (z 1), ev, .ref (z 4), .int (nI lt), .ref (z 5), .ref (z 7), .ref (z 8), .ref (z 9)]) := m_0
  refine mm_enter_i (cc := cX4_countWays) (maxL := 7) (by decide) rfl (Nat.le_of_ble_eq_true rfl) ?_
  intro p e R s m args below meth c A ls H locs Q hR hx hb hml hin hown hts hK hV hl hret
  have hl : lv_has ls 7 [(0, .ref (z 0)), (1, .ref (z ka)), (2, .int x2)] := hl
  have hown : s.vm.findClass RX4 = some m.cls := hown
  refine lv_iload_n hx hb dX4_countWays_0 rfl (lv_at hl 2 rfl) ?_
  refine lv_if_gt (tgt := 6) hx hb dX4_countWays_1 (by decide) (fun c1 => ?_) (fun c1 => ?_)
  · exact absurd c1 (by rw [hx2]; decide)
  · refine lv_iconst (v := 1) hx hb dX4_countWays_4 (by decide) ?_
    exact hret (v := 1) dX4_countWays_5 hV (by decide) (by decide) ⟨rfl, rfl, hY, rgF.rf⟩

set_option maxHeartbeats 1000000 in
set_option maxRecDepth 100000 in
theorem c_cw_step (l : Launch) (D : va_G) (dA : Nat → ClassId) {L : List Nat} {M : mm_M} {z : Nat → Nat} {ev : Value} {lt ka : Nat} {P : Ps} {d : Nat} (x2 : Int32) (hz : zW L z) (ih : ∀ (M : mm_M) (ka : Nat) (P : Ps) (x2 : Int32), x2 = nI d → M (z 0) = jO z ev lt → jF dA M z → jY dA M z → AK d ka → M (z ka) = oP P → mm_Cn l D dA yX4_countWays wsX4_countWays (23 + d) [.ref (z 0), .ref (z ka), .int x2] L M (fun r M1 => r = waysF d P ∧ jY dA M1 z ∧ rgF z (113 + 3 * d) M M1)) (m_0 : M (z 0) = jO z ev lt) (hF : jF dA M z) (hY : jY dA M z) (hx2 : x2 = nI (d + 1)) (hd4 : d < 4) (hk : AK (d + 1) ka) (m_p : M (z ka) = oP P) : mm_Cn l D dA yX4_countWays wsX4_countWays (23 + (d + 1)) [.ref (z 0), .ref (z ka), .int x2] L M (fun r M1 => r = waysF (d + 1) P ∧ jY dA M1 z ∧ rgF z (113 + 3 * (d + 1)) M M1) := by
  have m_0 : M (z 0) = .inr (4, [.ref (z 1), ev, .ref (z 4), .int (nI lt), .ref (z 5), .ref (z 7), .ref (z 8), .ref (z 9)]) := m_0
  obtain ⟨k1, k2, k3, k4, k5⟩ := hk
  have m_p : M (z ka) = .inr (2, [.int P.1, .int P.2.1, .int P.2.2.1, .int P.2.2.2.1, .int P.2.2.2.2]) := m_p
  obtain ⟨m_1, m_2, m_3, m_4, m_8, m_9⟩ := hF
  obtain ⟨f0, n0, hn0, m_l, m_k⟩ := hY.1 (d + 1) (by omega)
  have m_l : M (z (111 + 3 * (d + 1))) = .inr (1, [.ref (z (112 + 3 * (d + 1))), .int (nI n0)]) := m_l
  obtain ⟨P3, m_s⟩ := hY.2 d (by omega)
  have m_s : M (z (113 + 3 * d)) = .inr (2, [.int P3.1, .int P3.2.1, .int P3.2.2.1, .int P3.2.2.2.1, .int P3.2.2.2.2]) := m_s
  have fR : rgF z (116 + 3 * d) M M := rgF.rf
  rw [show 113 + 3 * (d + 1) = 116 + 3 * d by omega]
  refine mm_enter_i (cc := cX4_countWays) (maxL := 7) (by decide) rfl (Nat.le_of_ble_eq_true rfl) ?_
  intro p e R s m args below meth c A ls H locs Q hR hx hb hml hin hown hts hK hV hl hret
  have hl : lv_has ls 7 [(0, .ref (z 0)), (1, .ref (z ka)), (2, .int x2)] := hl
  have hown : s.vm.findClass RX4 = some m.cls := hown
  have f_42 := hts (.fieldLink RX4 42 "JumpBoard" "lists" "[LJumpBoard$MoveList;") (by decide +kernel)
  have in_X4 : ∀ w ∈ wsX40, w ∈ wsX4_countWays := by decide +kernel
  have f_10 := hts (.fieldLink RX4 10 "JumpBoard" "rules" "LJumpBoard$Rules;") (by decide +kernel)
  have f_46 := hts (.fieldLink RX4 46 "JumpBoard" "spots" "[LJumpBoard$Position;") (by decide +kernel)
  have f_78 := hts (.fieldLink RX4 78 "JumpBoard$MoveList" "count" "I") (by decide +kernel)
  have in_X1 : ∀ w ∈ wsX10, w ∈ wsX4_countWays := by decide +kernel
  have f_85 := hts (.fieldLink RX4 85 "JumpBoard$MoveList" "packed" "[I") (by decide +kernel)
  refine lv_iload_n hx hb dX4_countWays_0 rfl (lv_at hl 2 rfl) ?_
  refine lv_if_gt (tgt := 6) hx hb dX4_countWays_1 (by decide) (fun c1 => ?_) (fun c1 => ?_)
  · refine lv_aload_n hx hb dX4_countWays_6 rfl (lv_at hl 0 rfl) ?_
    refine mm_get (ci := 4) (C := RX4) (T := TX4) (N := 8) hx hb hts in_X4 hown hK hV (hz.1 0 (by omega)) m_0 rfl 6 (by decide) f_42 (fun _ h => h) rfl dX4_countWays_7 ?_
    refine lv_iload_n hx hb dX4_countWays_10 rfl (lv_at hl 2 rfl) ?_
    refine mm_aaldN (j := (d + 1)) (b := (z (111 + 3 * (d + 1)))) hx hb hK hV 5 (hz.1 8 (by omega)) m_8 rfl hx2 (by omega) (by decide) (gzX_at (by omega)) dX4_countWays_11 ?_
    refine lv_astore_n (lv' := [(3, .ref (z (111 + 3 * (d + 1)))), (0, .ref (z 0)), (1, .ref (z ka)), (2, .int x2)]) hx hb dX4_countWays_12 rfl hl (by decide) rfl (fun ls hl => ?_)
    refine lv_aload_n hx hb dX4_countWays_13 rfl (lv_at hl 1 rfl) ?_
    refine mm_get (ci := 4) (C := RX4) (T := TX4) (N := 8) hx hb hts in_X4 hown hK hV (hz.1 0 (by omega)) m_0 rfl 0 (by decide) f_10 (fun _ h => h) rfl dX4_countWays_14 ?_
    refine lv_aload_n hx hb dX4_countWays_17 rfl (lv_at hl 2 rfl) ?_
    refine lv_aload_n hx hb dX4_countWays_18 rfl (lv_at hl 0 rfl) ?_
    refine mm_Vm (ci := 3) (As := [.ref (z ka), .ref (z (111 + 3 * (d + 1)))]) (rest := []) ⟨hx, hb, hml, hown, hts⟩ hK hV (c_listMoves l D dA (P := P) ⟨hz.1 1 (by omega), hz.1 2 (by omega), hz.1 3 (by omega), m_1, m_2, m_3⟩ (hz.1 ka (by omega)) m_p ⟨hz.1 _ (by omega), hz.1 _ (by omega), m_l, m_k, hn0⟩ (hz.ne (by omega) (by omega) (by omega)) (hz.ne (by omega) (by omega) (by omega))) (cwV 2 hts gX4_countWays_X3_listMoves rfl rfl rfl (by decide +kernel) (mm_levR hR (by omega) (by decide))) (hz.1 1 (by omega)) m_1 rfl rfl hl.1 rfl (Nat.le_of_ble_eq_true rfl) dX4_countWays_19 ⟨Nat.zero_le _, Nat.zero_le _⟩ (fun M_1 H locs eM_1 hV => ?_)
    have m_0 : M_1 (z 0) = _ := (congrFun eM_1 (z 0)).trans ((va_up_ne _ _ (hz.ne (i := 0) (j := (112 + 3 * (d + 1))) (by omega) (by omega) (by omega))).trans ((va_up_ne _ _ (hz.ne (i := 0) (j := (111 + 3 * (d + 1))) (by omega) (by omega) (by omega))).trans m_0))
    have m_1 : M_1 (z 1) = _ := (congrFun eM_1 (z 1)).trans ((va_up_ne _ _ (hz.ne (i := 1) (j := (112 + 3 * (d + 1))) (by omega) (by omega) (by omega))).trans ((va_up_ne _ _ (hz.ne (i := 1) (j := (111 + 3 * (d + 1))) (by omega) (by omega) (by omega))).trans m_1))
    have m_2 : M_1 (z 2) = _ := (congrFun eM_1 (z 2)).trans ((va_up_ne _ _ (hz.ne (i := 2) (j := (112 + 3 * (d + 1))) (by omega) (by omega) (by omega))).trans ((va_up_ne _ _ (hz.ne (i := 2) (j := (111 + 3 * (d + 1))) (by omega) (by omega) (by omega))).trans m_2))
    have m_3 : M_1 (z 3) = _ := (congrFun eM_1 (z 3)).trans ((va_up_ne _ _ (hz.ne (i := 3) (j := (112 + 3 * (d + 1))) (by omega) (by omega) (by omega))).trans ((va_up_ne _ _ (hz.ne (i := 3) (j := (111 + 3 * (d + 1))) (by omega) (by omega) (by omega))).trans m_3))
    have m_8 : M_1 (z 8) = _ := (congrFun eM_1 (z 8)).trans ((va_up_ne _ _ (hz.ne (i := 8) (j := (112 + 3 * (d + 1))) (by omega) (by omega) (by omega))).trans ((va_up_ne _ _ (hz.ne (i := 8) (j := (111 + 3 * (d + 1))) (by omega) (by omega) (by omega))).trans m_8))
    have m_9 : M_1 (z 9) = _ := (congrFun eM_1 (z 9)).trans ((va_up_ne _ _ (hz.ne (i := 9) (j := (112 + 3 * (d + 1))) (by omega) (by omega) (by omega))).trans ((va_up_ne _ _ (hz.ne (i := 9) (j := (111 + 3 * (d + 1))) (by omega) (by omega) (by omega))).trans m_9))
    have m_s : M_1 (z (113 + 3 * d)) = _ := (congrFun eM_1 (z (113 + 3 * d))).trans ((va_up_ne _ _ (hz.ne (i := (113 + 3 * d)) (j := (112 + 3 * (d + 1))) (by omega) (by omega) (by omega))).trans ((va_up_ne _ _ (hz.ne (i := (113 + 3 * d)) (j := (111 + 3 * (d + 1))) (by omega) (by omega) (by omega))).trans m_s))
    have m_p : M_1 (z ka) = _ := (congrFun eM_1 (z ka)).trans ((va_up_ne _ _ (hz.ne (i := ka) (j := (112 + 3 * (d + 1))) (by omega) (by omega) (by omega))).trans ((va_up_ne _ _ (hz.ne (i := ka) (j := (111 + 3 * (d + 1))) (by omega) (by omega) (by omega))).trans m_p))
    have m_l : M_1 (z (111 + 3 * (d + 1))) = .inr (1, [.ref (z (112 + 3 * (d + 1))), .int (nI (movesF P f0).2)]) := (congrFun eM_1 (z (111 + 3 * (d + 1)))).trans ((va_up_ne _ _ (hz.ne (i := (111 + 3 * (d + 1))) (j := (112 + 3 * (d + 1))) (by omega) (by omega) (by omega))).trans (va_up_self _ _ _))
    have m_k : M_1 (z (112 + 3 * (d + 1))) = .inl (dA 0, 72, .inl ((movesF P f0).1)) := (congrFun eM_1 (z (112 + 3 * (d + 1)))).trans (va_up_self _ _ _)
    have fR : rgF z (116 + 3 * d) M M_1 := (fR.up (k := (111 + 3 * (d + 1))) (by omega) (by omega) rfl).up (k := (112 + 3 * (d + 1))) (by omega) (by omega) eM_1
    have hY : jY dA M_1 z := hY.list hz (by omega) (movesF_le P f0) eM_1
    have m_4 : M_1 (z 4) = _ := (congrFun eM_1 (z 4)).trans ((va_up_ne _ _ (hz.ne (by omega) (by omega) (by omega))).trans ((va_up_ne _ _ (hz.ne (by omega) (by omega) (by omega))).trans m_4))
    have hnn := mvN_eq P f0
    refine lv_iload_n hx hb dX4_countWays_22 rfl (lv_at hl 3 rfl) ?_
    refine lv_iconst (v := 1) hx hb dX4_countWays_23 (by decide) ?_
    refine lv_icmp_ne (tgt := 32) hx hb dX4_countWays_24 (by decide) (fun c24 => ?_) (fun c24 => ?_)
    · have hd0 : ¬ d = 0 := fun h => c24 (by rw [hx2, h]; rfl)
      refine lv_aload_n hx hb dX4_countWays_32 rfl (lv_at hl 1 rfl) ?_
      refine mm_get (ci := 4) (C := RX4) (T := TX4) (N := 8) hx hb hts in_X4 hown hK hV (hz.1 0 (by omega)) m_0 rfl 7 (by decide) f_46 (fun _ h => h) rfl dX4_countWays_33 ?_
      refine lv_iload_n hx hb dX4_countWays_36 rfl (lv_at hl 3 rfl) ?_
      refine lv_iconst (v := 1) hx hb dX4_countWays_37 (by decide) ?_
      refine lv_isub hx hb dX4_countWays_38 ?_
      refine mm_aaldN (j := d) (b := (z (113 + 3 * d))) hx hb hK hV 4 (hz.1 9 (by omega)) m_9 rfl (by rw [hx2]; exact nI_pred d) (by omega) (by decide) (gzX_at (by omega)) dX4_countWays_39 ?_
      refine lv_astore (lv' := [(4, .ref (z (113 + 3 * d))), (3, .ref (z (111 + 3 * (d + 1)))), (0, .ref (z 0)), (1, .ref (z ka)), (2, .int x2)]) hx hb dX4_countWays_40 hl (by decide) rfl (fun ls hl => ?_)
      refine lv_iconst (v := 0) hx hb dX4_countWays_42 (by decide) ?_
      refine lv_topi (fun x5 ex5 => ?_)
      refine lv_istore (lv' := [(5, .int x5), (4, .ref (z (113 + 3 * d))), (3, .ref (z (111 + 3 * (d + 1)))), (0, .ref (z 0)), (1, .ref (z ka)), (2, .int x2)]) hx hb dX4_countWays_43 hl (by decide) rfl (fun ls hl => ?_)
      refine lv_iconst (v := 0) hx hb dX4_countWays_45 (by decide) ?_
      refine lv_topi (fun x6 ex6 => ?_)
      refine lv_istore (lv' := [(6, .int x6), (5, .int x5), (4, .ref (z (113 + 3 * d))), (3, .ref (z (111 + 3 * (d + 1)))), (0, .ref (z 0)), (1, .ref (z ka)), (2, .int x2)]) hx hb dX4_countWays_46 hl (by decide) rfl (fun ls hl => ?_)
      have LP : ∀ (k i : Nat) (x5 x6 : Int32) (P3 : Ps) (M1 : mm_M) (H : Heap) (locs : List Loc) (ls : Array Slot), i + k = mvN P → x6 = nI i → sumK (fun i => waysF d (followP P (mvA P i))) k i x5 = sumK (fun i => waysF d (followP P (mvA P i))) (mvN P) 0 0 → mm_V A D L M1 s H locs → M1 (z 0) = .inr (4, [.ref (z 1), ev, .ref (z 4), .int (nI lt), .ref (z 5), .ref (z 7), .ref (z 8), .ref (z 9)]) → M1 (z 1) = .inr (3, [.ref (z 2), .ref (z 3)]) → M1 (z 2) = .inl (dA 0, 72, .inl nearT) → M1 (z 3) = .inl (dA 0, 72, .inl behT) → M1 (z 8) = .inl (dA 5, 5, .inr (.inr (.inr (.inr (gzX z 111))))) → M1 (z 9) = .inl (dA 4, 5, .inr (.inr (.inr (.inr (gzX z 113))))) → M1 (z (111 + 3 * (d + 1))) = .inr (1, [.ref (z (112 + 3 * (d + 1))), .int (nI (movesF P f0).2)]) → M1 (z (112 + 3 * (d + 1))) = .inl (dA 0, 72, .inl ((movesF P f0).1)) → M1 (z (113 + 3 * d)) = .inr (2, [.int P3.1, .int P3.2.1, .int P3.2.2.1, .int P3.2.2.2.1, .int P3.2.2.2.2]) → M1 (z ka) = .inr (2, [.int P.1, .int P.2.1, .int P.2.2.1, .int P.2.2.2.1, .int P.2.2.2.2]) → M1 (z 4) = .inl (dA 4, 101, .inr (.inr (.inr (.inr (gzL z))))) → jY dA M1 z → rgF z (116 + 3 * d) M M1 → lv_has ls 7 [(0, .ref (z 0)), (1, .ref (z ka)), (2, .int x2), (3, .ref (z (111 + 3 * (d + 1)))), (4, .ref (z (113 + 3 * d))), (5, .int x5), (6, .int x6)] → W p l e R s m args below meth c H locs 0 0 Q (F0 m 48 ls []) := by
        intro k
        induction k with
        | zero =>
          intro i x5 x6 P3 M1 H locs ls hik hx6 hres hV m_0 m_1 m_2 m_3 m_8 m_9 m_l m_k m_s m_p m_4 hY fR hl
          have h72 := mvN_le P
          refine lv_iload hx hb dX4_countWays_48 (lv_at hl 6 rfl) ?_
          refine lv_aload_n hx hb dX4_countWays_50 rfl (lv_at hl 3 rfl) ?_
          refine mm_get (ci := 1) (C := RX1) (T := TX1) (N := 2) hx hb hts in_X1 hown hK hV (hz.1 (111 + 3 * (d + 1)) (by omega)) m_l rfl 1 (by decide) f_78 (fun _ h => h) rfl dX4_countWays_51 ?_
          refine lv_icmp_ge (tgt := 90) hx hb dX4_countWays_54 (by decide) (fun c54 => ?_) (fun c54 => ?_)
          · have hres2 : x5 = sumK (fun i => waysF d (followP P (mvA P i))) (mvN P) 0 0 := hres
            refine lv_iload hx hb dX4_countWays_90 (lv_at hl 5 rfl) ?_
            exact hret (v := x5) dX4_countWays_92 hV (by decide) (by decide) ⟨rfl, by rw [waysF, if_neg hd0]; exact hres2, hY, fR⟩
          · exact absurd (by rw [hx6, hnn, ← hik]; exact Int32.le_refl _) c54
        | succ k ih2 =>
          intro i x5 x6 P3 M1 H locs ls hik hx6 hres hV m_0 m_1 m_2 m_3 m_8 m_9 m_l m_k m_s m_p m_4 hY fR hl
          have h72 := mvN_le P
          refine lv_iload hx hb dX4_countWays_48 (lv_at hl 6 rfl) ?_
          refine lv_aload_n hx hb dX4_countWays_50 rfl (lv_at hl 3 rfl) ?_
          refine mm_get (ci := 1) (C := RX1) (T := TX1) (N := 2) hx hb hts in_X1 hown hK hV (hz.1 (111 + 3 * (d + 1)) (by omega)) m_l rfl 1 (by decide) f_78 (fun _ h => h) rfl dX4_countWays_51 ?_
          refine lv_icmp_ge (tgt := 90) hx hb dX4_countWays_54 (by decide) (fun c54 => ?_) (fun c54 => ?_)
          · exact absurd c54 (by rw [hx6, hnn]; exact nI_ge (by omega) (by omega))
          · refine lv_aload hx hb dX4_countWays_57 (lv_at hl 4 rfl) ?_
            refine lv_aload_n hx hb dX4_countWays_59 rfl (lv_at hl 1 rfl) ?_
            refine lv_aload_n hx hb dX4_countWays_60 rfl (lv_at hl 3 rfl) ?_
            refine mm_get (ci := 1) (C := RX1) (T := TX1) (N := 2) hx hb hts in_X1 hown hK hV (hz.1 (111 + 3 * (d + 1)) (by omega)) m_l rfl 0 (by decide) f_85 (fun _ h => h) rfl dX4_countWays_61 ?_
            refine lv_iload hx hb dX4_countWays_64 (lv_at hl 6 rfl) ?_
            refine mm_ialdN (j := i) hx hb hK hV (hz.1 (112 + 3 * (d + 1)) (by omega)) m_k hx6 (by omega) (by decide) dX4_countWays_66 ?_
            refine lv_topi (fun pk epk => ?_)
            have hpk : pk = mvA P i := by rw [epk]; exact mvA_eq P f0 (by omega)
            refine mm_Vm (ci := 2) (As := [.ref (z ka), .int pk]) (rest := []) ⟨hx, hb, hml, hown, hts⟩ hK hV (c_follow l D dA (P0 := P3) (P := P) pk (hz.ne (by omega) (by omega) (by omega)) (hz.1 _ (by omega)) (hz.1 ka (by omega)) m_s m_p) (cwV 2 hts gX4_countWays_X2_follow rfl rfl rfl (by decide +kernel) (mm_levR hR (by omega) (by decide))) (hz.1 (113 + 3 * d) (by omega)) m_s rfl rfl hl.1 rfl (Nat.le_of_ble_eq_true rfl) dX4_countWays_67 ⟨Nat.zero_le _, Nat.zero_le _⟩ (fun M_2 H locs eM_2 hV => ?_)
            have m_0 : M_2 (z 0) = _ := (congrFun eM_2 (z 0)).trans ((va_up_ne _ _ (hz.ne (i := 0) (j := (113 + 3 * d)) (by omega) (by omega) (by omega))).trans m_0)
            have m_1 : M_2 (z 1) = _ := (congrFun eM_2 (z 1)).trans ((va_up_ne _ _ (hz.ne (i := 1) (j := (113 + 3 * d)) (by omega) (by omega) (by omega))).trans m_1)
            have m_2 : M_2 (z 2) = _ := (congrFun eM_2 (z 2)).trans ((va_up_ne _ _ (hz.ne (i := 2) (j := (113 + 3 * d)) (by omega) (by omega) (by omega))).trans m_2)
            have m_3 : M_2 (z 3) = _ := (congrFun eM_2 (z 3)).trans ((va_up_ne _ _ (hz.ne (i := 3) (j := (113 + 3 * d)) (by omega) (by omega) (by omega))).trans m_3)
            have m_8 : M_2 (z 8) = _ := (congrFun eM_2 (z 8)).trans ((va_up_ne _ _ (hz.ne (i := 8) (j := (113 + 3 * d)) (by omega) (by omega) (by omega))).trans m_8)
            have m_9 : M_2 (z 9) = _ := (congrFun eM_2 (z 9)).trans ((va_up_ne _ _ (hz.ne (i := 9) (j := (113 + 3 * d)) (by omega) (by omega) (by omega))).trans m_9)
            have m_l : M_2 (z (111 + 3 * (d + 1))) = _ := (congrFun eM_2 (z (111 + 3 * (d + 1)))).trans ((va_up_ne _ _ (hz.ne (i := (111 + 3 * (d + 1))) (j := (113 + 3 * d)) (by omega) (by omega) (by omega))).trans m_l)
            have m_k : M_2 (z (112 + 3 * (d + 1))) = _ := (congrFun eM_2 (z (112 + 3 * (d + 1)))).trans ((va_up_ne _ _ (hz.ne (i := (112 + 3 * (d + 1))) (j := (113 + 3 * d)) (by omega) (by omega) (by omega))).trans m_k)
            have m_p : M_2 (z ka) = _ := (congrFun eM_2 (z ka)).trans ((va_up_ne _ _ (hz.ne (i := ka) (j := (113 + 3 * d)) (by omega) (by omega) (by omega))).trans m_p)
            have m_s : M_2 (z (113 + 3 * d)) = .inr (2, [.int ((followP P pk).1), .int ((followP P pk).2.1), .int ((followP P pk).2.2.1), .int ((followP P pk).2.2.2.1), .int ((followP P pk).2.2.2.2)]) := by rw [eM_2]; exact va_up_self _ _ _
            have fR : rgF z (116 + 3 * d) M M_2 := fR.up (k := (113 + 3 * d)) (by omega) (by omega) eM_2
            have hY : jY dA M_2 z := hY.spot hz (by omega) eM_2
            have m_4 : M_2 (z 4) = _ := (congrFun eM_2 (z 4)).trans ((va_up_ne _ _ (hz.ne (by omega) (by omega) (by omega))).trans m_4)
            refine lv_iload hx hb dX4_countWays_70 (lv_at hl 5 rfl) ?_
            refine lv_aload_n hx hb dX4_countWays_72 rfl (lv_at hl 0 rfl) ?_
            refine lv_aload hx hb dX4_countWays_73 (lv_at hl 4 rfl) ?_
            refine lv_iload_n hx hb dX4_countWays_75 rfl (lv_at hl 2 rfl) ?_
            refine lv_iconst (v := 1) hx hb dX4_countWays_76 (by decide) ?_
            refine lv_isub hx hb dX4_countWays_77 ?_
            refine mm_Vn (ci := 4) (As := [.ref (z (113 + 3 * d)), .int (x2 - 1)]) (rest := [.int x5]) ⟨hx, hb, hml, hown, hts⟩ hK hV (ih M_2 (113 + 3 * d) (followP P pk) (x2 - 1) (by rw [hx2]; exact nI_pred d) m_0 ⟨m_1, m_2, m_3, m_4, m_8, m_9⟩ hY ⟨by omega, by omega, by omega, by omega, by omega⟩ m_s) (cwV 2 hts gX4_countWays_X4_countWays rfl rfl rfl (by decide +kernel) (mm_levR hR (by omega) (by decide))) (hz.1 0 (by omega)) m_0 rfl rfl hl.1 rfl (Nat.le_of_ble_eq_true rfl) dX4_countWays_78 ⟨Nat.zero_le _, Nat.zero_le _⟩ (fun rw M_3 H locs hp hV => ?_)
            obtain ⟨erw, hY, hrg⟩ := hp
            have m_0 : M_3 (z 0) = _ := (hrg.at hz (by omega) (by omega) (by omega)).trans m_0
            have m_1 : M_3 (z 1) = _ := (hrg.at hz (by omega) (by omega) (by omega)).trans m_1
            have m_2 : M_3 (z 2) = _ := (hrg.at hz (by omega) (by omega) (by omega)).trans m_2
            have m_3 : M_3 (z 3) = _ := (hrg.at hz (by omega) (by omega) (by omega)).trans m_3
            have m_8 : M_3 (z 8) = _ := (hrg.at hz (by omega) (by omega) (by omega)).trans m_8
            have m_9 : M_3 (z 9) = _ := (hrg.at hz (by omega) (by omega) (by omega)).trans m_9
            have m_l : M_3 (z (111 + 3 * (d + 1))) = _ := (hrg.at hz (by omega) (by omega) (by omega)).trans m_l
            have m_k : M_3 (z (112 + 3 * (d + 1))) = _ := (hrg.at hz (by omega) (by omega) (by omega)).trans m_k
            have m_s : M_3 (z (113 + 3 * d)) = _ := (hrg.at hz (by omega) (by omega) (by omega)).trans m_s
            have m_p : M_3 (z ka) = _ := (hrg.at hz (by omega) (by omega) (by omega)).trans m_p
            have m_4 : M_3 (z 4) = _ := (hrg.at hz (by omega) (by omega) (by omega)).trans m_4
            have fR : rgF z (116 + 3 * d) M M_3 := fR.tr (hrg.mono (by omega))
            refine lv_iadd hx hb dX4_countWays_81 ?_
            refine lv_topi (fun x5_n ex5_n => ?_)
            refine lv_istore (lv' := [(5, .int x5_n), (0, .ref (z 0)), (1, .ref (z ka)), (2, .int x2), (3, .ref (z (111 + 3 * (d + 1)))), (4, .ref (z (113 + 3 * d))), (6, .int x6)]) hx hb dX4_countWays_82 hl (by decide) rfl (fun ls hl => ?_)
            obtain ⟨x6_n, ex6_n⟩ : ∃ y : Int32, y = x6 + 1 := ⟨_, rfl⟩
            refine lv_iinc (v := x6_n) (lv' := [(6, .int x6_n), (5, .int x5_n), (0, .ref (z 0)), (1, .ref (z ka)), (2, .int x2), (3, .ref (z (111 + 3 * (d + 1)))), (4, .ref (z (113 + 3 * d)))]) hx hb dX4_countWays_84 hl (k := 6) rfl (by rw [ex6_n]; rfl) (by decide) rfl (fun ls hl => ?_)
            refine lv_goto (tgt := 48) hx hb dX4_countWays_87 (by decide) ?_
            exact ih2 (i + 1) x5_n x6_n (followP P pk) M_3 _ _ ls (by omega) (by rw [ex6_n, hx6]; exact nI_1 i) (by rw [← hres, ex5_n, erw, hpk]; rfl) hV m_0 m_1 m_2 m_3 m_8 m_9 m_l m_k m_s m_p m_4 hY fR (lv_sub hl [2, 3, 4, 5, 6, 1, 0] rfl)
      exact LP (mvN P) 0 x5 x6 P3 M_1 H locs ls (by omega) (by rw [ex6]; rfl) (by rw [ex5]) hV m_0 m_1 m_2 m_3 m_8 m_9 m_l m_k m_s m_p m_4 hY fR (lv_sub hl [4, 5, 6, 3, 2, 1, 0] rfl)
    · have hd0 : d = 0 := by have h := (nI_eq (a := d + 1) (b := 1) (by omega) (by decide)).mp (by rw [← hx2]; exact c24); omega
      refine lv_aload_n hx hb dX4_countWays_27 rfl (lv_at hl 0 rfl) ?_
      refine mm_get (ci := 1) (C := RX1) (T := TX1) (N := 2) hx hb hts in_X1 hown hK hV (hz.1 (111 + 3 * (d + 1)) (by omega)) m_l rfl 1 (by decide) f_78 (fun _ h => h) rfl dX4_countWays_28 ?_
      exact hret (v := (nI (movesF P f0).2)) dX4_countWays_31 hV (by decide) (by decide) ⟨rfl, by rw [waysF, if_pos hd0, hnn], hY, fR⟩
  · exact absurd (by rw [hx2]; exact nI_lt (a := 0) (Nat.succ_pos d) (by omega)) c1

/-- countWays -/
theorem c_countWays (l : Launch) (D : va_G) (dA : Nat → ClassId) {L : List Nat} {z : Nat → Nat} {ev : Value} {lt : Nat} (hz : zW L z) : ∀ (d : Nat), d ≤ 4 → ∀ (M : mm_M) (ka : Nat) (P : Ps) (x2 : Int32), x2 = nI d → M (z 0) = jO z ev lt → jF dA M z → jY dA M z → AK d ka → M (z ka) = oP P → mm_Cn l D dA yX4_countWays wsX4_countWays (23 + d) [.ref (z 0), .ref (z ka), .int x2] L M (fun r M1 => r = waysF d P ∧ jY dA M1 z ∧ rgF z (113 + 3 * d) M M1) := by
  intro d
  induction d with
  | zero =>
    intro _ M ka P x2 hx2 m0 hF hY hk hp
    exact c_cw0 l D dA (P := P) x2 hz m0 hF hY hx2
  | succ d ih =>
    intro hd M ka P x2 hx2 m0 hF hY hk hp
    exact c_cw_step l D dA x2 hz (ih (by omega)) m0 hF hY hx2 (by omega) hk hp
