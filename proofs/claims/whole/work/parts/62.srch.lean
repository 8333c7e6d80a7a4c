set_option maxHeartbeats 1000000 in
set_option maxRecDepth 100000 in
theorem c_ways2 (l : Launch) (D : va_G) (dA : Nat → ClassId) {L : List Nat} {M : mm_M} {z : Nat → Nat} {ev : Value} {lt : Nat} {P : Ps} (x : Int32) (hz : zW L z) (m_0 : M (z 0) = jO z ev lt) (hF : jF dA M z) (hY : jY dA M z) (hlt : lt ≤ 100) (m_p : M (z (10 + lt)) = oP P) : mm_Cn l D dA yX4_ways wsX4_ways 28 [.ref (z 0), .int x] L M (fun r M1 => r = waysV P x ∧ jY dA M1 z ∧ M1 (z 0) = jO z ev lt ∧ wfR L z 126 M M1) := by
  have m_0 : M (z 0) = .inr (4, [.ref (z 1), ev, .ref (z 4), .int (nI lt), .ref (z 5), .ref (z 7), .ref (z 8), .ref (z 9)]) := m_0
  have m_p : M (z (10 + lt)) = .inr (2, [.int P.1, .int P.2.1, .int P.2.2.1, .int P.2.2.2.1, .int P.2.2.2.2]) := m_p
  obtain ⟨m_1, m_2, m_3, m_4, m_8, m_9⟩ := hF
  refine mm_enter_i (cc := cX4_ways) (maxL := 2) (by decide) rfl (Nat.le_of_ble_eq_true rfl) ?_
  intro p e R s m args below meth c A ls H locs Q hR hx hb hml hin hown hts hK hV hl hret
  have hl : lv_has ls 2 [(0, .ref (z 0)), (1, .int x)] := hl
  have hown : s.vm.findClass RX4 = some m.cls := hown
  have f_22 := hts (.fieldLink RX4 22 "JumpBoard" "line" "[LJumpBoard$Position;") (by decide +kernel)
  have in_X4 : ∀ w ∈ wsX40, w ∈ wsX4_ways := by decide +kernel
  have f_26 := hts (.fieldLink RX4 26 "JumpBoard" "latest" "I") (by decide +kernel)
  refine lv_iload_n hx hb dX4_ways_0 rfl (lv_at hl 1 rfl) ?_
  refine mm_Sp (v := (isDpF x)) (As := [.int x]) (rest := []) ⟨hx, hb, hml, hown, hts⟩ hK hV (c_isDp l D dA x) (va_cwS 1 hts gX4_ways_X4_isDepth rfl rfl rfl (by decide +kernel) (mm_levR hR (by omega) (by decide))) rfl hl.1 rfl (Nat.le_of_ble_eq_true rfl) dX4_ways_1 ⟨Nat.zero_le _, Nat.zero_le _⟩ (fun H locs hV => ?_)
  refine lv_if_eq (tgt := 24) hx hb dX4_ways_4 (by decide) (fun c4 => ?_) (fun c4 => ?_)
  · refine lv_iconst (v := (-1)) hx hb dX4_ways_24 (by decide) ?_
    exact hret (v := (-1)) dX4_ways_25 hV (by decide) (by decide) ⟨rfl, by unfold waysV; rw [if_pos c4], hY, m_0, wfR.rf⟩
  · obtain ⟨d, hd4, hxd⟩ := isDp_ok c4
    refine lv_aload_n hx hb dX4_ways_7 rfl (lv_at hl 0 rfl) ?_
    refine lv_aload_n hx hb dX4_ways_8 rfl (lv_at hl 0 rfl) ?_
    refine mm_get (ci := 4) (C := RX4) (T := TX4) (N := 8) hx hb hts in_X4 hown hK hV (hz.1 0 (by omega)) m_0 rfl 2 (by decide) f_22 (fun _ h => h) rfl dX4_ways_9 ?_
    refine lv_aload_n hx hb dX4_ways_12 rfl (lv_at hl 0 rfl) ?_
    refine mm_get (ci := 4) (C := RX4) (T := TX4) (N := 8) hx hb hts in_X4 hown hK hV (hz.1 0 (by omega)) m_0 rfl 3 (by decide) f_26 (fun _ h => h) rfl dX4_ways_13 ?_
    refine mm_aaldN (j := lt) (b := (z (10 + lt))) hx hb hK hV 4 (hz.1 4 (by omega)) m_4 rfl rfl (by omega) (by decide) (gzL_at (by omega)) dX4_ways_16 ?_
    refine lv_iload_n hx hb dX4_ways_17 rfl (lv_at hl 1 rfl) ?_
    refine mm_Vn (ci := 4) (As := [.ref (z (10 + lt)), .int x]) (rest := []) ⟨hx, hb, hml, hown, hts⟩ hK hV (c_countWays l D dA hz d hd4 M (10 + lt) P x hxd m_0 ⟨m_1, m_2, m_3, m_4, m_8, m_9⟩ hY ⟨by omega, by omega, by omega, by omega, by omega⟩ m_p) (cwV 2 hts gX4_ways_X4_countWays rfl rfl rfl (by decide +kernel) (mm_levR hR (by omega) (by decide))) (hz.1 0 (by omega)) m_0 rfl rfl hl.1 rfl (Nat.le_of_ble_eq_true rfl) dX4_ways_18 ⟨Nat.zero_le _, Nat.zero_le _⟩ (fun rw9 M9 H locs hp hV => ?_)
    obtain ⟨erw, hY9, hf9⟩ := hp
    refine lv_goto (tgt := 25) hx hb dX4_ways_21 (by decide) ?_
    exact hret (v := rw9) dX4_ways_25 hV (by decide) (by decide) ⟨rfl, by unfold waysV; rw [if_neg c4, erw, hxd, nI_clamp (by omega)], hY9, (hf9 _ (fun k h1 h2 => hz.ne (by omega) (by omega) (by omega))).trans m_0, fun q _ _ hq => hf9 q (fun k h1 h2 => hq k h1 (by omega))⟩


set_option maxHeartbeats 1000000 in
set_option maxRecDepth 100000 in
theorem c_verdict2 (l : Launch) (D : va_G) (dA : Nat → ClassId) {L : List Nat} {M : mm_M} {z : Nat → Nat} {ev : Value} {lt : Nat} {P : Ps} {WF : Ps → Prop} {eb : Bool} (htb : ∀ e, e < 1296 → ∀ j, j < CNx e → NXv e j = nI (NXx e j) ∧ NXx e j < 1297) (wf1 : ∀ P, WF P → ¬ oneP P = 0 → numF P = nI (numF P).toNatClampNeg ∧ (numF P).toNatClampNeg ≤ 1296) (wf2 : ∀ P, WF P → ∀ i, i < mvN P → WF (followP P (mvA P i))) (hz : zW L z) (m_0 : M (z 0) = jO z ev lt) (he : jE dA L M ev eb) (hF : jF dA M z) (hY : jY dA M z) (hlt : lt ≤ 100) (m_p : M (z (10 + lt)) = oP P) (hwf : WF P) : mm_Ci l D dA yX4_verdict wsX4_verdict 24 (kc eb (verdV P eb).2) (ks eb (verdV P eb).2) [.ref (z 0)] L M (fun r L1 M1 => r = (verdV P eb).1 ∧ (∀ q, q ∈ L → q ∈ L1) ∧ (∃ ev, M1 (z 0) = jO z ev lt ∧ jE dA L1 M1 ev (verdV P eb).2) ∧ jY dA M1 z ∧ wfR L z 126 M M1) := by
  have m_0 : M (z 0) = .inr (4, [.ref (z 1), ev, .ref (z 4), .int (nI lt), .ref (z 5), .ref (z 7), .ref (z 8), .ref (z 9)]) := m_0
  have m_p : M (z (10 + lt)) = .inr (2, [.int P.1, .int P.2.1, .int P.2.2.1, .int P.2.2.2.1, .int P.2.2.2.2]) := m_p
  obtain ⟨m_1, m_2, m_3, m_4, m_8, m_9⟩ := hF
  obtain ⟨RW, eRW⟩ : ∃ q, q = verdV P eb := ⟨_, rfl⟩
  rw [← eRW]
  obtain ⟨R1, eR1⟩ : ∃ q, q = RW.1 := ⟨_, rfl⟩
  obtain ⟨R2, eR2⟩ : ∃ q, q = RW.2 := ⟨_, rfl⟩
  rw [← eR1, ← eR2]
  refine mm_enter_i (cc := cX4_verdict) (maxL := 2) (by decide) rfl (Nat.le_of_ble_eq_true rfl) ?_
  intro p e R s m args below meth c A ls H locs Q hR hx hb hml hin hown hts hK hV hl hret
  have hl : lv_has ls 2 [(0, .ref (z 0))] := hl
  have hown : s.vm.findClass RX4 = some m.cls := hown
  have f_22 := hts (.fieldLink RX4 22 "JumpBoard" "line" "[LJumpBoard$Position;") (by decide +kernel)
  have in_X4 : ∀ w ∈ wsX40, w ∈ wsX4_verdict := by decide +kernel
  have f_26 := hts (.fieldLink RX4 26 "JumpBoard" "latest" "I") (by decide +kernel)
  refine lv_aload_n hx hb dX4_verdict_0 rfl (lv_at hl 0 rfl) ?_
  refine mm_get (ci := 4) (C := RX4) (T := TX4) (N := 8) hx hb hts in_X4 hown hK hV (hz.1 0 (by omega)) m_0 rfl 2 (by decide) f_22 (fun _ h => h) rfl dX4_verdict_1 ?_
  refine lv_aload_n hx hb dX4_verdict_4 rfl (lv_at hl 0 rfl) ?_
  refine mm_get (ci := 4) (C := RX4) (T := TX4) (N := 8) hx hb hts in_X4 hown hK hV (hz.1 0 (by omega)) m_0 rfl 3 (by decide) f_26 (fun _ h => h) rfl dX4_verdict_5 ?_
  refine mm_aaldN (j := lt) (b := (z (10 + lt))) hx hb hK hV 4 (hz.1 4 (by omega)) m_4 rfl rfl (by omega) (by decide) (gzL_at (by omega)) dX4_verdict_8 ?_
  refine lv_astore_n (lv' := [(1, .ref (z (10 + lt))), (0, .ref (z 0))]) hx hb dX4_verdict_9 rfl hl (by decide) rfl (fun ls hl => ?_)
  refine lv_aload_n hx hb dX4_verdict_10 rfl (lv_at hl 0 rfl) ?_
  refine mm_Vp (v := (oneP P)) (ci := 2) (As := []) (rest := []) ⟨hx, hb, hml, hown, hts⟩ hK hV (c_isOneEach l D dA (P := P)  (hz.1 (10 + lt) (by omega)) m_p) (cwV 0 hts gX4_verdict_X2_isOneEach rfl rfl rfl (by decide +kernel) (mm_levR hR (by omega) (by decide))) (hz.1 (10 + lt) (by omega)) m_p rfl rfl hl.1 rfl (Nat.le_of_ble_eq_true rfl) dX4_verdict_11 ⟨Nat.zero_le _, Nat.zero_le _⟩ (fun H locs hV => ?_)
  refine lv_if_eq (tgt := 25) hx hb dX4_verdict_14 (by decide) (fun c14 => ?_) (fun c14 => ?_)
  · refine lv_sipush (v := (-2000)) hx hb dX4_verdict_25 (by decide) ?_
    exact hret (v := (-2000)) dX4_verdict_28 hV (Nat.zero_le _) (Nat.zero_le _) ⟨by rw [eR1, eRW, verdV, if_pos c14], fun _ h => h, ⟨ev, m_0, by rw [eR2, eRW, verdV, if_pos c14]; exact he⟩, hY, wfR.rf⟩
  · refine lv_aload_n hx hb dX4_verdict_17 rfl (lv_at hl 1 rfl) ?_
    refine lv_aload_n hx hb dX4_verdict_18 rfl (lv_at hl 0 rfl) ?_
    have hR1 : R1 = VT (numF P).toNatClampNeg := by rw [eR1, eRW, verdV, if_neg c14]
    have hR2 : R2 = true := by rw [eR2, eRW, verdV, if_neg c14]
    have hnum := wf1 P hwf c14
    refine mm_Vi (mc := kc eb true) (ms := ks eb true) (ci := 4) (As := [.ref (z (10 + lt))]) (rest := []) ⟨hx, hb, hml, hown, hts⟩ hK hV (c_judge l D dA htb hz m_0 he ⟨hz.1 1 (by omega), hz.1 2 (by omega), hz.1 3 (by omega), m_1, m_2, m_3⟩ (hz.1 (10 + lt) (by omega)) m_p hnum.1 hnum.2) (cwV 1 hts gX4_verdict_X4_judge rfl rfl rfl (by decide +kernel) (mm_levR hR (by omega) (by decide))) (hz.1 0 (by omega)) m_0 rfl rfl hl.1 rfl (Nat.le_of_ble_eq_true rfl) dX4_verdict_19 (by rw [hR, hR2]; exact ⟨Nat.le_of_eq (Nat.zero_add _), Nat.le_of_eq (Nat.zero_add _)⟩) (fun rj L9 M9 H locs hp hV => ?_)
    obtain ⟨erj, hsub, hev, hf9⟩ := hp
    refine lv_goto (tgt := 28) hx hb dX4_verdict_22 (by decide) ?_
    exact hret (v := rj) dX4_verdict_28 hV (by rw [hR2]; exact Nat.le_of_eq (Nat.zero_add _)) (by rw [hR2]; exact Nat.le_of_eq (Nat.zero_add _)) ⟨by rw [hR1, erj], hsub, (by rw [hR2]; exact hev), ⟨fun i hi => by obtain ⟨f, n, h1, h2, h3⟩ := hY.1 i hi; exact ⟨f, n, h1, (hf9 _ (hz.1 _ (by omega)) (hz.ne (by omega) (by omega) (by omega))).trans h2, (hf9 _ (hz.1 _ (by omega)) (hz.ne (by omega) (by omega) (by omega))).trans h3⟩, fun i hi => by obtain ⟨Q, h1⟩ := hY.2 i hi; exact ⟨Q, (hf9 _ (hz.1 _ (by omega)) (hz.ne (by omega) (by omega) (by omega))).trans h1⟩⟩, fun q h0 h1 _ => hf9 q h0 h1⟩


set_option maxHeartbeats 1000000 in
set_option maxRecDepth 100000 in
theorem c_value2 (l : Launch) (D : va_G) (dA : Nat → ClassId) {L : List Nat} {M : mm_M} {z : Nat → Nat} {ev : Value} {lt : Nat} {P : Ps} {WF : Ps → Prop} {eb : Bool} (x : Int32) (htb : ∀ e, e < 1296 → ∀ j, j < CNx e → NXv e j = nI (NXx e j) ∧ NXx e j < 1297) (wf1 : ∀ P, WF P → ¬ oneP P = 0 → numF P = nI (numF P).toNatClampNeg ∧ (numF P).toNatClampNeg ≤ 1296) (wf2 : ∀ P, WF P → ∀ i, i < mvN P → WF (followP P (mvA P i))) (hz : zW L z) (m_0 : M (z 0) = jO z ev lt) (he : jE dA L M ev eb) (hF : jF dA M z) (hY : jY dA M z) (hlt : lt ≤ 100) (m_p : M (z (10 + lt)) = oP P) (hwf : WF P) : mm_Ci l D dA yX4_value wsX4_value 29 (kc eb (valV P x eb).2) (ks eb (valV P x eb).2) [.ref (z 0), .int x] L M (fun r L1 M1 => r = (valV P x eb).1 ∧ (∀ q, q ∈ L → q ∈ L1) ∧ (∃ ev, M1 (z 0) = jO z ev lt ∧ jE dA L1 M1 ev (valV P x eb).2) ∧ jY dA M1 z ∧ wfR L z 126 M M1) := by
  have m_0 : M (z 0) = .inr (4, [.ref (z 1), ev, .ref (z 4), .int (nI lt), .ref (z 5), .ref (z 7), .ref (z 8), .ref (z 9)]) := m_0
  have m_p : M (z (10 + lt)) = .inr (2, [.int P.1, .int P.2.1, .int P.2.2.1, .int P.2.2.2.1, .int P.2.2.2.2]) := m_p
  obtain ⟨m_1, m_2, m_3, m_4, m_8, m_9⟩ := hF
  obtain ⟨RW, eRW⟩ : ∃ q, q = valV P x eb := ⟨_, rfl⟩
  rw [← eRW]
  obtain ⟨R1, eR1⟩ : ∃ q, q = RW.1 := ⟨_, rfl⟩
  obtain ⟨R2, eR2⟩ : ∃ q, q = RW.2 := ⟨_, rfl⟩
  rw [← eR1, ← eR2]
  refine mm_enter_i (cc := cX4_value) (maxL := 2) (by decide) rfl (Nat.le_of_ble_eq_true rfl) ?_
  intro p e R s m args below meth c A ls H locs Q hR hx hb hml hin hown hts hK hV hl hret
  have hl : lv_has ls 2 [(0, .ref (z 0)), (1, .int x)] := hl
  have hown : s.vm.findClass RX4 = some m.cls := hown
  have f_22 := hts (.fieldLink RX4 22 "JumpBoard" "line" "[LJumpBoard$Position;") (by decide +kernel)
  have in_X4 : ∀ w ∈ wsX40, w ∈ wsX4_value := by decide +kernel
  have f_26 := hts (.fieldLink RX4 26 "JumpBoard" "latest" "I") (by decide +kernel)
  refine lv_iload_n hx hb dX4_value_0 rfl (lv_at hl 1 rfl) ?_
  refine mm_Sp (v := (isDpF x)) (As := [.int x]) (rest := []) ⟨hx, hb, hml, hown, hts⟩ hK hV (c_isDp l D dA x) (va_cwS 1 hts gX4_value_X4_isDepth rfl rfl rfl (by decide +kernel) (mm_levR hR (by omega) (by decide))) rfl hl.1 rfl (Nat.le_of_ble_eq_true rfl) dX4_value_1 ⟨Nat.zero_le _, Nat.zero_le _⟩ (fun H locs hV => ?_)
  refine lv_if_eq (tgt := 30) hx hb dX4_value_4 (by decide) (fun c4 => ?_) (fun c4 => ?_)
  · refine lv_sipush (v := (-2000)) hx hb dX4_value_30 (by decide) ?_
    exact hret (v := (-2000)) dX4_value_33 hV (Nat.zero_le _) (Nat.zero_le _) ⟨by rw [eR1, eRW, valV, if_pos c4], fun _ h => h, ⟨ev, m_0, by rw [eR2, eRW, valV, if_pos c4]; exact he⟩, hY, wfR.rf⟩
  · obtain ⟨d, hd4, hxd⟩ := isDp_ok c4
    refine lv_aload_n hx hb dX4_value_7 rfl (lv_at hl 0 rfl) ?_
    refine lv_aload_n hx hb dX4_value_8 rfl (lv_at hl 0 rfl) ?_
    refine mm_get (ci := 4) (C := RX4) (T := TX4) (N := 8) hx hb hts in_X4 hown hK hV (hz.1 0 (by omega)) m_0 rfl 2 (by decide) f_22 (fun _ h => h) rfl dX4_value_9 ?_
    refine lv_aload_n hx hb dX4_value_12 rfl (lv_at hl 0 rfl) ?_
    refine mm_get (ci := 4) (C := RX4) (T := TX4) (N := 8) hx hb hts in_X4 hown hK hV (hz.1 0 (by omega)) m_0 rfl 3 (by decide) f_26 (fun _ h => h) rfl dX4_value_13 ?_
    refine mm_aaldN (j := lt) (b := (z (10 + lt))) hx hb hK hV 4 (hz.1 4 (by omega)) m_4 rfl rfl (by omega) (by decide) (gzL_at (by omega)) dX4_value_16 ?_
    refine lv_iload_n hx hb dX4_value_17 rfl (lv_at hl 1 rfl) ?_
    refine lv_sipush (v := (-2000)) hx hb dX4_value_18 (by decide) ?_
    refine lv_sipush (v := 2000) hx hb dX4_value_21 (by decide) ?_
    have hRW : RW = wg d P (-2000) 2000 eb := by rw [eRW, valV, if_neg c4, hxd, nI_clamp (by omega)]
    refine mm_Vi (mc := kc eb R2) (ms := ks eb R2) (ci := 4) (As := [.ref (z (10 + lt)), .int x, .int (-2000), .int 2000]) (rest := []) ⟨hx, hb, hml, hown, hts⟩ hK hV (by rw [eR2, hRW]; exact c_weigh l D dA htb wf1 wf2 d hd4 L M eb ev (10 + lt) P x (-2000) 2000 hxd hz m_0 he ⟨m_1, m_2, m_3, m_4, m_8, m_9⟩ hY ⟨by omega, by omega, by omega, by omega, by omega⟩ m_p hwf) (cwV 4 hts gX4_value_X4_weigh rfl rfl rfl (by decide +kernel) (mm_levR hR (by omega) (by decide))) (hz.1 0 (by omega)) m_0 rfl rfl hl.1 rfl (Nat.le_of_ble_eq_true rfl) dX4_value_24 (by rw [hR]; exact ⟨Nat.le_of_eq (Nat.zero_add _), Nat.le_of_eq (Nat.zero_add _)⟩) (fun rj L9 M9 H locs hp hV => ?_)
    obtain ⟨erj, hsub, hev, hY9, hf9⟩ := hp
    refine lv_goto (tgt := 33) hx hb dX4_value_27 (by decide) ?_
    exact hret (v := rj) dX4_value_33 hV (Nat.le_of_eq (Nat.zero_add _)) (Nat.le_of_eq (Nat.zero_add _)) ⟨by rw [eR1, hRW, erj], hsub, (by rw [eR2, hRW]; exact hev), hY9, fun q a b hq => hf9 q a b (fun k h1 h2 => hq k h1 (by omega))⟩

