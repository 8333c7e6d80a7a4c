/-- all but the board's own cell and the rows of a search stays -/
def wfB (L : List Nat) (z : Nat → Nat) (M M1 : mm_M) : Prop := ∀ q : Nat, q ∈ L → (∀ k, (k = 0 ∨ k = 5 ∨ k = 6 ∨ k = 7 ∨ 111 ≤ k) → k < 126 → q ≠ z k) → M1 q = M q
theorem wfB.rf {L : List Nat} {z : Nat → Nat} {M : mm_M} : wfB L z M M := fun _ _ _ => rfl
theorem wfB.tr {L L1 : List Nat} {z : Nat → Nat} {M M1 M2 : mm_M} (h : wfB L z M M1) (hs : ∀ q, q ∈ L → q ∈ L1) (h2 : wfB L1 z M1 M2) : wfB L z M M2 := fun q a hq => (h2 q (hs q a) hq).trans (h q a hq)
theorem wfB.up {L : List Nat} {z : Nat → Nat} {k : Nat} {M M1 M2 : mm_M} {x : va_E} (h : wfB L z M M1) (h1 : k = 0 ∨ k = 5 ∨ k = 6 ∨ k = 7 ∨ 111 ≤ k) (h2 : k < 126) (hM : M2 = va_up M1 (z k) x) : wfB L z M M2 := fun q a hq => by rw [hM, va_up_ne _ _ (hq k h1 h2)]; exact h q a hq
theorem wfR.B {L : List Nat} {z : Nat → Nat} {e : Nat} {M M1 : mm_M} (h : wfR L z e M M1) (he : e ≤ 126) : wfB L z M M1 := fun q a hq => h q a (hq 0 (Or.inl rfl) (by omega)) (fun k h1 h2 => hq k (Or.inr (Or.inr (Or.inr (Or.inr h1)))) (by omega))
theorem rgF.B {L : List Nat} {z : Nat → Nat} {e : Nat} {M M1 : mm_M} (h : rgF z e M M1) (he : e ≤ 126) : wfB L z M M1 := fun q _ hq => h q (fun k h1 h2 => hq k (Or.inr (Or.inr (Or.inr (Or.inr h1)))) (by omega))
theorem isDp_ok {x : Int32} (h : ¬ isDpF x = 0) : ∃ d : Nat, d ≤ 4 ∧ x = nI d := by
  unfold isDpF at h
  by_cases h0 : x < 0
  · rw [if_pos h0] at h; exact absurd rfl h
  · rw [if_neg h0] at h
    by_cases h4 : 4 < x
    · rw [if_pos h4] at h; exact absurd rfl h
    · obtain ⟨j, hj, e⟩ := nI_of h0
      refine ⟨j, Nat.not_lt.mp (fun hl => h4 ?_), e⟩
      rw [e]; exact nI_lt (a := 4) hl hj
def waysV (P : Ps) (x : Int32) : Int32 := if isDpF x = 0 then -1 else waysF x.toNatClampNeg P
def verdV (P : Ps) (e : Bool) : Int32 × Bool := if oneP P = 0 then (-2000, e) else (VT (numF P).toNatClampNeg, true)
def valV (P : Ps) (x : Int32) (e : Bool) : Int32 × Bool := if isDpF x = 0 then (-2000, e) else wg x.toNatClampNeg P (-2000) 2000 e
def bsL (d : Nat) (P : Ps) : Nat → Nat → Int32 → Int32 → Bool → Int32 × Bool
  | 0, _, _, ch, e => (ch, e)
  | k + 1, i, le, ch, e => if le ≤ (wg d (followP P (mvA P i)) (-2000) le e).1 then bsL d P k (i + 1) le ch (wg d (followP P (mvA P i)) (-2000) le e).2 else bsL d P k (i + 1) (wg d (followP P (mvA P i)) (-2000) le e).1 (nI i) (wg d (followP P (mvA P i)) (-2000) le e).2
def bestV (P : Ps) (x : Int32) (e : Bool) : Int32 × Bool := if x < 1 then (-1, e) else if isDpF x = 0 then (-1, e) else bsL (x.toNatClampNeg - 1) P (mvN P) 0 2000 (-1) e
theorem bsL_mono {d : Nat} {P : Ps} : ∀ (k i : Nat) (le ch : Int32) (e : Bool), e = true → (bsL d P k i le ch e).2 = true
  | 0, _, _, _, _, h => h
  | k + 1, i, le, ch, e, h => by
    unfold bsL
    split
    · exact bsL_mono k _ _ _ _ (wg_mono d _ _ _ _ h)
    · exact bsL_mono k _ _ _ _ (wg_mono d _ _ _ _ h)

set_option maxHeartbeats 1000000 in
set_option maxRecDepth 100000 in
theorem c_ways (l : Launch) (D : va_G) (dA : Nat → ClassId) {L : List Nat} {M : mm_M} {z : Nat → Nat} {ev : Value} {lt : Nat} {P : Ps} (x : Int32) (hz : zW L z) (m_0 : M (z 0) = jO z ev lt) (hF : jF dA M z) (hY : jY dA M z) (hlt : lt ≤ 100) (m_p : M (z (10 + lt)) = oP P) : mm_Cn l D dA yX4_ways wsX4_ways 28 [.ref (z 0), .int x] L M (fun r M1 => r = waysV P x ∧ jY dA M1 z ∧ M1 (z 0) = jO z ev lt ∧ wfB L z M M1) := by
  have m_0 : M (z 0) = .inr (4, [.ref (z 1), ev, .ref (z 4), .int (nI lt), .ref (z 5), .ref (z 7), .ref (z 8), .ref (z 9)]) := m_0
  have m_p : M (z (10 + lt)) = .inr (2, [.int P.1, .int P.2.1, .int P.2.2.1, .int P.2.2.2.1, .int P.2.2.2.2]) := m_p
  obtain ⟨m_1, m_2, m_3, m_4, m_8, m_9⟩ := hF
  refine mm_enter_i (cc := cX4_ways) (maxL := 2) (by decide) rfl (Nat.le_of_ble_eq_true rfl) ?_
  intro p e R s m args below meth c A ls H locs Q hR hx hb hml hin hown hts hK hV hl hret
  have hl : lv_has ls 2 [(0, .ref (z 0)), (1, .int x)] := hl
  have hown : s.vm.findClass RX4 = some m.cls := hown
  have f_22 := hts (.fieldLink RX4 22 "JumpBoard" "line" "[LJumpBoard$Position;") (by decide +kernel)
  have in_X4 : ∀ w ∈ wsX40, w ∈ wsX4_ways := by decide +kernel
  have f_26 := hts (.fieldLink RX4 26 "JumpBoard" "latest" "I") (by decide +kernel)
  refine lv_iload_n hx hb dX4_ways_0 rfl (lv_at hl 1 rfl) ?_
  refine mm_Sp (v := (isDpF x)) (As := [.int x]) (rest := []) ⟨hx, hb, hml, hown, hts⟩ hK hV (c_isDp l D dA x) (va_cwS 1 hts gX4_ways_X4_isDepth rfl rfl rfl (by decide +kernel) (mm_levR hR (by omega) (by decide))) rfl hl.1 rfl (Nat.le_of_ble_eq_true rfl) dX4_ways_1 ⟨Nat.zero_le _, Nat.zero_le _⟩ (fun H locs hV => ?_)
  refine lv_if_eq (tgt := 24) hx hb dX4_ways_4 (by decide) (fun c4 => ?_) (fun c4 => ?_)
  · refine lv_iconst (v := (-1)) hx hb dX4_ways_24 (by decide) ?_
    exact hret (v := (-1)) dX4_ways_25 hV (by decide) (by decide) ⟨rfl, by unfold waysV; rw [if_pos c4], hY, m_0, wfB.rf⟩
  · obtain ⟨d, hd4, hxd⟩ := isDp_ok c4
    refine lv_aload_n hx hb dX4_ways_7 rfl (lv_at hl 0 rfl) ?_
    refine lv_aload_n hx hb dX4_ways_8 rfl (lv_at hl 0 rfl) ?_
    refine mm_get (ci := 4) (C := RX4) (T := TX4) (N := 8) hx hb hts in_X4 hown hK hV (hz.1 0 (by omega)) m_0 rfl 2 (by decide) f_22 (fun _ h => h) rfl dX4_ways_9 ?_
    refine lv_aload_n hx hb dX4_ways_12 rfl (lv_at hl 0 rfl) ?_
    refine mm_get (ci := 4) (C := RX4) (T := TX4) (N := 8) hx hb hts in_X4 hown hK hV (hz.1 0 (by omega)) m_0 rfl 3 (by decide) f_26 (fun _ h => h) rfl dX4_ways_13 ?_
    refine mm_aaldN (j := lt) (b := (z (10 + lt))) hx hb hK hV 4 (hz.1 4 (by omega)) m_4 rfl rfl (by omega) (by decide) (gzL_at (by omega)) dX4_ways_16 ?_
    refine lv_iload_n hx hb dX4_ways_17 rfl (lv_at hl 1 rfl) ?_
    refine mm_Vn (ci := 4) (As := [.ref (z (10 + lt)), .int x]) (rest := []) ⟨hx, hb, hml, hown, hts⟩ hK hV (c_countWays l D dA hz d hd4 M (10 + lt) P x hxd m_0 ⟨m_1, m_2, m_3, m_4, m_8, m_9⟩ hY ⟨by omega, by omega, by omega, by omega, by omega⟩ m_p) (cwV 2 hts gX4_ways_X4_countWays rfl rfl rfl (by decide +kernel) (mm_levR hR (by omega) (by decide))) (hz.1 0 (by omega)) m_0 rfl rfl hl.1 rfl (Nat.le_of_ble_eq_true rfl) dX4_ways_18 ⟨Nat.zero_le _, Nat.zero_le _⟩ (fun rw9 M9 H locs hp hV => ?_)
    obtain ⟨erw, hY9, hf9⟩ := hp
    refine lv_goto (tgt := 25) hx hb dX4_ways_21 (by decide) ?_
    exact hret (v := rw9) dX4_ways_25 hV (by decide) (by decide) ⟨rfl, by unfold waysV; rw [if_neg c4, erw, hxd, nI_clamp (by omega)], hY9, (hf9 _ (fun k h1 h2 => hz.ne (by omega) (by omega) (by omega))).trans m_0, hf9.B (by omega)⟩

set_option maxHeartbeats 1000000 in
set_option maxRecDepth 100000 in
theorem c_verdict (l : Launch) (D : va_G) (dA : Nat → ClassId) {L : List Nat} {M : mm_M} {z : Nat → Nat} {ev : Value} {lt : Nat} {P : Ps} {WF : Ps → Prop} {eb : Bool} (htb : ∀ e, e < 1296 → ∀ j, j < CNx e → NXv e j = nI (NXx e j) ∧ NXx e j < 1297) (wf1 : ∀ P, WF P → ¬ oneP P = 0 → numF P = nI (numF P).toNatClampNeg ∧ (numF P).toNatClampNeg ≤ 1296) (wf2 : ∀ P, WF P → ∀ i, i < mvN P → WF (followP P (mvA P i))) (hz : zW L z) (m_0 : M (z 0) = jO z ev lt) (he : jE dA L M ev eb) (hF : jF dA M z) (hY : jY dA M z) (hlt : lt ≤ 100) (m_p : M (z (10 + lt)) = oP P) (hwf : WF P) : mm_Ci l D dA yX4_verdict wsX4_verdict 24 (kc eb (verdV P eb).2) (ks eb (verdV P eb).2) [.ref (z 0)] L M (fun r L1 M1 => r = (verdV P eb).1 ∧ (∀ q, q ∈ L → q ∈ L1) ∧ (∃ ev, M1 (z 0) = jO z ev lt ∧ jE dA L1 M1 ev (verdV P eb).2) ∧ jY dA M1 z ∧ wfB L z M M1) := by
  have m_0 : M (z 0) = .inr (4, [.ref (z 1), ev, .ref (z 4), .int (nI lt), .ref (z 5), .ref (z 7), .ref (z 8), .ref (z 9)]) := m_0
  have m_p : M (z (10 + lt)) = .inr (2, [.int P.1, .int P.2.1, .int P.2.2.1, .int P.2.2.2.1, .int P.2.2.2.2]) := m_p
  obtain ⟨m_1, m_2, m_3, m_4, m_8, m_9⟩ := hF
  obtain ⟨RW, eRW⟩ : ∃ q, q = verdV P eb := ⟨_, rfl⟩
  rw [← eRW]
  obtain ⟨R1, eR1⟩ : ∃ q, q = RW.1 := ⟨_, rfl⟩
  obtain ⟨R2, eR2⟩ : ∃ q, q = RW.2 := ⟨_, rfl⟩
  rw [← eR1, ← eR2]
  refine mm_enter_i (cc := cX4_verdict) (maxL := 2) (by decide) rfl (Nat.le_of_ble_eq_true rfl) ?_
  intro p e R s m args below meth c A ls H locs Q hR hx hb hml hin hown hts hK hV hl hret
  have hl : lv_has ls 2 [(0, .ref (z 0))] := hl
  have hown : s.vm.findClass RX4 = some m.cls := hown
  have f_22 := hts (.fieldLink RX4 22 "JumpBoard" "line" "[LJumpBoard$Position;") (by decide +kernel)
  have in_X4 : ∀ w ∈ wsX40, w ∈ wsX4_verdict := by decide +kernel
  have f_26 := hts (.fieldLink RX4 26 "JumpBoard" "latest" "I") (by decide +kernel)
  refine lv_aload_n hx hb dX4_verdict_0 rfl (lv_at hl 0 rfl) ?_
  refine mm_get (ci := 4) (C := RX4) (T := TX4) (N := 8) hx hb hts in_X4 hown hK hV (hz.1 0 (by omega)) m_0 rfl 2 (by decide) f_22 (fun _ h => h) rfl dX4_verdict_1 ?_
  refine lv_aload_n hx hb dX4_verdict_4 rfl (lv_at hl 0 rfl) ?_
  refine mm_get (ci := 4) (C := RX4) (T := TX4) (N := 8) hx hb hts in_X4 hown hK hV (hz.1 0 (by omega)) m_0 rfl 3 (by decide) f_26 (fun _ h => h) rfl dX4_verdict_5 ?_
  refine mm_aaldN (j := lt) (b := (z (10 + lt))) hx hb hK hV 4 (hz.1 4 (by omega)) m_4 rfl rfl (by omega) (by decide) (gzL_at (by omega)) dX4_verdict_8 ?_
  refine lv_astore_n (lv' := [(1, .ref (z (10 + lt))), (0, .ref (z 0))]) hx hb dX4_verdict_9 rfl hl (by decide) rfl (fun ls hl => ?_)
  refine lv_aload_n hx hb dX4_verdict_10 rfl (lv_at hl 0 rfl) ?_
  refine mm_Vp (v := (oneP P)) (ci := 2) (As := []) (rest := []) ⟨hx, hb, hml, hown, hts⟩ hK hV (c_isOneEach l D dA (P := P)  (hz.1 (10 + lt) (by omega)) m_p) (cwV 0 hts gX4_verdict_X2_isOneEach rfl rfl rfl (by decide +kernel) (mm_levR hR (by omega) (by decide))) (hz.1 (10 + lt) (by omega)) m_p rfl rfl hl.1 rfl (Nat.le_of_ble_eq_true rfl) dX4_verdict_11 ⟨Nat.zero_le _, Nat.zero_le _⟩ (fun H locs hV => ?_)
  refine lv_if_eq (tgt := 25) hx hb dX4_verdict_14 (by decide) (fun c14 => ?_) (fun c14 => ?_)
  · refine lv_sipush (v := (-2000)) hx hb dX4_verdict_25 (by decide) ?_
    exact hret (v := (-2000)) dX4_verdict_28 hV (Nat.zero_le _) (Nat.zero_le _) ⟨by rw [eR1, eRW, verdV, if_pos c14], fun _ h => h, ⟨ev, m_0, by rw [eR2, eRW, verdV, if_pos c14]; exact he⟩, hY, wfB.rf⟩
  · refine lv_aload_n hx hb dX4_verdict_17 rfl (lv_at hl 1 rfl) ?_
    refine lv_aload_n hx hb dX4_verdict_18 rfl (lv_at hl 0 rfl) ?_
    have hR1 : R1 = VT (numF P).toNatClampNeg := by rw [eR1, eRW, verdV, if_neg c14]
    have hR2 : R2 = true := by rw [eR2, eRW, verdV, if_neg c14]
    have hnum := wf1 P hwf c14
    refine mm_Vi (mc := kc eb true) (ms := ks eb true) (ci := 4) (As := [.ref (z (10 + lt))]) (rest := []) ⟨hx, hb, hml, hown, hts⟩ hK hV (c_judge l D dA htb hz m_0 he ⟨hz.1 1 (by omega), hz.1 2 (by omega), hz.1 3 (by omega), m_1, m_2, m_3⟩ (hz.1 (10 + lt) (by omega)) m_p hnum.1 hnum.2) (cwV 1 hts gX4_verdict_X4_judge rfl rfl rfl (by decide +kernel) (mm_levR hR (by omega) (by decide))) (hz.1 0 (by omega)) m_0 rfl rfl hl.1 rfl (Nat.le_of_ble_eq_true rfl) dX4_verdict_19 (by rw [hR, hR2]; exact ⟨Nat.le_of_eq (Nat.zero_add _), Nat.le_of_eq (Nat.zero_add _)⟩) (fun rj L9 M9 H locs hp hV => ?_)
    obtain ⟨erj, hsub, hev, hf9⟩ := hp
    refine lv_goto (tgt := 28) hx hb dX4_verdict_22 (by decide) ?_
    exact hret (v := rj) dX4_verdict_28 hV (by rw [hR2]; exact Nat.le_of_eq (Nat.zero_add _)) (by rw [hR2]; exact Nat.le_of_eq (Nat.zero_add _)) ⟨by rw [hR1, erj], hsub, (by rw [hR2]; exact hev), ⟨fun i hi => by obtain ⟨f, n, h1, h2, h3⟩ := hY.1 i hi; exact ⟨f, n, h1, (hf9 _ (hz.1 _ (by omega)) (hz.ne (by omega) (by omega) (by omega))).trans h2, (hf9 _ (hz.1 _ (by omega)) (hz.ne (by omega) (by omega) (by omega))).trans h3⟩, fun i hi => by obtain ⟨Q, h1⟩ := hY.2 i hi; exact ⟨Q, (hf9 _ (hz.1 _ (by omega)) (hz.ne (by omega) (by omega) (by omega))).trans h1⟩⟩, fun q h0 h1 => hf9 q h0 (h1 0 (Or.inl rfl) (by omega))⟩

set_option maxHeartbeats 1000000 in
set_option maxRecDepth 100000 in
theorem c_value (l : Launch) (D : va_G) (dA : Nat → ClassId) {L : List Nat} {M : mm_M} {z : Nat → Nat} {ev : Value} {lt : Nat} {P : Ps} {WF : Ps → Prop} {eb : Bool} (x : Int32) (htb : ∀ e, e < 1296 → ∀ j, j < CNx e → NXv e j = nI (NXx e j) ∧ NXx e j < 1297) (wf1 : ∀ P, WF P → ¬ oneP P = 0 → numF P = nI (numF P).toNatClampNeg ∧ (numF P).toNatClampNeg ≤ 1296) (wf2 : ∀ P, WF P → ∀ i, i < mvN P → WF (followP P (mvA P i))) (hz : zW L z) (m_0 : M (z 0) = jO z ev lt) (he : jE dA L M ev eb) (hF : jF dA M z) (hY : jY dA M z) (hlt : lt ≤ 100) (m_p : M (z (10 + lt)) = oP P) (hwf : WF P) : mm_Ci l D dA yX4_value wsX4_value 29 (kc eb (valV P x eb).2) (ks eb (valV P x eb).2) [.ref (z 0), .int x] L M (fun r L1 M1 => r = (valV P x eb).1 ∧ (∀ q, q ∈ L → q ∈ L1) ∧ (∃ ev, M1 (z 0) = jO z ev lt ∧ jE dA L1 M1 ev (valV P x eb).2) ∧ jY dA M1 z ∧ wfB L z M M1) := by
  have m_0 : M (z 0) = .inr (4, [.ref (z 1), ev, .ref (z 4), .int (nI lt), .ref (z 5), .ref (z 7), .ref (z 8), .ref (z 9)]) := m_0
  have m_p : M (z (10 + lt)) = .inr (2, [.int P.1, .int P.2.1, .int P.2.2.1, .int P.2.2.2.1, .int P.2.2.2.2]) := m_p
  obtain ⟨m_1, m_2, m_3, m_4, m_8, m_9⟩ := hF
  obtain ⟨RW, eRW⟩ : ∃ q, q = valV P x eb := ⟨_, rfl⟩
  rw [← eRW]
  obtain ⟨R1, eR1⟩ : ∃ q, q = RW.1 := ⟨_, rfl⟩
  obtain ⟨R2, eR2⟩ : ∃ q, q = RW.2 := ⟨_, rfl⟩
  rw [← eR1, ← eR2]
  refine mm_enter_i (cc := cX4_value) (maxL := 2) (by decide) rfl (Nat.le_of_ble_eq_true rfl) ?_
  intro p e R s m args below meth c A ls H locs Q hR hx hb hml hin hown hts hK hV hl hret
  have hl : lv_has ls 2 [(0, .ref (z 0)), (1, .int x)] := hl
  have hown : s.vm.findClass RX4 = some m.cls := hown
  have f_22 := hts (.fieldLink RX4 22 "JumpBoard" "line" "[LJumpBoard$Position;") (by decide +kernel)
  have in_X4 : ∀ w ∈ wsX40, w ∈ wsX4_value := by decide +kernel
  have f_26 := hts (.fieldLink RX4 26 "JumpBoard" "latest" "I") (by decide +kernel)
  refine lv_iload_n hx hb dX4_value_0 rfl (lv_at hl 1 rfl) ?_
  refine mm_Sp (v := (isDpF x)) (As := [.int x]) (rest := []) ⟨hx, hb, hml, hown, hts⟩ hK hV (c_isDp l D dA x) (va_cwS 1 hts gX4_value_X4_isDepth rfl rfl rfl (by decide +kernel) (mm_levR hR (by omega) (by decide))) rfl hl.1 rfl (Nat.le_of_ble_eq_true rfl) dX4_value_1 ⟨Nat.zero_le _, Nat.zero_le _⟩ (fun H locs hV => ?_)
  refine lv_if_eq (tgt := 30) hx hb dX4_value_4 (by decide) (fun c4 => ?_) (fun c4 => ?_)
  · refine lv_sipush (v := (-2000)) hx hb dX4_value_30 (by decide) ?_
    exact hret (v := (-2000)) dX4_value_33 hV (Nat.zero_le _) (Nat.zero_le _) ⟨by rw [eR1, eRW, valV, if_pos c4], fun _ h => h, ⟨ev, m_0, by rw [eR2, eRW, valV, if_pos c4]; exact he⟩, hY, wfB.rf⟩
  · obtain ⟨d, hd4, hxd⟩ := isDp_ok c4
    refine lv_aload_n hx hb dX4_value_7 rfl (lv_at hl 0 rfl) ?_
    refine lv_aload_n hx hb dX4_value_8 rfl (lv_at hl 0 rfl) ?_
    refine mm_get (ci := 4) (C := RX4) (T := TX4) (N := 8) hx hb hts in_X4 hown hK hV (hz.1 0 (by omega)) m_0 rfl 2 (by decide) f_22 (fun _ h => h) rfl dX4_value_9 ?_
    refine lv_aload_n hx hb dX4_value_12 rfl (lv_at hl 0 rfl) ?_
    refine mm_get (ci := 4) (C := RX4) (T := TX4) (N := 8) hx hb hts in_X4 hown hK hV (hz.1 0 (by omega)) m_0 rfl 3 (by decide) f_26 (fun _ h => h) rfl dX4_value_13 ?_
    refine mm_aaldN (j := lt) (b := (z (10 + lt))) hx hb hK hV 4 (hz.1 4 (by omega)) m_4 rfl rfl (by omega) (by decide) (gzL_at (by omega)) dX4_value_16 ?_
    refine lv_iload_n hx hb dX4_value_17 rfl (lv_at hl 1 rfl) ?_
    refine lv_sipush (v := (-2000)) hx hb dX4_value_18 (by decide) ?_
    refine lv_sipush (v := 2000) hx hb dX4_value_21 (by decide) ?_
    have hRW : RW = wg d P (-2000) 2000 eb := by rw [eRW, valV, if_neg c4, hxd, nI_clamp (by omega)]
    refine mm_Vi (mc := kc eb R2) (ms := ks eb R2) (ci := 4) (As := [.ref (z (10 + lt)), .int x, .int (-2000), .int 2000]) (rest := []) ⟨hx, hb, hml, hown, hts⟩ hK hV (by rw [eR2, hRW]; exact c_weigh l D dA htb wf1 wf2 d hd4 L M eb ev (10 + lt) P x (-2000) 2000 hxd hz m_0 he ⟨m_1, m_2, m_3, m_4, m_8, m_9⟩ hY ⟨by omega, by omega, by omega, by omega, by omega⟩ m_p hwf) (cwV 4 hts gX4_value_X4_weigh rfl rfl rfl (by decide +kernel) (mm_levR hR (by omega) (by decide))) (hz.1 0 (by omega)) m_0 rfl rfl hl.1 rfl (Nat.le_of_ble_eq_true rfl) dX4_value_24 (by rw [hR]; exact ⟨Nat.le_of_eq (Nat.zero_add _), Nat.le_of_eq (Nat.zero_add _)⟩) (fun rj L9 M9 H locs hp hV => ?_)
    obtain ⟨erj, hsub, hev, hY9, hf9⟩ := hp
    refine lv_goto (tgt := 33) hx hb dX4_value_27 (by decide) ?_
    exact hret (v := rj) dX4_value_33 hV (Nat.le_of_eq (Nat.zero_add _)) (Nat.le_of_eq (Nat.zero_add _)) ⟨by rw [eR1, hRW, erj], hsub, (by rw [eR2, hRW]; exact hev), hY9, hf9.B (by omega)⟩

set_option maxHeartbeats 1000000 in
set_option maxRecDepth 100000 in
theorem c_best (l : Launch) (D : va_G) (dA : Nat → ClassId) {L : List Nat} {M : mm_M} {z : Nat → Nat} {ev : Value} {lt : Nat} {P : Ps} {WF : Ps → Prop} {eb : Bool} {f0 : Nat → Int32} {n0 : Nat} {P7 : Ps} (x : Int32) (htb : ∀ e, e < 1296 → ∀ j, j < CNx e → NXv e j = nI (NXx e j) ∧ NXx e j < 1297) (wf1 : ∀ P, WF P → ¬ oneP P = 0 → numF P = nI (numF P).toNatClampNeg ∧ (numF P).toNatClampNeg ≤ 1296) (wf2 : ∀ P, WF P → ∀ i, i < mvN P → WF (followP P (mvA P i))) (hz : zW L z) (m_0 : M (z 0) = jO z ev lt) (he : jE dA L M ev eb) (hF : jF dA M z) (hY : jY dA M z) (hlt : lt ≤ 100) (m_p : M (z (10 + lt)) = oP P) (hwf : WF P) (hli : liW dA L M (z 5) (z 6) f0 n0) (m_7 : M (z 7) = oP P7) : mm_Ci l D dA yX4_best wsX4_best 30 (kc eb (bestV P x eb).2) (ks eb (bestV P x eb).2) [.ref (z 0), .int x] L M (fun r L1 M1 => r = (bestV P x eb).1 ∧ (∀ q, q ∈ L → q ∈ L1) ∧ (∃ ev, M1 (z 0) = jO z ev lt ∧ jE dA L1 M1 ev (bestV P x eb).2) ∧ jY dA M1 z ∧ wfB L z M M1 ∧ jT dA M1 (z 5) (z 6) ∧ ∃ Q, M1 (z 7) = oP Q) := by
  have m_0 : M (z 0) = .inr (4, [.ref (z 1), ev, .ref (z 4), .int (nI lt), .ref (z 5), .ref (z 7), .ref (z 8), .ref (z 9)]) := m_0
  have m_p : M (z (10 + lt)) = .inr (2, [.int P.1, .int P.2.1, .int P.2.2.1, .int P.2.2.2.1, .int P.2.2.2.2]) := m_p
  obtain ⟨m_1, m_2, m_3, m_4, m_8, m_9⟩ := hF
  obtain ⟨RW, eRW⟩ : ∃ q, q = bestV P x eb := ⟨_, rfl⟩
  rw [← eRW]
  obtain ⟨R1, eR1⟩ : ∃ q, q = RW.1 := ⟨_, rfl⟩
  obtain ⟨R2, eR2⟩ : ∃ q, q = RW.2 := ⟨_, rfl⟩
  rw [← eR1, ← eR2]
  obtain ⟨-, -, m_5, m_6, hn0⟩ := id hli
  have m_5 : M (z 5) = .inr (1, [.ref (z 6), .int (nI n0)]) := m_5
  have m_7 : M (z 7) = .inr (2, [.int P7.1, .int P7.2.1, .int P7.2.2.1, .int P7.2.2.2.1, .int P7.2.2.2.2]) := m_7
  have fB : wfB L z M M := wfB.rf
  refine mm_enter_i (cc := cX4_best) (maxL := 7) (by decide) rfl (Nat.le_of_ble_eq_true rfl) ?_
  intro p e R s m args below meth c A ls H locs Q hR hx hb hml hin hown hts hK hV hl hret
  have hl : lv_has ls 7 [(0, .ref (z 0)), (1, .int x)] := hl
  have hown : s.vm.findClass RX4 = some m.cls := hown
  have f_38 := hts (.fieldLink RX4 38 "JumpBoard" "after" "LJumpBoard$Position;") (by decide +kernel)
  have in_X4 : ∀ w ∈ wsX40, w ∈ wsX4_best := by decide +kernel
  have f_22 := hts (.fieldLink RX4 22 "JumpBoard" "line" "[LJumpBoard$Position;") (by decide +kernel)
  have f_26 := hts (.fieldLink RX4 26 "JumpBoard" "latest" "I") (by decide +kernel)
  have f_33 := hts (.fieldLink RX4 33 "JumpBoard" "list" "LJumpBoard$MoveList;") (by decide +kernel)
  have f_85 := hts (.fieldLink RX4 85 "JumpBoard$MoveList" "packed" "[I") (by decide +kernel)
  have in_X1 : ∀ w ∈ wsX10, w ∈ wsX4_best := by decide +kernel
  refine lv_iload_n hx hb dX4_best_0 rfl (lv_at hl 1 rfl) ?_
  refine lv_iconst (v := 1) hx hb dX4_best_1 (by decide) ?_
  refine lv_icmp_lt (tgt := 12) hx hb dX4_best_2 (by decide) (fun c2 => ?_) (fun c2 => ?_)
  · refine lv_iconst (v := (-1)) hx hb dX4_best_12 (by decide) ?_
    exact hret (v := (-1)) dX4_best_13 hV (Nat.zero_le _) (Nat.zero_le _) ⟨by rw [eR1, eRW, bestV, if_pos c2], fun _ h => h, ⟨ev, m_0, by rw [eR2, eRW, bestV, if_pos c2]; exact he⟩, hY, fB, ⟨_, _, hn0, m_5, m_6⟩, ⟨_, m_7⟩⟩
  · refine lv_iload_n hx hb dX4_best_5 rfl (lv_at hl 1 rfl) ?_
    refine mm_Sp (v := (isDpF x)) (As := [.int x]) (rest := []) ⟨hx, hb, hml, hown, hts⟩ hK hV (c_isDp l D dA x) (va_cwS 1 hts gX4_best_X4_isDepth rfl rfl rfl (by decide +kernel) (mm_levR hR (by omega) (by decide))) rfl hl.1 rfl (Nat.le_of_ble_eq_true rfl) dX4_best_6 ⟨Nat.zero_le _, Nat.zero_le _⟩ (fun H locs hV => ?_)
    refine lv_if_ne (tgt := 14) hx hb dX4_best_9 (by decide) (fun c9 => ?_) (fun c9 => ?_)
    · obtain ⟨d, hd4, hxd⟩ := isDp_ok c9
      have hd1 : 0 < d := Nat.pos_of_ne_zero (fun h => c2 (by rw [hxd, h]; decide))
      have hRW : RW = bsL (d - 1) P (mvN P) 0 2000 (-1) eb := by rw [eRW, bestV, if_neg c2, if_neg c9, hxd, nI_clamp (by omega)]
      refine lv_aload_n hx hb dX4_best_14 rfl (lv_at hl 0 rfl) ?_
      refine mm_Vn (ci := 4) (As := []) (rest := []) ⟨hx, hb, hml, hown, hts⟩ hK hV (c_moves l D dA hz m_0 m_4 hlt m_p ⟨hz.1 1 (by omega), hz.1 2 (by omega), hz.1 3 (by omega), m_1, m_2, m_3⟩ ⟨hz.1 5 (by omega), hz.1 6 (by omega), m_5, m_6, hn0⟩) (cwV 0 hts gX4_best_X4_moves rfl rfl rfl (by decide +kernel) (mm_levR hR (by omega) (by decide))) (hz.1 0 (by omega)) m_0 rfl rfl hl.1 rfl (Nat.le_of_ble_eq_true rfl) dX4_best_15 ⟨Nat.zero_le _, Nat.zero_le _⟩ (fun rm M_1 H locs hp hV => ?_)
      obtain ⟨erm, eM_1⟩ := hp
      have q_5 := m_5
      have q_6 := m_6
      have m_0 : M_1 (z 0) = _ := (congrFun eM_1 (z 0)).trans ((va_up_ne _ _ (hz.ne (i := 0) (j := 6) (by omega) (by omega) (by omega))).trans ((va_up_ne _ _ (hz.ne (i := 0) (j := 5) (by omega) (by omega) (by omega))).trans m_0))
      have m_1 : M_1 (z 1) = _ := (congrFun eM_1 (z 1)).trans ((va_up_ne _ _ (hz.ne (i := 1) (j := 6) (by omega) (by omega) (by omega))).trans ((va_up_ne _ _ (hz.ne (i := 1) (j := 5) (by omega) (by omega) (by omega))).trans m_1))
      have m_2 : M_1 (z 2) = _ := (congrFun eM_1 (z 2)).trans ((va_up_ne _ _ (hz.ne (i := 2) (j := 6) (by omega) (by omega) (by omega))).trans ((va_up_ne _ _ (hz.ne (i := 2) (j := 5) (by omega) (by omega) (by omega))).trans m_2))
      have m_3 : M_1 (z 3) = _ := (congrFun eM_1 (z 3)).trans ((va_up_ne _ _ (hz.ne (i := 3) (j := 6) (by omega) (by omega) (by omega))).trans ((va_up_ne _ _ (hz.ne (i := 3) (j := 5) (by omega) (by omega) (by omega))).trans m_3))
      have m_4 : M_1 (z 4) = _ := (congrFun eM_1 (z 4)).trans ((va_up_ne _ _ (hz.ne (i := 4) (j := 6) (by omega) (by omega) (by omega))).trans ((va_up_ne _ _ (hz.ne (i := 4) (j := 5) (by omega) (by omega) (by omega))).trans m_4))
      have m_8 : M_1 (z 8) = _ := (congrFun eM_1 (z 8)).trans ((va_up_ne _ _ (hz.ne (i := 8) (j := 6) (by omega) (by omega) (by omega))).trans ((va_up_ne _ _ (hz.ne (i := 8) (j := 5) (by omega) (by omega) (by omega))).trans m_8))
      have m_9 : M_1 (z 9) = _ := (congrFun eM_1 (z 9)).trans ((va_up_ne _ _ (hz.ne (i := 9) (j := 6) (by omega) (by omega) (by omega))).trans ((va_up_ne _ _ (hz.ne (i := 9) (j := 5) (by omega) (by omega) (by omega))).trans m_9))
      have m_p : M_1 (z (10 + lt)) = _ := (congrFun eM_1 (z (10 + lt))).trans ((va_up_ne _ _ (hz.ne (i := (10 + lt)) (j := 6) (by omega) (by omega) (by omega))).trans ((va_up_ne _ _ (hz.ne (i := (10 + lt)) (j := 5) (by omega) (by omega) (by omega))).trans m_p))
      have m_7 : M_1 (z 7) = _ := (congrFun eM_1 (z 7)).trans ((va_up_ne _ _ (hz.ne (i := 7) (j := 6) (by omega) (by omega) (by omega))).trans ((va_up_ne _ _ (hz.ne (i := 7) (j := 5) (by omega) (by omega) (by omega))).trans m_7))
      have m_5 : M_1 (z 5) = .inr (1, [.ref (z 6), .int (nI (movesF P f0).2)]) := (congrFun eM_1 (z 5)).trans ((va_up_ne _ _ (hz.ne (i := 5) (j := 6) (by omega) (by omega) (by omega))).trans (va_up_self _ _ _))
      have m_6 : M_1 (z 6) = .inl (dA 0, 72, .inl ((movesF P f0).1)) := (congrFun eM_1 (z 6)).trans (va_up_self _ _ _)
      have fB : wfB L z M M_1 := (fB.up (k := 5) (by omega) (by omega) rfl).up (k := 6) (by omega) (by omega) eM_1
      have hY : jY dA M_1 z := ⟨fun i hi => by obtain ⟨f, n, h1, h2, h3⟩ := hY.1 i hi; exact ⟨f, n, h1, ((congrFun eM_1 _).trans ((va_up_ne _ _ (hz.ne (by omega) (by omega) (by omega))).trans (va_up_ne _ _ (hz.ne (by omega) (by omega) (by omega))))).trans h2, ((congrFun eM_1 _).trans ((va_up_ne _ _ (hz.ne (by omega) (by omega) (by omega))).trans (va_up_ne _ _ (hz.ne (by omega) (by omega) (by omega))))).trans h3⟩, fun i hi => by obtain ⟨Q, h1⟩ := hY.2 i hi; exact ⟨Q, ((congrFun eM_1 _).trans ((va_up_ne _ _ (hz.ne (by omega) (by omega) (by omega))).trans (va_up_ne _ _ (hz.ne (by omega) (by omega) (by omega))))).trans h1⟩⟩
      have he : jE dA L M_1 ev eb := (he.up rfl (Or.inl ⟨1, _, q_5, by decide⟩)).up eM_1 (Or.inr ⟨_, _, (va_up_ne _ _ (hz.ne (by omega) (by omega) (by omega))).trans q_6⟩)
      have hnn := mvN_eq P f0
      refine lv_topi (fun x2 ex2 => ?_)
      refine lv_istore_n (lv' := [(2, .int x2), (0, .ref (z 0)), (1, .int x)]) hx hb dX4_best_18 rfl hl (by decide) rfl (fun ls hl => ?_)
      refine lv_iconst (v := (-1)) hx hb dX4_best_19 (by decide) ?_
      refine lv_topi (fun x3 ex3 => ?_)
      refine lv_istore_n (lv' := [(3, .int x3), (2, .int x2), (0, .ref (z 0)), (1, .int x)]) hx hb dX4_best_20 rfl hl (by decide) rfl (fun ls hl => ?_)
      refine lv_sipush (v := 2000) hx hb dX4_best_21 (by decide) ?_
      refine lv_topi (fun x4 ex4 => ?_)
      refine lv_istore (lv' := [(4, .int x4), (3, .int x3), (2, .int x2), (0, .ref (z 0)), (1, .int x)]) hx hb dX4_best_24 hl (by decide) rfl (fun ls hl => ?_)
      refine lv_iconst (v := 0) hx hb dX4_best_26 (by decide) ?_
      refine lv_topi (fun x5 ex5 => ?_)
      refine lv_istore (lv' := [(5, .int x5), (4, .int x4), (3, .int x3), (2, .int x2), (0, .ref (z 0)), (1, .int x)]) hx hb dX4_best_27 hl (by decide) rfl (fun ls hl => ?_)
      have LP : ∀ (k i : Nat) (x3 x4 x5 : Int32) (e1 : Bool) (ev1 : Value) (P7 : Ps) (L1 : List Nat) (M1 : mm_M) (H : Heap) (locs : List Loc) (ls : Array Slot), i + k = mvN P → x5 = nI i → bsL (d - 1) P k i x4 x3 e1 = RW → (eb = true → e1 = true) → zW L1 z → (∀ q, q ∈ L → q ∈ L1) → mm_V A D L1 M1 s H locs → M1 (z 0) = .inr (4, [.ref (z 1), ev1, .ref (z 4), .int (nI lt), .ref (z 5), .ref (z 7), .ref (z 8), .ref (z 9)]) → M1 (z 1) = .inr (3, [.ref (z 2), .ref (z 3)]) → M1 (z 2) = .inl (dA 0, 72, .inl nearT) → M1 (z 3) = .inl (dA 0, 72, .inl behT) → M1 (z 4) = .inl (dA 4, 101, .inr (.inr (.inr (.inr (gzL z))))) → M1 (z 8) = .inl (dA 5, 5, .inr (.inr (.inr (.inr (gzX z 111))))) → M1 (z 9) = .inl (dA 4, 5, .inr (.inr (.inr (.inr (gzX z 113))))) → M1 (z (10 + lt)) = .inr (2, [.int P.1, .int P.2.1, .int P.2.2.1, .int P.2.2.2.1, .int P.2.2.2.2]) → M1 (z 5) = .inr (1, [.ref (z 6), .int (nI (movesF P f0).2)]) → M1 (z 6) = .inl (dA 0, 72, .inl ((movesF P f0).1)) → M1 (z 7) = .inr (2, [.int P7.1, .int P7.2.1, .int P7.2.2.1, .int P7.2.2.2.1, .int P7.2.2.2.2]) → jE dA L1 M1 ev1 e1 → jY dA M1 z → wfB L z M M1 → lv_has ls 7 [(0, .ref (z 0)), (1, .int x), (2, .int x2), (3, .int x3), (4, .int x4), (5, .int x5)] → W p l e R s m args below meth c H locs (kc eb e1) (ks eb e1) Q (F0 m 29 ls []) := by
        intro k
        induction k with
        | zero =>
          intro i x3 x4 x5 e1 ev1 P7 L1 M1 H locs ls hik hx5 hres hm hz hsub hV m_0 m_1 m_2 m_3 m_4 m_8 m_9 m_p m_5 m_6 m_7 he1 hY fB hl
          have h72 := mvN_le P
          refine lv_iload hx hb dX4_best_29 (lv_at hl 5 rfl) ?_
          refine lv_iload_n hx hb dX4_best_31 rfl (lv_at hl 2 rfl) ?_
          refine lv_icmp_ge (tgt := 99) hx hb dX4_best_32 (by decide) (fun c32 => ?_) (fun c32 => ?_)
          · refine lv_iload_n hx hb dX4_best_99 rfl (lv_at hl 3 rfl) ?_
            exact hret (v := x3) dX4_best_100 hV (by rw [eR2, ← hres]; exact Nat.le_refl _) (by rw [eR2, ← hres]; exact Nat.le_refl _) ⟨by rw [eR1, ← hres]; rfl, hsub, ⟨ev1, m_0, by rw [eR2, ← hres]; exact he1⟩, hY, fB, ⟨_, _, movesF_le P f0, m_5, m_6⟩, ⟨_, m_7⟩⟩
          · exact absurd (by rw [hx5, ex2, erm, hnn, ← hik]; exact Int32.le_refl _) c32
        | succ k ih2 =>
          intro i x3 x4 x5 e1 ev1 P7 L1 M1 H locs ls hik hx5 hres hm hz hsub hV m_0 m_1 m_2 m_3 m_4 m_8 m_9 m_p m_5 m_6 m_7 he1 hY fB hl
          have h72 := mvN_le P
          refine lv_iload hx hb dX4_best_29 (lv_at hl 5 rfl) ?_
          refine lv_iload_n hx hb dX4_best_31 rfl (lv_at hl 2 rfl) ?_
          refine lv_icmp_ge (tgt := 99) hx hb dX4_best_32 (by decide) (fun c32 => ?_) (fun c32 => ?_)
          · exact absurd c32 (by rw [hx5, ex2, erm, hnn]; exact nI_ge (by omega) (by omega))
          · refine lv_aload_n hx hb dX4_best_35 rfl (lv_at hl 0 rfl) ?_
            refine mm_get (ci := 4) (C := RX4) (T := TX4) (N := 8) hx hb hts in_X4 hown hK hV (hz.1 0 (by omega)) m_0 rfl 5 (by decide) f_38 (fun _ h => h) rfl dX4_best_36 ?_
            refine lv_aload_n hx hb dX4_best_39 rfl (lv_at hl 0 rfl) ?_
            refine mm_get (ci := 4) (C := RX4) (T := TX4) (N := 8) hx hb hts in_X4 hown hK hV (hz.1 0 (by omega)) m_0 rfl 2 (by decide) f_22 (fun _ h => h) rfl dX4_best_40 ?_
            refine lv_aload_n hx hb dX4_best_43 rfl (lv_at hl 0 rfl) ?_
            refine mm_get (ci := 4) (C := RX4) (T := TX4) (N := 8) hx hb hts in_X4 hown hK hV (hz.1 0 (by omega)) m_0 rfl 3 (by decide) f_26 (fun _ h => h) rfl dX4_best_44 ?_
            refine mm_aaldN (j := lt) (b := (z (10 + lt))) hx hb hK hV 4 (hz.1 4 (by omega)) m_4 rfl rfl (by omega) (by decide) (gzL_at (by omega)) dX4_best_47 ?_
            refine lv_aload_n hx hb dX4_best_48 rfl (lv_at hl 0 rfl) ?_
            refine mm_get (ci := 4) (C := RX4) (T := TX4) (N := 8) hx hb hts in_X4 hown hK hV (hz.1 0 (by omega)) m_0 rfl 4 (by decide) f_33 (fun _ h => h) rfl dX4_best_49 ?_
            refine mm_get (ci := 1) (C := RX1) (T := TX1) (N := 2) hx hb hts in_X1 hown hK hV (hz.1 5 (by omega)) m_5 rfl 0 (by decide) f_85 (fun _ h => h) rfl dX4_best_52 ?_
            refine lv_iload hx hb dX4_best_55 (lv_at hl 5 rfl) ?_
            refine mm_ialdN (j := i) hx hb hK hV (hz.1 6 (by omega)) m_6 hx5 (by omega) (by decide) dX4_best_57 ?_
            refine lv_topi (fun pk epk => ?_)
            have hpk : pk = mvA P i := by rw [epk]; exact mvA_eq P f0 (by omega)
            have q_7 := m_7
            refine mm_Vm (ci := 2) (As := [.ref (z (10 + lt)), .int pk]) (rest := []) ⟨hx, hb, hml, hown, hts⟩ hK hV (c_follow l D dA (P0 := P7) (P := P) pk (hz.ne (by omega) (by omega) (by omega)) (hz.1 7 (by omega)) (hz.1 _ (by omega)) m_7 m_p) (cwV 2 hts gX4_best_X2_follow rfl rfl rfl (by decide +kernel) (mm_levR hR (by omega) (by decide))) (hz.1 7 (by omega)) m_7 rfl rfl hl.1 rfl (Nat.le_of_ble_eq_true rfl) dX4_best_58 (by rw [hR]; exact kc_le (a := eb) (fun h => by rw [eR2, ← hres]; exact bsL_mono _ _ _ _ _ h)) (fun M_2 H locs eM_2 hV => ?_)
            have m_0 : M_2 (z 0) = _ := (congrFun eM_2 (z 0)).trans ((va_up_ne _ _ (hz.ne (i := 0) (j := 7) (by omega) (by omega) (by omega))).trans m_0)
            have m_1 : M_2 (z 1) = _ := (congrFun eM_2 (z 1)).trans ((va_up_ne _ _ (hz.ne (i := 1) (j := 7) (by omega) (by omega) (by omega))).trans m_1)
            have m_2 : M_2 (z 2) = _ := (congrFun eM_2 (z 2)).trans ((va_up_ne _ _ (hz.ne (i := 2) (j := 7) (by omega) (by omega) (by omega))).trans m_2)
            have m_3 : M_2 (z 3) = _ := (congrFun eM_2 (z 3)).trans ((va_up_ne _ _ (hz.ne (i := 3) (j := 7) (by omega) (by omega) (by omega))).trans m_3)
            have m_4 : M_2 (z 4) = _ := (congrFun eM_2 (z 4)).trans ((va_up_ne _ _ (hz.ne (i := 4) (j := 7) (by omega) (by omega) (by omega))).trans m_4)
            have m_8 : M_2 (z 8) = _ := (congrFun eM_2 (z 8)).trans ((va_up_ne _ _ (hz.ne (i := 8) (j := 7) (by omega) (by omega) (by omega))).trans m_8)
            have m_9 : M_2 (z 9) = _ := (congrFun eM_2 (z 9)).trans ((va_up_ne _ _ (hz.ne (i := 9) (j := 7) (by omega) (by omega) (by omega))).trans m_9)
            have m_p : M_2 (z (10 + lt)) = _ := (congrFun eM_2 (z (10 + lt))).trans ((va_up_ne _ _ (hz.ne (i := (10 + lt)) (j := 7) (by omega) (by omega) (by omega))).trans m_p)
            have m_5 : M_2 (z 5) = _ := (congrFun eM_2 (z 5)).trans ((va_up_ne _ _ (hz.ne (i := 5) (j := 7) (by omega) (by omega) (by omega))).trans m_5)
            have m_6 : M_2 (z 6) = _ := (congrFun eM_2 (z 6)).trans ((va_up_ne _ _ (hz.ne (i := 6) (j := 7) (by omega) (by omega) (by omega))).trans m_6)
            have m_7 : M_2 (z 7) = .inr (2, [.int ((followP P pk).1), .int ((followP P pk).2.1), .int ((followP P pk).2.2.1), .int ((followP P pk).2.2.2.1), .int ((followP P pk).2.2.2.2)]) := by rw [eM_2]; exact va_up_self _ _ _
            have fB : wfB L z M M_2 := fB.up (k := 7) (by omega) (by omega) eM_2
            have hY : jY dA M_2 z := ⟨fun i hi => by obtain ⟨f, n, h1, h2, h3⟩ := hY.1 i hi; exact ⟨f, n, h1, ((congrFun eM_2 _).trans (va_up_ne _ _ (hz.ne (by omega) (by omega) (by omega)))).trans h2, ((congrFun eM_2 _).trans (va_up_ne _ _ (hz.ne (by omega) (by omega) (by omega)))).trans h3⟩, fun i hi => by obtain ⟨Q, h1⟩ := hY.2 i hi; exact ⟨Q, ((congrFun eM_2 _).trans (va_up_ne _ _ (hz.ne (by omega) (by omega) (by omega)))).trans h1⟩⟩
            have he1 : jE dA L1 M_2 ev1 e1 := he1.up eM_2 (Or.inl ⟨2, _, q_7, by decide⟩)
            refine lv_aload_n hx hb dX4_best_61 rfl (lv_at hl 0 rfl) ?_
            refine lv_aload_n hx hb dX4_best_62 rfl (lv_at hl 0 rfl) ?_
            refine mm_get (ci := 4) (C := RX4) (T := TX4) (N := 8) hx hb hts in_X4 hown hK hV (hz.1 0 (by omega)) m_0 rfl 5 (by decide) f_38 (fun _ h => h) rfl dX4_best_63 ?_
            refine lv_iload_n hx hb dX4_best_66 rfl (lv_at hl 1 rfl) ?_
            refine lv_iconst (v := 1) hx hb dX4_best_67 (by decide) ?_
            refine lv_isub hx hb dX4_best_68 ?_
            refine lv_sipush (v := (-2000)) hx hb dX4_best_69 (by decide) ?_
            refine lv_iload hx hb dX4_best_72 (lv_at hl 4 rfl) ?_
            obtain ⟨E2, eE2⟩ : ∃ q, q = (wg (d - 1) (followP P pk) (-2000) x4 e1).2 := ⟨_, rfl⟩
            have hm2 : e1 = true → E2 = true := fun h => by rw [eE2]; exact wg_mono _ _ _ _ _ h
            have hcs := kc_tr hm hm2
            have hE2 : E2 = true → R2 = true := fun h => by
              rw [eR2, ← hres, bsL, ← hpk, ← eE2]; split <;> exact bsL_mono _ _ _ _ _ h
            have hle := kc_le (a := eb) hE2
            refine mm_Vi (mc := kc e1 E2) (ms := ks e1 E2) (ci := 4) (As := [.ref (z 7), .int (x - 1), .int (-2000), .int x4]) (rest := []) ⟨hx, hb, hml, hown, hts⟩ hK hV (by rw [eE2]; exact c_weigh l D dA htb wf1 wf2 (d - 1) (by omega) L1 M_2 e1 ev1 7 (followP P pk) (x - 1) (-2000) x4 (by rw [hxd]; exact mm_pred hd1) hz m_0 he1 ⟨m_1, m_2, m_3, m_4, m_8, m_9⟩ hY ⟨by omega, by omega, by omega, by omega, by omega⟩ m_7 (by rw [hpk]; exact wf2 P hwf i (by omega))) (cwV 4 hts gX4_best_X4_weigh rfl rfl rfl (by decide +kernel) (mm_levR hR (by omega) (by decide))) (hz.1 0 (by omega)) m_0 rfl rfl hl.1 rfl (Nat.le_of_ble_eq_true rfl) dX4_best_74 (by rw [hR]; exact ⟨by rw [hcs.1]; exact hle.1, by rw [hcs.2]; exact hle.2⟩) (fun rw9 L9 M9 H locs hp hV => ?_)
            refine W.cs hcs.1 hcs.2 ?_
            obtain ⟨erw, hs9, ⟨ev9, m_0, he9⟩, hY, hf9⟩ := hp
            have m_1 : M9 (z 1) = _ := (hf9.at hz (by omega) (by omega) (by omega) (by omega)).trans m_1
            have m_2 : M9 (z 2) = _ := (hf9.at hz (by omega) (by omega) (by omega) (by omega)).trans m_2
            have m_3 : M9 (z 3) = _ := (hf9.at hz (by omega) (by omega) (by omega) (by omega)).trans m_3
            have m_4 : M9 (z 4) = _ := (hf9.at hz (by omega) (by omega) (by omega) (by omega)).trans m_4
            have m_8 : M9 (z 8) = _ := (hf9.at hz (by omega) (by omega) (by omega) (by omega)).trans m_8
            have m_9 : M9 (z 9) = _ := (hf9.at hz (by omega) (by omega) (by omega) (by omega)).trans m_9
            have m_p : M9 (z (10 + lt)) = _ := (hf9.at hz (by omega) (by omega) (by omega) (by omega)).trans m_p
            have m_5 : M9 (z 5) = _ := (hf9.at hz (by omega) (by omega) (by omega) (by omega)).trans m_5
            have m_6 : M9 (z 6) = _ := (hf9.at hz (by omega) (by omega) (by omega) (by omega)).trans m_6
            have m_7 : M9 (z 7) = _ := (hf9.at hz (by omega) (by omega) (by omega) (by omega)).trans m_7
            have fB : wfB L z M M9 := fB.tr hsub (hf9.B (by omega))
            have hz := hz.mono hs9
            have hsub : ∀ q, q ∈ L → q ∈ L9 := fun q h => hs9 q (hsub q h)
            have m_0 : M9 (z 0) = .inr (4, [.ref (z 1), ev9, .ref (z 4), .int (nI lt), .ref (z 5), .ref (z 7), .ref (z 8), .ref (z 9)]) := m_0
            refine lv_topi (fun x6 ex6 => ?_)
            refine lv_istore (lv' := [(6, .int x6), (0, .ref (z 0)), (1, .int x), (2, .int x2), (3, .int x3), (4, .int x4), (5, .int x5)]) hx hb dX4_best_77 hl (by decide) rfl (fun ls hl => ?_)
            refine lv_iload hx hb dX4_best_79 (lv_at hl 0 rfl) ?_
            refine lv_iload hx hb dX4_best_81 (lv_at hl 5 rfl) ?_
            refine lv_icmp_ge (tgt := 93) hx hb dX4_best_83 (by decide) (fun c83 => ?_) (fun c83 => ?_)
            · have erw9 : x6 = (wg (d - 1) (followP P pk) (-2000) x4 e1).1 := by rw [ex6, erw]
              obtain ⟨x5_n, ex5_n⟩ : ∃ y : Int32, y = x5 + 1 := ⟨_, rfl⟩
              refine lv_iinc (v := x5_n) (lv' := [(5, .int x5_n), (6, .int x6), (0, .ref (z 0)), (1, .int x), (2, .int x2), (3, .int x3), (4, .int x4)]) hx hb dX4_best_93 hl (k := 6) rfl (by rw [ex5_n]; rfl) (by decide) rfl (fun ls hl => ?_)
              refine lv_goto (tgt := 29) hx hb dX4_best_96 (by decide) ?_
              exact ih2 (i + 1) x3 x4 x5_n E2 ev9 (followP P pk) L9 M9 _ _ ls (by omega) (by rw [ex5_n, hx5]; exact nI_1 i) (by rw [← hres, bsL, if_pos (by rw [← hpk, ← erw9]; exact c83), ← hpk, ← eE2]) (fun h => hm2 (hm h)) hz hsub hV m_0 m_1 m_2 m_3 m_4 m_8 m_9 m_p m_5 m_6 m_7 (by rw [eE2]; exact he9) hY fB (lv_sub hl [2, 3, 4, 5, 6, 0] rfl)
            · have erw9 : x6 = (wg (d - 1) (followP P pk) (-2000) x4 e1).1 := by rw [ex6, erw]
              refine lv_iload hx hb dX4_best_86 (lv_at hl 0 rfl) ?_
              refine lv_istore (lv' := [(4, .int x6), (6, .int x6), (0, .ref (z 0)), (1, .int x), (2, .int x2), (3, .int x3), (5, .int x5)]) hx hb dX4_best_88 hl (by decide) rfl (fun ls hl => ?_)
              refine lv_iload hx hb dX4_best_90 (lv_at hl 6 rfl) ?_
              refine lv_istore_n (lv' := [(3, .int x5), (4, .int x6), (6, .int x6), (0, .ref (z 0)), (1, .int x), (2, .int x2), (5, .int x5)]) hx hb dX4_best_92 rfl hl (by decide) rfl (fun ls hl => ?_)
              obtain ⟨x5_n, ex5_n⟩ : ∃ y : Int32, y = x5 + 1 := ⟨_, rfl⟩
              refine lv_iinc (v := x5_n) (lv' := [(5, .int x5_n), (3, .int x5), (4, .int x6), (6, .int x6), (0, .ref (z 0)), (1, .int x), (2, .int x2)]) hx hb dX4_best_93 hl (k := 6) rfl (by rw [ex5_n]; rfl) (by decide) rfl (fun ls hl => ?_)
              refine lv_goto (tgt := 29) hx hb dX4_best_96 (by decide) ?_
              exact ih2 (i + 1) x5 x6 x5_n E2 ev9 (followP P pk) L9 M9 _ _ ls (by omega) (by rw [ex5_n, hx5]; exact nI_1 i) (by rw [← hres, bsL, if_neg (by rw [← hpk, ← erw9]; exact c83), ← hpk, ← eE2, ← erw9, ← hx5]) (fun h => hm2 (hm h)) hz hsub hV m_0 m_1 m_2 m_3 m_4 m_8 m_9 m_p m_5 m_6 m_7 (by rw [eE2]; exact he9) hY fB (lv_sub hl [4, 5, 6, 1, 2, 0] rfl)
      refine W.cs (kc_rf eb).1.symm (kc_rf eb).2.symm ?_
      exact LP (mvN P) 0 x3 x4 x5 eb ev P7 L M_1 H locs ls (by omega) (by rw [ex5]; rfl) (by rw [ex3, ex4]; exact hRW.symm) (fun h => h) hz (fun _ h => h) hV m_0 m_1 m_2 m_3 m_4 m_8 m_9 m_p m_5 m_6 m_7 he hY fB (lv_sub hl [4, 5, 3, 2, 1, 0] rfl)
    · refine lv_iconst (v := (-1)) hx hb dX4_best_12 (by decide) ?_
      exact hret (v := (-1)) dX4_best_13 hV (Nat.zero_le _) (Nat.zero_le _) ⟨by rw [eR1, eRW, bestV, if_neg c2, if_pos c9], fun _ h => h, ⟨ev, m_0, by rw [eR2, eRW, bestV, if_neg c2, if_pos c9]; exact he⟩, hY, fB, ⟨_, _, hn0, m_5, m_6⟩, ⟨_, m_7⟩⟩
