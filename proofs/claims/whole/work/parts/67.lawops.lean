theorem verd_mono {P : Ps} {eb : Bool} (h : eb = true) : (verdV P eb).2 = true := by
  unfold verdV; split
  · exact h
  · rfl
theorem val_mono {P : Ps} {x : Int32} {eb : Bool} (h : eb = true) : (valV P x eb).2 = true := by
  unfold valV; split
  · exact h
  · exact wg_mono _ _ _ _ _ h
theorem best_mono {P : Ps} {x : Int32} {eb : Bool} (h : eb = true) : (bestV P x eb).2 = true := by
  unfold bestV; split
  · exact h
  · split
    · exact h
    · exact bsL_mono _ _ _ _ _ h
set_option maxHeartbeats 1000000 in
set_option maxRecDepth 100000 in
theorem lo_begin {p : Program} {l : Launch} {e : Env} {s : State} {m : MethodId} {below : List Frame} {meth : Method} {c : Code} {D : va_G} {dA : Nat → ClassId} {b Ln : Nat} {xs : Nat → Int32} {KT : Nat → Int32} {z ad : Nat → Nat} {ob i lt : Nat} {ln : Nat → Ps} {eb : Bool} {ev : Value} {S : Nat → Nat → Int32} {so x3 : Int32} {L : List Nat} {M : mm_M} {H : Heap} {locs : List Loc} {ls : Array Slot} (F : LF p s m c b Ln xs D dA KT z ob ad) (hi : i + 2 < Ln) (hx3 : x3 = nI i) (hG : GI lt ln) (hC : CI dA L M z ev lt ln eb) (hR : RI dA KT L M ob ad S so lt ln) (hV : mm_V (fun q : Nat => s.heap.size ≤ q) D L M s H locs) (hl : lv_has ls 4 [(0, .ref b), (1, .ref (z 0)), (2, .ref ob), (3, .int x3)])
    (K : ∀ (lt : Nat) (ln : Nat → Ps) (eb : Bool) (ev : Value) (S : Nat → Nat → Int32) (so : Int32) (L : List Nat) (M : mm_M) (H : Heap) (locs : List Loc), GI lt ln → CI dA L M z ev lt ln eb → RI dA KT L M ob ad S so lt ln → mm_V (fun q : Nat => s.heap.size ≤ q) D L M s H locs → W p l e room_1 s m #[Value.ref b] below meth c H locs (144 + kc false eb) (16918 + ks false eb) (lw_Z below #[Value.ref b] s) (F0 m 433 ls [])) : W p l e room_1 s m #[Value.ref b] below meth c H locs (144 + kc false eb) (16918 + ks false eb) (lw_Z below #[Value.ref b] s) (F0 m 116 ls []) := by
  obtain ⟨hx, hb, hml, hown, hts, hX, hbl, hLn, hK, hslv, hKv, d1, d2⟩ := F
  have hlt := hG.1
  have hwf := hG.2.1 lt (Nat.le_refl _)
  obtain ⟨hz, m_0, he, hB, hln⟩ := id hC
  obtain ⟨hF, hY, hT, h7c, hal⟩ := id hB
  have m_4 := hF.2.2.2.1
  have m_p := hln lt (Nat.le_refl _)
  have m_q := hln 0 (Nat.zero_le _)
  have hru : ruW dA L M (z 1) (z 2) (z 3) := ⟨hz.1 1 (by omega), hz.1 2 (by omega), hz.1 3 (by omega), hF.1, hF.2.1, hF.2.2.1⟩
  obtain ⟨f0, n0, hn0, m_5, m_6⟩ := hT
  have hli : liW dA L M (z 5) (z 6) f0 n0 := ⟨hz.1 5 (by omega), hz.1 6 (by omega), m_5, m_6, hn0⟩
  obtain ⟨P7, m_7⟩ := h7c
  refine lv_aload_n hx hb dL_law_116 rfl (lv_at hl 1 rfl) ?_
  refine mm_Vm (ci := 4) (As := []) (rest := []) ⟨hx, hb, hml, hown, hts⟩ hK hV (c_begin l D dA hz m_0 m_4 hlt m_q) (cwV 0 hts gL_law_X4_begin rfl rfl rfl (by decide +kernel) (mm_levL (by omega) (by decide))) (hz.1 0 (by omega)) m_0 rfl rfl hl.1 rfl (Nat.le_of_ble_eq_true rfl) dL_law_117 (lf_room eb) (fun M1 H locs hp hV => ?_)
  obtain ⟨hC, hZ⟩ := hC.b0 hp
  have hR := hR.keepZ d1 d2 hZ (fun _ h => h)
  refine lv_aload_n hx hb dL_law_120 rfl (lv_at hl 2 rfl) ?_
  refine mm_Vm (ci := 5) (As := []) (rest := []) ⟨hx, hb, hml, hown, hts⟩ hK hV (c_beginR l D dA hR.1 hR.2.1 hR.2.2.1) (cwV 0 hts gL_law_X5_begin rfl rfl rfl (by decide +kernel) (mm_levL (by omega) (by decide))) hR.1 hR.2.1 rfl rfl hl.1 rfl (Nat.le_of_ble_eq_true rfl) dL_law_121 (lf_room eb) (fun M2 H locs hq hV => ?_)
  obtain ⟨hA, m_ob, hf⟩ := hq
  have hC := hC.keepR (by omega) d1 d2 hR hf
  have hr9 := begin_row S
  have hR := hR.fresh (ln1 := fun _ => setUpP) hA m_ob hr9.2 hr9.1 rfl
  refine lv_goto (tgt := 433) hx hb dL_law_124 (by decide) ?_
  exact K 0 _ eb ev _ so L M2 H locs (GI.one wf_setup) hC hR hV

set_option maxHeartbeats 1000000 in
set_option maxRecDepth 100000 in
theorem lo_clear {p : Program} {l : Launch} {e : Env} {s : State} {m : MethodId} {below : List Frame} {meth : Method} {c : Code} {D : va_G} {dA : Nat → ClassId} {b Ln : Nat} {xs : Nat → Int32} {KT : Nat → Int32} {z ad : Nat → Nat} {ob i lt : Nat} {ln : Nat → Ps} {eb : Bool} {ev : Value} {S : Nat → Nat → Int32} {so x3 : Int32} {L : List Nat} {M : mm_M} {H : Heap} {locs : List Loc} {ls : Array Slot} (F : LF p s m c b Ln xs D dA KT z ob ad) (hi : i + 2 < Ln) (hx3 : x3 = nI i) (hG : GI lt ln) (hC : CI dA L M z ev lt ln eb) (hR : RI dA KT L M ob ad S so lt ln) (hV : mm_V (fun q : Nat => s.heap.size ≤ q) D L M s H locs) (hl : lv_has ls 4 [(0, .ref b), (1, .ref (z 0)), (2, .ref ob), (3, .int x3)])
    (K : ∀ (lt : Nat) (ln : Nat → Ps) (eb : Bool) (ev : Value) (S : Nat → Nat → Int32) (so : Int32) (L : List Nat) (M : mm_M) (H : Heap) (locs : List Loc), GI lt ln → CI dA L M z ev lt ln eb → RI dA KT L M ob ad S so lt ln → mm_V (fun q : Nat => s.heap.size ≤ q) D L M s H locs → W p l e room_1 s m #[Value.ref b] below meth c H locs (144 + kc false eb) (16918 + ks false eb) (lw_Z below #[Value.ref b] s) (F0 m 433 ls [])) : W p l e room_1 s m #[Value.ref b] below meth c H locs (144 + kc false eb) (16918 + ks false eb) (lw_Z below #[Value.ref b] s) (F0 m 127 ls []) := by
  obtain ⟨hx, hb, hml, hown, hts, hX, hbl, hLn, hK, hslv, hKv, d1, d2⟩ := F
  have hlt := hG.1
  have hwf := hG.2.1 lt (Nat.le_refl _)
  obtain ⟨hz, m_0, he, hB, hln⟩ := id hC
  obtain ⟨hF, hY, hT, h7c, hal⟩ := id hB
  have m_4 := hF.2.2.2.1
  have m_p := hln lt (Nat.le_refl _)
  have m_q := hln 0 (Nat.zero_le _)
  have hru : ruW dA L M (z 1) (z 2) (z 3) := ⟨hz.1 1 (by omega), hz.1 2 (by omega), hz.1 3 (by omega), hF.1, hF.2.1, hF.2.2.1⟩
  obtain ⟨f0, n0, hn0, m_5, m_6⟩ := hT
  have hli : liW dA L M (z 5) (z 6) f0 n0 := ⟨hz.1 5 (by omega), hz.1 6 (by omega), m_5, m_6, hn0⟩
  obtain ⟨P7, m_7⟩ := h7c
  refine lv_aload_n hx hb dL_law_127 rfl (lv_at hl 1 rfl) ?_
  refine mm_Vm (ci := 4) (As := []) (rest := []) ⟨hx, hb, hml, hown, hts⟩ hK hV (c_clear l D dA hz m_0 m_4 hlt m_q) (cwV 0 hts gL_law_X4_clear rfl rfl rfl (by decide +kernel) (mm_levL (by omega) (by decide))) (hz.1 0 (by omega)) m_0 rfl rfl hl.1 rfl (Nat.le_of_ble_eq_true rfl) dL_law_128 (lf_room eb) (fun M1 H locs hp hV => ?_)
  obtain ⟨hC, hZ⟩ := hC.b0 hp
  have hR := hR.keepZ d1 d2 hZ (fun _ h => h)
  refine lv_aload_n hx hb dL_law_131 rfl (lv_at hl 2 rfl) ?_
  refine mm_Vm (ci := 5) (As := []) (rest := []) ⟨hx, hb, hml, hown, hts⟩ hK hV (c_clearR l D dA hR.1 hR.2.1 hR.2.2.1) (cwV 0 hts gL_law_X5_clear rfl rfl rfl (by decide +kernel) (mm_levL (by omega) (by decide))) hR.1 hR.2.1 rfl rfl hl.1 rfl (Nat.le_of_ble_eq_true rfl) dL_law_132 (lf_room eb) (fun M2 H locs hq hV => ?_)
  obtain ⟨hA, m_ob, hf⟩ := hq
  have hC := hC.keepR (by omega) d1 d2 hR hf
  have hr9 := clear_row S
  have hR := hR.fresh (ln1 := fun _ => wipeP) hA m_ob hr9.2 hr9.1 rfl
  refine lv_goto (tgt := 433) hx hb dL_law_135 (by decide) ?_
  exact K 0 _ eb ev _ so L M2 H locs (GI.one wf_wipe) hC hR hV

set_option maxHeartbeats 1000000 in
set_option maxRecDepth 100000 in
theorem lo_put {p : Program} {l : Launch} {e : Env} {s : State} {m : MethodId} {below : List Frame} {meth : Method} {c : Code} {D : va_G} {dA : Nat → ClassId} {b Ln : Nat} {xs : Nat → Int32} {KT : Nat → Int32} {z ad : Nat → Nat} {ob i lt : Nat} {ln : Nat → Ps} {eb : Bool} {ev : Value} {S : Nat → Nat → Int32} {so x3 : Int32} {L : List Nat} {M : mm_M} {H : Heap} {locs : List Loc} {ls : Array Slot} (F : LF p s m c b Ln xs D dA KT z ob ad) (hi : i + 2 < Ln) (hx3 : x3 = nI i) (hG : GI lt ln) (hC : CI dA L M z ev lt ln eb) (hR : RI dA KT L M ob ad S so lt ln) (hV : mm_V (fun q : Nat => s.heap.size ≤ q) D L M s H locs) (hl : lv_has ls 4 [(0, .ref b), (1, .ref (z 0)), (2, .ref ob), (3, .int x3)])
    (K : ∀ (lt : Nat) (ln : Nat → Ps) (eb : Bool) (ev : Value) (S : Nat → Nat → Int32) (so : Int32) (L : List Nat) (M : mm_M) (H : Heap) (locs : List Loc), GI lt ln → CI dA L M z ev lt ln eb → RI dA KT L M ob ad S so lt ln → mm_V (fun q : Nat => s.heap.size ≤ q) D L M s H locs → W p l e room_1 s m #[Value.ref b] below meth c H locs (144 + kc false eb) (16918 + ks false eb) (lw_Z below #[Value.ref b] s) (F0 m 433 ls [])) : W p l e room_1 s m #[Value.ref b] below meth c H locs (144 + kc false eb) (16918 + ks false eb) (lw_Z below #[Value.ref b] s) (F0 m 138 ls []) := by
  obtain ⟨hx, hb, hml, hown, hts, hX, hbl, hLn, hK, hslv, hKv, d1, d2⟩ := F
  have hlt := hG.1
  have hwf := hG.2.1 lt (Nat.le_refl _)
  obtain ⟨hz, m_0, he, hB, hln⟩ := id hC
  obtain ⟨hF, hY, hT, h7c, hal⟩ := id hB
  have m_4 := hF.2.2.2.1
  have m_p := hln lt (Nat.le_refl _)
  have m_q := hln 0 (Nat.zero_le _)
  have hru : ruW dA L M (z 1) (z 2) (z 3) := ⟨hz.1 1 (by omega), hz.1 2 (by omega), hz.1 3 (by omega), hF.1, hF.2.1, hF.2.2.1⟩
  obtain ⟨f0, n0, hn0, m_5, m_6⟩ := hT
  have hli : liW dA L M (z 5) (z 6) f0 n0 := ⟨hz.1 5 (by omega), hz.1 6 (by omega), m_5, m_6, hn0⟩
  obtain ⟨P7, m_7⟩ := h7c
  refine lv_aload_n hx hb dL_law_138 rfl (lv_at hl 1 rfl) ?_
  refine lv_aload_n hx hb dL_law_139 rfl (lv_at hl 0 rfl) ?_
  refine lv_iload_n hx hb dL_law_140 rfl (lv_at hl 3 rfl) ?_
  refine lv_iconst (v := 1) hx hb dL_law_141 (by decide) ?_
  refine lv_iadd hx hb dL_law_142 ?_
  refine mm_sldN hx hb hX hbl hLn hV (ix1 hx3) (by omega) dL_law_143 ?_
  refine lv_aload_n hx hb dL_law_144 rfl (lv_at hl 0 rfl) ?_
  refine lv_iload_n hx hb dL_law_145 rfl (lv_at hl 3 rfl) ?_
  refine lv_iconst (v := 2) hx hb dL_law_146 (by decide) ?_
  refine lv_iadd hx hb dL_law_147 ?_
  refine mm_sldN hx hb hX hbl hLn hV (ix2 hx3) (by omega) dL_law_148 ?_
  refine mm_Vn (ci := 4) (As := [.int (xs (i + 1)), .int (xs (i + 2))]) (rest := []) ⟨hx, hb, hml, hown, hts⟩ hK hV (c_put l D dA (xs (i + 1)) (xs (i + 2)) hz m_0 m_4 hlt m_p m_q) (cwV 2 hts gL_law_X4_put rfl rfl rfl (by decide +kernel) (mm_levL (by omega) (by decide))) (hz.1 0 (by omega)) m_0 rfl rfl hl.1 rfl (Nat.le_of_ble_eq_true rfl) dL_law_149 (lf_room eb) (fun r1 M1 H locs hp hV => ?_)
  obtain ⟨e1, hM⟩ := hp
  rw [put_eq] at e1 hM
  by_cases hc : putKR (xs (i + 1)) (xs (i + 2)) = 0
  · rw [if_pos hc] at hM
    rw [hM] at hV
    refine lv_aload_n hx hb dL_law_152 rfl (lv_at hl 2 rfl) ?_
    refine lv_aload_n hx hb dL_law_153 rfl (lv_at hl 0 rfl) ?_
    refine lv_iload_n hx hb dL_law_154 rfl (lv_at hl 3 rfl) ?_
    refine lv_iconst (v := 1) hx hb dL_law_155 (by decide) ?_
    refine lv_iadd hx hb dL_law_156 ?_
    refine mm_sldN hx hb hX hbl hLn hV (ix1 hx3) (by omega) dL_law_157 ?_
    refine lv_aload_n hx hb dL_law_158 rfl (lv_at hl 0 rfl) ?_
    refine lv_iload_n hx hb dL_law_159 rfl (lv_at hl 3 rfl) ?_
    refine lv_iconst (v := 2) hx hb dL_law_160 (by decide) ?_
    refine lv_iadd hx hb dL_law_161 ?_
    refine mm_sldN hx hb hX hbl hLn hV (ix2 hx3) (by omega) dL_law_162 ?_
    refine mm_Vn (ci := 5) (As := [.int (xs (i + 1)), .int (xs (i + 2))]) (rest := [.int r1]) ⟨hx, hb, hml, hown, hts⟩ hK hV (c_putR l D dA (xs (i + 1)) (xs (i + 2)) hR.1 hR.2.1 hR.2.2.1) (cwV 2 hts gL_law_X5_put rfl rfl rfl (by decide +kernel) (mm_levL (by omega) (by decide))) hR.1 hR.2.1 rfl rfl hl.1 rfl (Nat.le_of_ble_eq_true rfl) dL_law_163 (lf_room eb) (fun r2 M2 H locs hq hV => ?_)
    obtain ⟨e2, hA, m_ob, hf⟩ := hq
    rw [if_pos hc] at hA
    rw [if_pos hc, if_pos hc] at m_ob
    have hC := hC.keepR hlt d1 d2 hR hf
    have hR : RI dA KT L M2 ob ad S so lt ln := ⟨hR.1, m_ob, hA, hR.2.2.2⟩
    refine lv_icmp_eq (tgt := 433) hx hb dL_law_166 (by decide) (fun c9 => ?_) (fun c9 => ?_)
    · exact K lt ln eb ev S so L M2 H locs hG hC hR hV
    · exact absurd (by rw [e1, e2]) c9
  · rw [if_neg hc] at hM
    obtain ⟨a9, b9, ha9, hb9, ea9, eb9, h19, h39⟩ := put_in hc
    have hwfn := wf_place (wf_quiet hwf) ha9 hb9 h19 h39
    have hrow := hR.2.2.2.2.2.2.1
    rw [ea9, eb9] at hM
    obtain ⟨hC, hZ⟩ := hC.b1 hM
    have hR := hR.keepZ d1 d2 hZ (fun _ h => h)
    refine lv_aload_n hx hb dL_law_152 rfl (lv_at hl 2 rfl) ?_
    refine lv_aload_n hx hb dL_law_153 rfl (lv_at hl 0 rfl) ?_
    refine lv_iload_n hx hb dL_law_154 rfl (lv_at hl 3 rfl) ?_
    refine lv_iconst (v := 1) hx hb dL_law_155 (by decide) ?_
    refine lv_iadd hx hb dL_law_156 ?_
    refine mm_sldN hx hb hX hbl hLn hV (ix1 hx3) (by omega) dL_law_157 ?_
    refine lv_aload_n hx hb dL_law_158 rfl (lv_at hl 0 rfl) ?_
    refine lv_iload_n hx hb dL_law_159 rfl (lv_at hl 3 rfl) ?_
    refine lv_iconst (v := 2) hx hb dL_law_160 (by decide) ?_
    refine lv_iadd hx hb dL_law_161 ?_
    refine mm_sldN hx hb hX hbl hLn hV (ix2 hx3) (by omega) dL_law_162 ?_
    refine mm_Vn (ci := 5) (As := [.int (xs (i + 1)), .int (xs (i + 2))]) (rest := [.int r1]) ⟨hx, hb, hml, hown, hts⟩ hK hV (c_putR l D dA (xs (i + 1)) (xs (i + 2)) hR.1 hR.2.1 hR.2.2.1) (cwV 2 hts gL_law_X5_put rfl rfl rfl (by decide +kernel) (mm_levL (by omega) (by decide))) hR.1 hR.2.1 rfl rfl hl.1 rfl (Nat.le_of_ble_eq_true rfl) dL_law_163 (lf_room eb) (fun r2 M2 H locs hq hV => ?_)
    obtain ⟨e2, hA, m_ob, hf⟩ := hq
    rw [if_neg hc] at hA
    rw [if_neg hc, if_neg hc] at m_ob
    have hC := hC.keepR (by omega) d1 d2 hR hf
    rw [ea9, eb9] at hA
    have hr9 := put_row hrow ha9 hb9
    have hR := hR.fresh (ln1 := fun _ => placeP (quietP (ln lt)) ((1 : Int32) <<< (nI a9 &&& 31)) (nI b9)) hA m_ob hr9.2 hr9.1 rfl
    refine lv_icmp_eq (tgt := 433) hx hb dL_law_166 (by decide) (fun c9 => ?_) (fun c9 => ?_)
    · exact K 0 _ eb ev _ so L M2 H locs (GI.one hwfn) hC hR hV
    · exact absurd (by rw [e1, e2]) c9

set_option maxHeartbeats 1000000 in
set_option maxRecDepth 100000 in
theorem lo_turn {p : Program} {l : Launch} {e : Env} {s : State} {m : MethodId} {below : List Frame} {meth : Method} {c : Code} {D : va_G} {dA : Nat → ClassId} {b Ln : Nat} {xs : Nat → Int32} {KT : Nat → Int32} {z ad : Nat → Nat} {ob i lt : Nat} {ln : Nat → Ps} {eb : Bool} {ev : Value} {S : Nat → Nat → Int32} {so x3 : Int32} {L : List Nat} {M : mm_M} {H : Heap} {locs : List Loc} {ls : Array Slot} (F : LF p s m c b Ln xs D dA KT z ob ad) (hi : i + 2 < Ln) (hx3 : x3 = nI i) (hG : GI lt ln) (hC : CI dA L M z ev lt ln eb) (hR : RI dA KT L M ob ad S so lt ln) (hV : mm_V (fun q : Nat => s.heap.size ≤ q) D L M s H locs) (hl : lv_has ls 4 [(0, .ref b), (1, .ref (z 0)), (2, .ref ob), (3, .int x3)])
    (K : ∀ (lt : Nat) (ln : Nat → Ps) (eb : Bool) (ev : Value) (S : Nat → Nat → Int32) (so : Int32) (L : List Nat) (M : mm_M) (H : Heap) (locs : List Loc), GI lt ln → CI dA L M z ev lt ln eb → RI dA KT L M ob ad S so lt ln → mm_V (fun q : Nat => s.heap.size ≤ q) D L M s H locs → W p l e room_1 s m #[Value.ref b] below meth c H locs (144 + kc false eb) (16918 + ks false eb) (lw_Z below #[Value.ref b] s) (F0 m 433 ls [])) : W p l e room_1 s m #[Value.ref b] below meth c H locs (144 + kc false eb) (16918 + ks false eb) (lw_Z below #[Value.ref b] s) (F0 m 171 ls []) := by
  obtain ⟨hx, hb, hml, hown, hts, hX, hbl, hLn, hK, hslv, hKv, d1, d2⟩ := F
  have hlt := hG.1
  have hwf := hG.2.1 lt (Nat.le_refl _)
  obtain ⟨hz, m_0, he, hB, hln⟩ := id hC
  obtain ⟨hF, hY, hT, h7c, hal⟩ := id hB
  have m_4 := hF.2.2.2.1
  have m_p := hln lt (Nat.le_refl _)
  have m_q := hln 0 (Nat.zero_le _)
  have hru : ruW dA L M (z 1) (z 2) (z 3) := ⟨hz.1 1 (by omega), hz.1 2 (by omega), hz.1 3 (by omega), hF.1, hF.2.1, hF.2.2.1⟩
  obtain ⟨f0, n0, hn0, m_5, m_6⟩ := hT
  have hli : liW dA L M (z 5) (z 6) f0 n0 := ⟨hz.1 5 (by omega), hz.1 6 (by omega), m_5, m_6, hn0⟩
  obtain ⟨P7, m_7⟩ := h7c
  refine lv_aload_n hx hb dL_law_171 rfl (lv_at hl 1 rfl) ?_
  refine lv_aload_n hx hb dL_law_172 rfl (lv_at hl 0 rfl) ?_
  refine lv_iload_n hx hb dL_law_173 rfl (lv_at hl 3 rfl) ?_
  refine lv_iconst (v := 1) hx hb dL_law_174 (by decide) ?_
  refine lv_iadd hx hb dL_law_175 ?_
  refine mm_sldN hx hb hX hbl hLn hV (ix1 hx3) (by omega) dL_law_176 ?_
  refine mm_Vn (ci := 4) (As := [.int (xs (i + 1))]) (rest := []) ⟨hx, hb, hml, hown, hts⟩ hK hV (c_turn l D dA (xs (i + 1)) hz m_0 m_4 hlt m_p m_q) (cwV 1 hts gL_law_X4_turn rfl rfl rfl (by decide +kernel) (mm_levL (by omega) (by decide))) (hz.1 0 (by omega)) m_0 rfl rfl hl.1 rfl (Nat.le_of_ble_eq_true rfl) dL_law_177 (lf_room eb) (fun r1 M1 H locs hp hV => ?_)
  obtain ⟨e1, hM⟩ := hp
  rw [turn_eq] at e1 hM
  by_cases hc : turnKR (xs (i + 1)) = 0
  · rw [if_pos hc] at hM
    rw [hM] at hV
    refine lv_aload_n hx hb dL_law_180 rfl (lv_at hl 2 rfl) ?_
    refine lv_aload_n hx hb dL_law_181 rfl (lv_at hl 0 rfl) ?_
    refine lv_iload_n hx hb dL_law_182 rfl (lv_at hl 3 rfl) ?_
    refine lv_iconst (v := 1) hx hb dL_law_183 (by decide) ?_
    refine lv_iadd hx hb dL_law_184 ?_
    refine mm_sldN hx hb hX hbl hLn hV (ix1 hx3) (by omega) dL_law_185 ?_
    refine mm_Vn (ci := 5) (As := [.int (xs (i + 1))]) (rest := [.int r1]) ⟨hx, hb, hml, hown, hts⟩ hK hV (c_turnR l D dA (xs (i + 1)) hR.1 hR.2.1 hR.2.2.1) (cwV 1 hts gL_law_X5_turn rfl rfl rfl (by decide +kernel) (mm_levL (by omega) (by decide))) hR.1 hR.2.1 rfl rfl hl.1 rfl (Nat.le_of_ble_eq_true rfl) dL_law_186 (lf_room eb) (fun r2 M2 H locs hq hV => ?_)
    obtain ⟨e2, hA, m_ob, hf⟩ := hq
    rw [if_pos hc] at hA
    rw [if_pos hc, if_pos hc] at m_ob
    have hC := hC.keepR hlt d1 d2 hR hf
    have hR : RI dA KT L M2 ob ad S so lt ln := ⟨hR.1, m_ob, hA, hR.2.2.2⟩
    refine lv_icmp_eq (tgt := 433) hx hb dL_law_189 (by decide) (fun c9 => ?_) (fun c9 => ?_)
    · exact K lt ln eb ev S so L M2 H locs hG hC hR hV
    · exact absurd (by rw [e1, e2]) c9
  · rw [if_neg hc] at hM
    have hwfn := wf_mover (wf_quiet hwf) (turn_in hc)
    have hrow := hR.2.2.2.2.2.2.1
    obtain ⟨hC, hZ⟩ := hC.b1 hM
    have hR := hR.keepZ d1 d2 hZ (fun _ h => h)
    refine lv_aload_n hx hb dL_law_180 rfl (lv_at hl 2 rfl) ?_
    refine lv_aload_n hx hb dL_law_181 rfl (lv_at hl 0 rfl) ?_
    refine lv_iload_n hx hb dL_law_182 rfl (lv_at hl 3 rfl) ?_
    refine lv_iconst (v := 1) hx hb dL_law_183 (by decide) ?_
    refine lv_iadd hx hb dL_law_184 ?_
    refine mm_sldN hx hb hX hbl hLn hV (ix1 hx3) (by omega) dL_law_185 ?_
    refine mm_Vn (ci := 5) (As := [.int (xs (i + 1))]) (rest := [.int r1]) ⟨hx, hb, hml, hown, hts⟩ hK hV (c_turnR l D dA (xs (i + 1)) hR.1 hR.2.1 hR.2.2.1) (cwV 1 hts gL_law_X5_turn rfl rfl rfl (by decide +kernel) (mm_levL (by omega) (by decide))) hR.1 hR.2.1 rfl rfl hl.1 rfl (Nat.le_of_ble_eq_true rfl) dL_law_186 (lf_room eb) (fun r2 M2 H locs hq hV => ?_)
    obtain ⟨e2, hA, m_ob, hf⟩ := hq
    rw [if_neg hc] at hA
    rw [if_neg hc, if_neg hc] at m_ob
    have hC := hC.keepR (by omega) d1 d2 hR hf
    have hr9 := turn_row (x := (xs (i + 1))) hrow
    have hR := hR.fresh (ln1 := fun _ => moverP (quietP (ln lt)) (xs (i + 1))) hA m_ob hr9.2 hr9.1 rfl
    refine lv_icmp_eq (tgt := 433) hx hb dL_law_189 (by decide) (fun c9 => ?_) (fun c9 => ?_)
    · exact K 0 _ eb ev _ so L M2 H locs (GI.one hwfn) hC hR hV
    · exact absurd (by rw [e1, e2]) c9

set_option maxHeartbeats 1000000 in
set_option maxRecDepth 100000 in
theorem lo_at {p : Program} {l : Launch} {e : Env} {s : State} {m : MethodId} {below : List Frame} {meth : Method} {c : Code} {D : va_G} {dA : Nat → ClassId} {b Ln : Nat} {xs : Nat → Int32} {KT : Nat → Int32} {z ad : Nat → Nat} {ob i lt : Nat} {ln : Nat → Ps} {eb : Bool} {ev : Value} {S : Nat → Nat → Int32} {so x3 : Int32} {L : List Nat} {M : mm_M} {H : Heap} {locs : List Loc} {ls : Array Slot} (F : LF p s m c b Ln xs D dA KT z ob ad) (hi : i + 2 < Ln) (hx3 : x3 = nI i) (hG : GI lt ln) (hC : CI dA L M z ev lt ln eb) (hR : RI dA KT L M ob ad S so lt ln) (hV : mm_V (fun q : Nat => s.heap.size ≤ q) D L M s H locs) (hl : lv_has ls 4 [(0, .ref b), (1, .ref (z 0)), (2, .ref ob), (3, .int x3)])
    (K : ∀ (lt : Nat) (ln : Nat → Ps) (eb : Bool) (ev : Value) (S : Nat → Nat → Int32) (so : Int32) (L : List Nat) (M : mm_M) (H : Heap) (locs : List Loc), GI lt ln → CI dA L M z ev lt ln eb → RI dA KT L M ob ad S so lt ln → mm_V (fun q : Nat => s.heap.size ≤ q) D L M s H locs → W p l e room_1 s m #[Value.ref b] below meth c H locs (144 + kc false eb) (16918 + ks false eb) (lw_Z below #[Value.ref b] s) (F0 m 433 ls [])) : W p l e room_1 s m #[Value.ref b] below meth c H locs (144 + kc false eb) (16918 + ks false eb) (lw_Z below #[Value.ref b] s) (F0 m 194 ls []) := by
  obtain ⟨hx, hb, hml, hown, hts, hX, hbl, hLn, hK, hslv, hKv, d1, d2⟩ := F
  have hlt := hG.1
  have hwf := hG.2.1 lt (Nat.le_refl _)
  obtain ⟨hz, m_0, he, hB, hln⟩ := id hC
  obtain ⟨hF, hY, hT, h7c, hal⟩ := id hB
  have m_4 := hF.2.2.2.1
  have m_p := hln lt (Nat.le_refl _)
  have m_q := hln 0 (Nat.zero_le _)
  have hru : ruW dA L M (z 1) (z 2) (z 3) := ⟨hz.1 1 (by omega), hz.1 2 (by omega), hz.1 3 (by omega), hF.1, hF.2.1, hF.2.2.1⟩
  obtain ⟨f0, n0, hn0, m_5, m_6⟩ := hT
  have hli : liW dA L M (z 5) (z 6) f0 n0 := ⟨hz.1 5 (by omega), hz.1 6 (by omega), m_5, m_6, hn0⟩
  obtain ⟨P7, m_7⟩ := h7c
  refine lv_aload_n hx hb dL_law_194 rfl (lv_at hl 1 rfl) ?_
  refine lv_aload_n hx hb dL_law_195 rfl (lv_at hl 0 rfl) ?_
  refine lv_iload_n hx hb dL_law_196 rfl (lv_at hl 3 rfl) ?_
  refine lv_iconst (v := 1) hx hb dL_law_197 (by decide) ?_
  refine lv_iadd hx hb dL_law_198 ?_
  refine mm_sldN hx hb hX hbl hLn hV (ix1 hx3) (by omega) dL_law_199 ?_
  refine mm_Vp (v := (if isSqF (xs (i + 1)) = 0 then -1 else pieceP (ln lt) ((1 : Int32) <<< ((xs (i + 1)) &&& 31)))) (ci := 4) (As := [.int (xs (i + 1))]) (rest := []) ⟨hx, hb, hml, hown, hts⟩ hK hV (c_at l D dA (xs (i + 1)) hz m_0 m_4 hlt m_p) (cwV 1 hts gL_law_X4_at rfl rfl rfl (by decide +kernel) (mm_levL (by omega) (by decide))) (hz.1 0 (by omega)) m_0 rfl rfl hl.1 rfl (Nat.le_of_ble_eq_true rfl) dL_law_200 (lf_room eb) (fun H locs hV => ?_)
  refine lv_aload_n hx hb dL_law_203 rfl (lv_at hl 2 rfl) ?_
  refine lv_aload_n hx hb dL_law_204 rfl (lv_at hl 0 rfl) ?_
  refine lv_iload_n hx hb dL_law_205 rfl (lv_at hl 3 rfl) ?_
  refine lv_iconst (v := 1) hx hb dL_law_206 (by decide) ?_
  refine lv_iadd hx hb dL_law_207 ?_
  refine mm_sldN hx hb hX hbl hLn hV (ix1 hx3) (by omega) dL_law_208 ?_
  refine mm_Vp (v := (atR S (xs (i + 1)))) (ci := 5) (As := [.int (xs (i + 1))]) (rest := [.int ((if isSqF (xs (i + 1)) = 0 then -1 else pieceP (ln lt) ((1 : Int32) <<< ((xs (i + 1)) &&& 31))))]) ⟨hx, hb, hml, hown, hts⟩ hK hV (c_atR l D dA (xs (i + 1)) hR.1 hR.2.1 hR.2.2.1) (cwV 1 hts gL_law_X5_at rfl rfl rfl (by decide +kernel) (mm_levL (by omega) (by decide))) hR.1 hR.2.1 rfl rfl hl.1 rfl (Nat.le_of_ble_eq_true rfl) dL_law_209 (lf_room eb) (fun H locs hV => ?_)
  refine lv_icmp_eq (tgt := 433) hx hb dL_law_212 (by decide) (fun c9 => ?_) (fun c9 => ?_)
  · exact K lt ln eb ev S so L M H locs hG hC hR hV
  · exact absurd (at_eq hR.2.2.2.2.2.2.1 (xs (i + 1))) c9

set_option maxHeartbeats 1000000 in
set_option maxRecDepth 100000 in
theorem lo_side {p : Program} {l : Launch} {e : Env} {s : State} {m : MethodId} {below : List Frame} {meth : Method} {c : Code} {D : va_G} {dA : Nat → ClassId} {b Ln : Nat} {xs : Nat → Int32} {KT : Nat → Int32} {z ad : Nat → Nat} {ob i lt : Nat} {ln : Nat → Ps} {eb : Bool} {ev : Value} {S : Nat → Nat → Int32} {so x3 : Int32} {L : List Nat} {M : mm_M} {H : Heap} {locs : List Loc} {ls : Array Slot} (F : LF p s m c b Ln xs D dA KT z ob ad) (hi : i + 2 < Ln) (hx3 : x3 = nI i) (hG : GI lt ln) (hC : CI dA L M z ev lt ln eb) (hR : RI dA KT L M ob ad S so lt ln) (hV : mm_V (fun q : Nat => s.heap.size ≤ q) D L M s H locs) (hl : lv_has ls 4 [(0, .ref b), (1, .ref (z 0)), (2, .ref ob), (3, .int x3)])
    (K : ∀ (lt : Nat) (ln : Nat → Ps) (eb : Bool) (ev : Value) (S : Nat → Nat → Int32) (so : Int32) (L : List Nat) (M : mm_M) (H : Heap) (locs : List Loc), GI lt ln → CI dA L M z ev lt ln eb → RI dA KT L M ob ad S so lt ln → mm_V (fun q : Nat => s.heap.size ≤ q) D L M s H locs → W p l e room_1 s m #[Value.ref b] below meth c H locs (144 + kc false eb) (16918 + ks false eb) (lw_Z below #[Value.ref b] s) (F0 m 433 ls [])) : W p l e room_1 s m #[Value.ref b] below meth c H locs (144 + kc false eb) (16918 + ks false eb) (lw_Z below #[Value.ref b] s) (F0 m 217 ls []) := by
  obtain ⟨hx, hb, hml, hown, hts, hX, hbl, hLn, hK, hslv, hKv, d1, d2⟩ := F
  have hlt := hG.1
  have hwf := hG.2.1 lt (Nat.le_refl _)
  obtain ⟨hz, m_0, he, hB, hln⟩ := id hC
  obtain ⟨hF, hY, hT, h7c, hal⟩ := id hB
  have m_4 := hF.2.2.2.1
  have m_p := hln lt (Nat.le_refl _)
  have m_q := hln 0 (Nat.zero_le _)
  have hru : ruW dA L M (z 1) (z 2) (z 3) := ⟨hz.1 1 (by omega), hz.1 2 (by omega), hz.1 3 (by omega), hF.1, hF.2.1, hF.2.2.1⟩
  obtain ⟨f0, n0, hn0, m_5, m_6⟩ := hT
  have hli : liW dA L M (z 5) (z 6) f0 n0 := ⟨hz.1 5 (by omega), hz.1 6 (by omega), m_5, m_6, hn0⟩
  obtain ⟨P7, m_7⟩ := h7c
  refine lv_aload_n hx hb dL_law_217 rfl (lv_at hl 1 rfl) ?_
  refine mm_Vp (v := (ln lt).2.2.2.1) (ci := 4) (As := []) (rest := []) ⟨hx, hb, hml, hown, hts⟩ hK hV (c_side l D dA hz m_0 m_4 hlt m_p) (cwV 0 hts gL_law_X4_side rfl rfl rfl (by decide +kernel) (mm_levL (by omega) (by decide))) (hz.1 0 (by omega)) m_0 rfl rfl hl.1 rfl (Nat.le_of_ble_eq_true rfl) dL_law_218 (lf_room eb) (fun H locs hV => ?_)
  refine lv_aload_n hx hb dL_law_221 rfl (lv_at hl 2 rfl) ?_
  refine mm_Vp (v := (S 1 0)) (ci := 5) (As := []) (rest := [.int ((ln lt).2.2.2.1)]) ⟨hx, hb, hml, hown, hts⟩ hK hV (c_sideFR l D dA hR.1 hR.2.1 hR.2.2.1) (cwV 0 hts gL_law_X5_side rfl rfl rfl (by decide +kernel) (mm_levL (by omega) (by decide))) hR.1 hR.2.1 rfl rfl hl.1 rfl (Nat.le_of_ble_eq_true rfl) dL_law_222 (lf_room eb) (fun H locs hV => ?_)
  refine lv_icmp_eq (tgt := 433) hx hb dL_law_225 (by decide) (fun c9 => ?_) (fun c9 => ?_)
  · exact K lt ln eb ev S so L M H locs hG hC hR hV
  · exact absurd (hR.2.2.2.2.2.2.1.2.symm) c9

set_option maxHeartbeats 1000000 in
set_option maxRecDepth 100000 in
theorem lo_played {p : Program} {l : Launch} {e : Env} {s : State} {m : MethodId} {below : List Frame} {meth : Method} {c : Code} {D : va_G} {dA : Nat → ClassId} {b Ln : Nat} {xs : Nat → Int32} {KT : Nat → Int32} {z ad : Nat → Nat} {ob i lt : Nat} {ln : Nat → Ps} {eb : Bool} {ev : Value} {S : Nat → Nat → Int32} {so x3 : Int32} {L : List Nat} {M : mm_M} {H : Heap} {locs : List Loc} {ls : Array Slot} (F : LF p s m c b Ln xs D dA KT z ob ad) (hi : i + 2 < Ln) (hx3 : x3 = nI i) (hG : GI lt ln) (hC : CI dA L M z ev lt ln eb) (hR : RI dA KT L M ob ad S so lt ln) (hV : mm_V (fun q : Nat => s.heap.size ≤ q) D L M s H locs) (hl : lv_has ls 4 [(0, .ref b), (1, .ref (z 0)), (2, .ref ob), (3, .int x3)])
    (K : ∀ (lt : Nat) (ln : Nat → Ps) (eb : Bool) (ev : Value) (S : Nat → Nat → Int32) (so : Int32) (L : List Nat) (M : mm_M) (H : Heap) (locs : List Loc), GI lt ln → CI dA L M z ev lt ln eb → RI dA KT L M ob ad S so lt ln → mm_V (fun q : Nat => s.heap.size ≤ q) D L M s H locs → W p l e room_1 s m #[Value.ref b] below meth c H locs (144 + kc false eb) (16918 + ks false eb) (lw_Z below #[Value.ref b] s) (F0 m 433 ls [])) : W p l e room_1 s m #[Value.ref b] below meth c H locs (144 + kc false eb) (16918 + ks false eb) (lw_Z below #[Value.ref b] s) (F0 m 312 ls []) := by
  obtain ⟨hx, hb, hml, hown, hts, hX, hbl, hLn, hK, hslv, hKv, d1, d2⟩ := F
  have hlt := hG.1
  have hwf := hG.2.1 lt (Nat.le_refl _)
  obtain ⟨hz, m_0, he, hB, hln⟩ := id hC
  obtain ⟨hF, hY, hT, h7c, hal⟩ := id hB
  have m_4 := hF.2.2.2.1
  have m_p := hln lt (Nat.le_refl _)
  have m_q := hln 0 (Nat.zero_le _)
  have hru : ruW dA L M (z 1) (z 2) (z 3) := ⟨hz.1 1 (by omega), hz.1 2 (by omega), hz.1 3 (by omega), hF.1, hF.2.1, hF.2.2.1⟩
  obtain ⟨f0, n0, hn0, m_5, m_6⟩ := hT
  have hli : liW dA L M (z 5) (z 6) f0 n0 := ⟨hz.1 5 (by omega), hz.1 6 (by omega), m_5, m_6, hn0⟩
  obtain ⟨P7, m_7⟩ := h7c
  refine lv_aload_n hx hb dL_law_312 rfl (lv_at hl 1 rfl) ?_
  refine mm_Vp (v := (nI lt)) (ci := 4) (As := []) (rest := []) ⟨hx, hb, hml, hown, hts⟩ hK hV (c_played l D dA hz m_0 m_4 hlt m_p) (cwV 0 hts gL_law_X4_played rfl rfl rfl (by decide +kernel) (mm_levL (by omega) (by decide))) (hz.1 0 (by omega)) m_0 rfl rfl hl.1 rfl (Nat.le_of_ble_eq_true rfl) dL_law_313 (lf_room eb) (fun H locs hV => ?_)
  refine lv_aload_n hx hb dL_law_316 rfl (lv_at hl 2 rfl) ?_
  refine mm_Vp (v := (nI lt)) (ci := 5) (As := []) (rest := [.int ((nI lt))]) ⟨hx, hb, hml, hown, hts⟩ hK hV (c_playedR l D dA hR.1 hR.2.1 hR.2.2.1) (cwV 0 hts gL_law_X5_played rfl rfl rfl (by decide +kernel) (mm_levL (by omega) (by decide))) hR.1 hR.2.1 rfl rfl hl.1 rfl (Nat.le_of_ble_eq_true rfl) dL_law_317 (lf_room eb) (fun H locs hV => ?_)
  refine lv_icmp_eq (tgt := 433) hx hb dL_law_320 (by decide) (fun c9 => ?_) (fun c9 => ?_)
  · exact K lt ln eb ev S so L M H locs hG hC hR hV
  · exact absurd (rfl) c9

set_option maxHeartbeats 1000000 in
set_option maxRecDepth 100000 in
theorem lo_quiet {p : Program} {l : Launch} {e : Env} {s : State} {m : MethodId} {below : List Frame} {meth : Method} {c : Code} {D : va_G} {dA : Nat → ClassId} {b Ln : Nat} {xs : Nat → Int32} {KT : Nat → Int32} {z ad : Nat → Nat} {ob i lt : Nat} {ln : Nat → Ps} {eb : Bool} {ev : Value} {S : Nat → Nat → Int32} {so x3 : Int32} {L : List Nat} {M : mm_M} {H : Heap} {locs : List Loc} {ls : Array Slot} (F : LF p s m c b Ln xs D dA KT z ob ad) (hi : i + 2 < Ln) (hx3 : x3 = nI i) (hG : GI lt ln) (hC : CI dA L M z ev lt ln eb) (hR : RI dA KT L M ob ad S so lt ln) (hV : mm_V (fun q : Nat => s.heap.size ≤ q) D L M s H locs) (hl : lv_has ls 4 [(0, .ref b), (1, .ref (z 0)), (2, .ref ob), (3, .int x3)])
    (K : ∀ (lt : Nat) (ln : Nat → Ps) (eb : Bool) (ev : Value) (S : Nat → Nat → Int32) (so : Int32) (L : List Nat) (M : mm_M) (H : Heap) (locs : List Loc), GI lt ln → CI dA L M z ev lt ln eb → RI dA KT L M ob ad S so lt ln → mm_V (fun q : Nat => s.heap.size ≤ q) D L M s H locs → W p l e room_1 s m #[Value.ref b] below meth c H locs (144 + kc false eb) (16918 + ks false eb) (lw_Z below #[Value.ref b] s) (F0 m 433 ls [])) : W p l e room_1 s m #[Value.ref b] below meth c H locs (144 + kc false eb) (16918 + ks false eb) (lw_Z below #[Value.ref b] s) (F0 m 338 ls []) := by
  obtain ⟨hx, hb, hml, hown, hts, hX, hbl, hLn, hK, hslv, hKv, d1, d2⟩ := F
  have hlt := hG.1
  have hwf := hG.2.1 lt (Nat.le_refl _)
  obtain ⟨hz, m_0, he, hB, hln⟩ := id hC
  obtain ⟨hF, hY, hT, h7c, hal⟩ := id hB
  have m_4 := hF.2.2.2.1
  have m_p := hln lt (Nat.le_refl _)
  have m_q := hln 0 (Nat.zero_le _)
  have hru : ruW dA L M (z 1) (z 2) (z 3) := ⟨hz.1 1 (by omega), hz.1 2 (by omega), hz.1 3 (by omega), hF.1, hF.2.1, hF.2.2.1⟩
  obtain ⟨f0, n0, hn0, m_5, m_6⟩ := hT
  have hli : liW dA L M (z 5) (z 6) f0 n0 := ⟨hz.1 5 (by omega), hz.1 6 (by omega), m_5, m_6, hn0⟩
  obtain ⟨P7, m_7⟩ := h7c
  refine lv_aload_n hx hb dL_law_338 rfl (lv_at hl 1 rfl) ?_
  refine mm_Vp (v := (ln lt).2.2.2.2) (ci := 4) (As := []) (rest := []) ⟨hx, hb, hml, hown, hts⟩ hK hV (c_quiet l D dA hz m_0 m_4 hlt m_p) (cwV 0 hts gL_law_X4_quiet rfl rfl rfl (by decide +kernel) (mm_levL (by omega) (by decide))) (hz.1 0 (by omega)) m_0 rfl rfl hl.1 rfl (Nat.le_of_ble_eq_true rfl) dL_law_339 (lf_room eb) (fun H locs hV => ?_)
  refine lv_aload_n hx hb dL_law_342 rfl (lv_at hl 2 rfl) ?_
  refine mm_Vp (v := (ln lt).2.2.2.2) (ci := 5) (As := []) (rest := [.int ((ln lt).2.2.2.2)]) ⟨hx, hb, hml, hown, hts⟩ hK hV (c_quietR l D dA hR.1 hR.2.1 hR.2.2.1) (cwV 0 hts gL_law_X5_quiet rfl rfl rfl (by decide +kernel) (mm_levL (by omega) (by decide))) hR.1 hR.2.1 rfl rfl hl.1 rfl (Nat.le_of_ble_eq_true rfl) dL_law_343 (lf_room eb) (fun H locs hV => ?_)
  refine lv_icmp_eq (tgt := 433) hx hb dL_law_346 (by decide) (fun c9 => ?_) (fun c9 => ?_)
  · exact K lt ln eb ev S so L M H locs hG hC hR hV
  · exact absurd (rfl) c9

set_option maxHeartbeats 1000000 in
set_option maxRecDepth 100000 in
theorem lo_moves {p : Program} {l : Launch} {e : Env} {s : State} {m : MethodId} {below : List Frame} {meth : Method} {c : Code} {D : va_G} {dA : Nat → ClassId} {b Ln : Nat} {xs : Nat → Int32} {KT : Nat → Int32} {z ad : Nat → Nat} {ob i lt : Nat} {ln : Nat → Ps} {eb : Bool} {ev : Value} {S : Nat → Nat → Int32} {so x3 : Int32} {L : List Nat} {M : mm_M} {H : Heap} {locs : List Loc} {ls : Array Slot} (F : LF p s m c b Ln xs D dA KT z ob ad) (hi : i + 2 < Ln) (hx3 : x3 = nI i) (hG : GI lt ln) (hC : CI dA L M z ev lt ln eb) (hR : RI dA KT L M ob ad S so lt ln) (hV : mm_V (fun q : Nat => s.heap.size ≤ q) D L M s H locs) (hl : lv_has ls 4 [(0, .ref b), (1, .ref (z 0)), (2, .ref ob), (3, .int x3)])
    (K : ∀ (lt : Nat) (ln : Nat → Ps) (eb : Bool) (ev : Value) (S : Nat → Nat → Int32) (so : Int32) (L : List Nat) (M : mm_M) (H : Heap) (locs : List Loc), GI lt ln → CI dA L M z ev lt ln eb → RI dA KT L M ob ad S so lt ln → mm_V (fun q : Nat => s.heap.size ≤ q) D L M s H locs → W p l e room_1 s m #[Value.ref b] below meth c H locs (144 + kc false eb) (16918 + ks false eb) (lw_Z below #[Value.ref b] s) (F0 m 433 ls [])) : W p l e room_1 s m #[Value.ref b] below meth c H locs (144 + kc false eb) (16918 + ks false eb) (lw_Z below #[Value.ref b] s) (F0 m 230 ls []) := by
  obtain ⟨hx, hb, hml, hown, hts, hX, hbl, hLn, hK, hslv, hKv, d1, d2⟩ := F
  have hlt := hG.1
  have hwf := hG.2.1 lt (Nat.le_refl _)
  obtain ⟨hz, m_0, he, hB, hln⟩ := id hC
  obtain ⟨hF, hY, hT, h7c, hal⟩ := id hB
  have m_4 := hF.2.2.2.1
  have m_p := hln lt (Nat.le_refl _)
  have m_q := hln 0 (Nat.zero_le _)
  have hru : ruW dA L M (z 1) (z 2) (z 3) := ⟨hz.1 1 (by omega), hz.1 2 (by omega), hz.1 3 (by omega), hF.1, hF.2.1, hF.2.2.1⟩
  obtain ⟨f0, n0, hn0, m_5, m_6⟩ := hT
  have hli : liW dA L M (z 5) (z 6) f0 n0 := ⟨hz.1 5 (by omega), hz.1 6 (by omega), m_5, m_6, hn0⟩
  obtain ⟨P7, m_7⟩ := h7c
  refine lv_aload_n hx hb dL_law_230 rfl (lv_at hl 1 rfl) ?_
  refine mm_Vn (ci := 4) (As := []) (rest := []) ⟨hx, hb, hml, hown, hts⟩ hK hV (c_moves l D dA hz m_0 m_4 hlt m_p hru hli) (cwV 0 hts gL_law_X4_moves rfl rfl rfl (by decide +kernel) (mm_levL (by omega) (by decide))) (hz.1 0 (by omega)) m_0 rfl rfl hl.1 rfl (Nat.le_of_ble_eq_true rfl) dL_law_231 (lf_room eb) (fun r1 M1 H locs hp hV => ?_)
  obtain ⟨e1, hM⟩ := hp
  obtain ⟨hC, hZ⟩ := hC.ls hlt (P := ln lt) (f0 := f0) hM
  have hR := hR.keepZ d1 d2 hZ (fun _ h => h)
  refine lv_aload_n hx hb dL_law_234 rfl (lv_at hl 2 rfl) ?_
  refine mm_Vn (ci := 5) (As := []) (rest := [.int r1]) ⟨hx, hb, hml, hown, hts⟩ hK hV (c_movesR l D dA hR.1 hR.2.1 hR.2.2.1 hR.2.2.2.1 hR.2.2.2.2.1 gen_sem hR.2.2.2.2.2.2.1 hwf) (cwV 0 hts gL_law_X5_moves rfl rfl rfl (by decide +kernel) (mm_levL (by omega) (by decide))) hR.1 hR.2.1 rfl rfl hl.1 rfl (Nat.le_of_ble_eq_true rfl) dL_law_235 (lf_room eb) (fun r2 M2 H locs hq hV => ?_)
  obtain ⟨e2, S1, hg9, hA, m_ob, hf⟩ := hq
  have hC := hC.keepR hlt d1 d2 hR hf
  have hR := hR.gen hg9 hA m_ob
  refine lv_icmp_eq (tgt := 433) hx hb dL_law_238 (by decide) (fun c9 => ?_) (fun c9 => ?_)
  · exact K lt ln eb ev S1 so L M2 H locs hG hC hR hV
  · exact absurd (by rw [e1, e2, mvN_eq]) c9

set_option maxHeartbeats 1000000 in
set_option maxRecDepth 100000 in
theorem lo_move {p : Program} {l : Launch} {e : Env} {s : State} {m : MethodId} {below : List Frame} {meth : Method} {c : Code} {D : va_G} {dA : Nat → ClassId} {b Ln : Nat} {xs : Nat → Int32} {KT : Nat → Int32} {z ad : Nat → Nat} {ob i lt : Nat} {ln : Nat → Ps} {eb : Bool} {ev : Value} {S : Nat → Nat → Int32} {so x3 : Int32} {L : List Nat} {M : mm_M} {H : Heap} {locs : List Loc} {ls : Array Slot} (F : LF p s m c b Ln xs D dA KT z ob ad) (hi : i + 2 < Ln) (hx3 : x3 = nI i) (hG : GI lt ln) (hC : CI dA L M z ev lt ln eb) (hR : RI dA KT L M ob ad S so lt ln) (hV : mm_V (fun q : Nat => s.heap.size ≤ q) D L M s H locs) (hl : lv_has ls 4 [(0, .ref b), (1, .ref (z 0)), (2, .ref ob), (3, .int x3)])
    (K : ∀ (lt : Nat) (ln : Nat → Ps) (eb : Bool) (ev : Value) (S : Nat → Nat → Int32) (so : Int32) (L : List Nat) (M : mm_M) (H : Heap) (locs : List Loc), GI lt ln → CI dA L M z ev lt ln eb → RI dA KT L M ob ad S so lt ln → mm_V (fun q : Nat => s.heap.size ≤ q) D L M s H locs → W p l e room_1 s m #[Value.ref b] below meth c H locs (144 + kc false eb) (16918 + ks false eb) (lw_Z below #[Value.ref b] s) (F0 m 433 ls [])) : W p l e room_1 s m #[Value.ref b] below meth c H locs (144 + kc false eb) (16918 + ks false eb) (lw_Z below #[Value.ref b] s) (F0 m 243 ls []) := by
  obtain ⟨hx, hb, hml, hown, hts, hX, hbl, hLn, hK, hslv, hKv, d1, d2⟩ := F
  have hlt := hG.1
  have hwf := hG.2.1 lt (Nat.le_refl _)
  obtain ⟨hz, m_0, he, hB, hln⟩ := id hC
  obtain ⟨hF, hY, hT, h7c, hal⟩ := id hB
  have m_4 := hF.2.2.2.1
  have m_p := hln lt (Nat.le_refl _)
  have m_q := hln 0 (Nat.zero_le _)
  have hru : ruW dA L M (z 1) (z 2) (z 3) := ⟨hz.1 1 (by omega), hz.1 2 (by omega), hz.1 3 (by omega), hF.1, hF.2.1, hF.2.2.1⟩
  obtain ⟨f0, n0, hn0, m_5, m_6⟩ := hT
  have hli : liW dA L M (z 5) (z 6) f0 n0 := ⟨hz.1 5 (by omega), hz.1 6 (by omega), m_5, m_6, hn0⟩
  obtain ⟨P7, m_7⟩ := h7c
  refine lv_aload_n hx hb dL_law_243 rfl (lv_at hl 1 rfl) ?_
  refine lv_aload_n hx hb dL_law_244 rfl (lv_at hl 0 rfl) ?_
  refine lv_iload_n hx hb dL_law_245 rfl (lv_at hl 3 rfl) ?_
  refine lv_iconst (v := 1) hx hb dL_law_246 (by decide) ?_
  refine lv_iadd hx hb dL_law_247 ?_
  refine mm_sldN hx hb hX hbl hLn hV (ix1 hx3) (by omega) dL_law_248 ?_
  refine lv_aload_n hx hb dL_law_249 rfl (lv_at hl 0 rfl) ?_
  refine lv_iload_n hx hb dL_law_250 rfl (lv_at hl 3 rfl) ?_
  refine lv_iconst (v := 2) hx hb dL_law_251 (by decide) ?_
  refine lv_iadd hx hb dL_law_252 ?_
  refine mm_sldN hx hb hX hbl hLn hV (ix2 hx3) (by omega) dL_law_253 ?_
  refine mm_Vn (ci := 4) (As := [.int (xs (i + 1)), .int (xs (i + 2))]) (rest := []) ⟨hx, hb, hml, hown, hts⟩ hK hV (c_move l D dA (xs (i + 1)) (xs (i + 2)) hz m_0 m_4 hlt m_p hru hli) (cwV 2 hts gL_law_X4_move rfl rfl rfl (by decide +kernel) (mm_levL (by omega) (by decide))) (hz.1 0 (by omega)) m_0 rfl rfl hl.1 rfl (Nat.le_of_ble_eq_true rfl) dL_law_254 (lf_room eb) (fun r1 M1 H locs hp hV => ?_)
  obtain ⟨e1, hM⟩ := hp
  obtain ⟨hC, hZ⟩ : CI dA L M1 z ev lt ln eb ∧ FZ L z M M1 := by
    by_cases hc : (xs (i + 1)) < 0
    · rw [if_pos hc] at hM; rw [hM]; exact ⟨hC, FZ.rf⟩
    · rw [if_neg hc] at hM; exact hC.ls hlt hM
  have hR := hR.keepZ d1 d2 hZ (fun _ h => h)
  refine lv_aload_n hx hb dL_law_257 rfl (lv_at hl 2 rfl) ?_
  refine lv_aload_n hx hb dL_law_258 rfl (lv_at hl 0 rfl) ?_
  refine lv_iload_n hx hb dL_law_259 rfl (lv_at hl 3 rfl) ?_
  refine lv_iconst (v := 1) hx hb dL_law_260 (by decide) ?_
  refine lv_iadd hx hb dL_law_261 ?_
  refine mm_sldN hx hb hX hbl hLn hV (ix1 hx3) (by omega) dL_law_262 ?_
  refine lv_aload_n hx hb dL_law_263 rfl (lv_at hl 0 rfl) ?_
  refine lv_iload_n hx hb dL_law_264 rfl (lv_at hl 3 rfl) ?_
  refine lv_iconst (v := 2) hx hb dL_law_265 (by decide) ?_
  refine lv_iadd hx hb dL_law_266 ?_
  refine mm_sldN hx hb hX hbl hLn hV (ix2 hx3) (by omega) dL_law_267 ?_
  refine mm_Vn (ci := 5) (As := [.int (xs (i + 1)), .int (xs (i + 2))]) (rest := [.int r1]) ⟨hx, hb, hml, hown, hts⟩ hK hV (c_moveR l D dA (xs (i + 1)) (xs (i + 2)) hR.1 hR.2.1 hR.2.2.1 hR.2.2.2.1 hR.2.2.2.2.1 gen_sem hR.2.2.2.2.2.2.1 hwf) (cwV 2 hts gL_law_X5_move rfl rfl rfl (by decide +kernel) (mm_levL (by omega) (by decide))) hR.1 hR.2.1 rfl rfl hl.1 rfl (Nat.le_of_ble_eq_true rfl) dL_law_268 (lf_room eb) (fun r2 M2 H locs hq hV => ?_)
  obtain ⟨e2, S1, hs9, hA, m_ob, hf⟩ := hq
  have hC := hC.keepR hlt d1 d2 hR hf
  have hR : RI dA KT L M2 ob ad S1 so lt ln := by
    rcases hs9 with q | q
    · subst q; exact ⟨hR.1, m_ob, hA, hR.2.2.2⟩
    · exact hR.gen q hA m_ob
  refine lv_icmp_eq (tgt := 433) hx hb dL_law_271 (by decide) (fun c9 => ?_) (fun c9 => ?_)
  · exact K lt ln eb ev S1 so L M2 H locs hG hC hR hV
  · exact absurd (by rw [e1, e2, move_eq hwf]) c9

set_option maxHeartbeats 1000000 in
set_option maxRecDepth 100000 in
theorem lo_over {p : Program} {l : Launch} {e : Env} {s : State} {m : MethodId} {below : List Frame} {meth : Method} {c : Code} {D : va_G} {dA : Nat → ClassId} {b Ln : Nat} {xs : Nat → Int32} {KT : Nat → Int32} {z ad : Nat → Nat} {ob i lt : Nat} {ln : Nat → Ps} {eb : Bool} {ev : Value} {S : Nat → Nat → Int32} {so x3 : Int32} {L : List Nat} {M : mm_M} {H : Heap} {locs : List Loc} {ls : Array Slot} (F : LF p s m c b Ln xs D dA KT z ob ad) (hi : i + 2 < Ln) (hx3 : x3 = nI i) (hG : GI lt ln) (hC : CI dA L M z ev lt ln eb) (hR : RI dA KT L M ob ad S so lt ln) (hV : mm_V (fun q : Nat => s.heap.size ≤ q) D L M s H locs) (hl : lv_has ls 4 [(0, .ref b), (1, .ref (z 0)), (2, .ref ob), (3, .int x3)])
    (K : ∀ (lt : Nat) (ln : Nat → Ps) (eb : Bool) (ev : Value) (S : Nat → Nat → Int32) (so : Int32) (L : List Nat) (M : mm_M) (H : Heap) (locs : List Loc), GI lt ln → CI dA L M z ev lt ln eb → RI dA KT L M ob ad S so lt ln → mm_V (fun q : Nat => s.heap.size ≤ q) D L M s H locs → W p l e room_1 s m #[Value.ref b] below meth c H locs (144 + kc false eb) (16918 + ks false eb) (lw_Z below #[Value.ref b] s) (F0 m 433 ls [])) : W p l e room_1 s m #[Value.ref b] below meth c H locs (144 + kc false eb) (16918 + ks false eb) (lw_Z below #[Value.ref b] s) (F0 m 325 ls []) := by
  obtain ⟨hx, hb, hml, hown, hts, hX, hbl, hLn, hK, hslv, hKv, d1, d2⟩ := F
  have hlt := hG.1
  have hwf := hG.2.1 lt (Nat.le_refl _)
  obtain ⟨hz, m_0, he, hB, hln⟩ := id hC
  obtain ⟨hF, hY, hT, h7c, hal⟩ := id hB
  have m_4 := hF.2.2.2.1
  have m_p := hln lt (Nat.le_refl _)
  have m_q := hln 0 (Nat.zero_le _)
  have hru : ruW dA L M (z 1) (z 2) (z 3) := ⟨hz.1 1 (by omega), hz.1 2 (by omega), hz.1 3 (by omega), hF.1, hF.2.1, hF.2.2.1⟩
  obtain ⟨f0, n0, hn0, m_5, m_6⟩ := hT
  have hli : liW dA L M (z 5) (z 6) f0 n0 := ⟨hz.1 5 (by omega), hz.1 6 (by omega), m_5, m_6, hn0⟩
  obtain ⟨P7, m_7⟩ := h7c
  refine lv_aload_n hx hb dL_law_325 rfl (lv_at hl 1 rfl) ?_
  refine mm_Vp (v := (overF (ln lt))) (ci := 4) (As := []) (rest := []) ⟨hx, hb, hml, hown, hts⟩ hK hV (c_over l D dA hz m_0 m_4 hlt m_p hru) (cwV 0 hts gL_law_X4_over rfl rfl rfl (by decide +kernel) (mm_levL (by omega) (by decide))) (hz.1 0 (by omega)) m_0 rfl rfl hl.1 rfl (Nat.le_of_ble_eq_true rfl) dL_law_326 (lf_room eb) (fun H locs hV => ?_)
  refine lv_aload_n hx hb dL_law_329 rfl (lv_at hl 2 rfl) ?_
  refine mm_Vn (ci := 5) (As := []) (rest := [.int ((overF (ln lt)))]) ⟨hx, hb, hml, hown, hts⟩ hK hV (c_overR l D dA hR.1 hR.2.1 hR.2.2.1 hR.2.2.2.1 hR.2.2.2.2.1 gen_sem hR.2.2.2.2.2.2.1 hwf) (cwV 0 hts gL_law_X5_over rfl rfl rfl (by decide +kernel) (mm_levL (by omega) (by decide))) hR.1 hR.2.1 rfl rfl hl.1 rfl (Nat.le_of_ble_eq_true rfl) dL_law_330 (lf_room eb) (fun r2 M2 H locs hq hV => ?_)
  obtain ⟨e2, S1, hg9, hA, m_ob, hf⟩ := hq
  have hC := hC.keepR hlt d1 d2 hR hf
  have hR := hR.gen hg9 hA m_ob
  refine lv_icmp_eq (tgt := 433) hx hb dL_law_333 (by decide) (fun c9 => ?_) (fun c9 => ?_)
  · exact K lt ln eb ev S1 so L M2 H locs hG hC hR hV
  · exact absurd (by rw [e2]; exact over_eq hwf) c9

set_option maxHeartbeats 1000000 in
set_option maxRecDepth 100000 in
theorem lo_undo {p : Program} {l : Launch} {e : Env} {s : State} {m : MethodId} {below : List Frame} {meth : Method} {c : Code} {D : va_G} {dA : Nat → ClassId} {b Ln : Nat} {xs : Nat → Int32} {KT : Nat → Int32} {z ad : Nat → Nat} {ob i lt : Nat} {ln : Nat → Ps} {eb : Bool} {ev : Value} {S : Nat → Nat → Int32} {so x3 : Int32} {L : List Nat} {M : mm_M} {H : Heap} {locs : List Loc} {ls : Array Slot} (F : LF p s m c b Ln xs D dA KT z ob ad) (hi : i + 2 < Ln) (hx3 : x3 = nI i) (hG : GI lt ln) (hC : CI dA L M z ev lt ln eb) (hR : RI dA KT L M ob ad S so lt ln) (hV : mm_V (fun q : Nat => s.heap.size ≤ q) D L M s H locs) (hl : lv_has ls 4 [(0, .ref b), (1, .ref (z 0)), (2, .ref ob), (3, .int x3)])
    (K : ∀ (lt : Nat) (ln : Nat → Ps) (eb : Bool) (ev : Value) (S : Nat → Nat → Int32) (so : Int32) (L : List Nat) (M : mm_M) (H : Heap) (locs : List Loc), GI lt ln → CI dA L M z ev lt ln eb → RI dA KT L M ob ad S so lt ln → mm_V (fun q : Nat => s.heap.size ≤ q) D L M s H locs → W p l e room_1 s m #[Value.ref b] below meth c H locs (144 + kc false eb) (16918 + ks false eb) (lw_Z below #[Value.ref b] s) (F0 m 433 ls [])) : W p l e room_1 s m #[Value.ref b] below meth c H locs (144 + kc false eb) (16918 + ks false eb) (lw_Z below #[Value.ref b] s) (F0 m 299 ls []) := by
  obtain ⟨hx, hb, hml, hown, hts, hX, hbl, hLn, hK, hslv, hKv, d1, d2⟩ := F
  have hlt := hG.1
  have hwf := hG.2.1 lt (Nat.le_refl _)
  obtain ⟨hz, m_0, he, hB, hln⟩ := id hC
  obtain ⟨hF, hY, hT, h7c, hal⟩ := id hB
  have m_4 := hF.2.2.2.1
  have m_p := hln lt (Nat.le_refl _)
  have m_q := hln 0 (Nat.zero_le _)
  have hru : ruW dA L M (z 1) (z 2) (z 3) := ⟨hz.1 1 (by omega), hz.1 2 (by omega), hz.1 3 (by omega), hF.1, hF.2.1, hF.2.2.1⟩
  obtain ⟨f0, n0, hn0, m_5, m_6⟩ := hT
  have hli : liW dA L M (z 5) (z 6) f0 n0 := ⟨hz.1 5 (by omega), hz.1 6 (by omega), m_5, m_6, hn0⟩
  obtain ⟨P7, m_7⟩ := h7c
  refine lv_aload_n hx hb dL_law_299 rfl (lv_at hl 1 rfl) ?_
  refine mm_Vn (ci := 4) (As := []) (rest := []) ⟨hx, hb, hml, hown, hts⟩ hK hV (c_undo l D dA hz m_0 m_4 hlt m_p) (cwV 0 hts gL_law_X4_undo rfl rfl rfl (by decide +kernel) (mm_levL (by omega) (by decide))) (hz.1 0 (by omega)) m_0 rfl rfl hl.1 rfl (Nat.le_of_ble_eq_true rfl) dL_law_300 (lf_room eb) (fun r1 M1 H locs hp hV => ?_)
  obtain ⟨e1, hM⟩ := hp
  obtain ⟨hC, hZ⟩ : CI dA L M1 z ev (lt - 1) ln eb ∧ FZ L z M M1 := by
    by_cases hc : lt = 0
    · rw [if_pos hc] at hM; subst hM; rw [show lt - 1 = lt by omega]; exact ⟨hC, FZ.rf⟩
    · rw [if_neg hc] at hM; exact ⟨by rw [hM]; exact hC.back hlt (by omega), FZ.rf.up (k := 0) (by omega) hM⟩
  have hR := hR.keepZ d1 d2 hZ (fun _ h => h)
  refine lv_aload_n hx hb dL_law_303 rfl (lv_at hl 2 rfl) ?_
  refine mm_Vn (ci := 5) (As := []) (rest := [.int r1]) ⟨hx, hb, hml, hown, hts⟩ hK hV (c_undoR l D dA hR.1 hR.2.1 hR.2.2.1 rfl hlt) (cwV 0 hts gL_law_X5_undo rfl rfl rfl (by decide +kernel) (mm_levL (by omega) (by decide))) hR.1 hR.2.1 rfl rfl hl.1 rfl (Nat.le_of_ble_eq_true rfl) dL_law_304 (lf_room eb) (fun r2 M2 H locs hq hV => ?_)
  obtain ⟨e2, hA, m_ob, hf⟩ := hq
  have hC := hC.keepR (by omega) d1 d2 hR hf
  obtain ⟨S1, hR⟩ : ∃ S1, RI dA KT L M2 ob ad S1 so (lt - 1) ln := by
    by_cases hc : lt = 0
    · rw [if_pos hc] at hA
      rw [if_pos hc, if_pos hc] at m_ob
      rw [show lt - 1 = lt by omega]
      exact ⟨S, hR.1, m_ob, hA, hR.2.2.2⟩
    · rw [if_neg hc] at hA
      rw [if_neg hc, if_neg hc] at m_ob
      exact ⟨_, hR.undo hG hc hA m_ob⟩
  refine lv_icmp_eq (tgt := 433) hx hb dL_law_307 (by decide) (fun c9 => ?_) (fun c9 => ?_)
  · exact K (lt - 1) ln eb ev S1 so L M2 H locs hG.back hC hR hV
  · exact absurd (by rw [e1, e2]) c9

set_option maxHeartbeats 1000000 in
set_option maxRecDepth 100000 in
theorem lo_ways {p : Program} {l : Launch} {e : Env} {s : State} {m : MethodId} {below : List Frame} {meth : Method} {c : Code} {D : va_G} {dA : Nat → ClassId} {b Ln : Nat} {xs : Nat → Int32} {KT : Nat → Int32} {z ad : Nat → Nat} {ob i lt : Nat} {ln : Nat → Ps} {eb : Bool} {ev : Value} {S : Nat → Nat → Int32} {so x3 : Int32} {L : List Nat} {M : mm_M} {H : Heap} {locs : List Loc} {ls : Array Slot} (F : LF p s m c b Ln xs D dA KT z ob ad) (hi : i + 2 < Ln) (hx3 : x3 = nI i) (hG : GI lt ln) (hC : CI dA L M z ev lt ln eb) (hR : RI dA KT L M ob ad S so lt ln) (hV : mm_V (fun q : Nat => s.heap.size ≤ q) D L M s H locs) (hl : lv_has ls 4 [(0, .ref b), (1, .ref (z 0)), (2, .ref ob), (3, .int x3)])
    (K : ∀ (lt : Nat) (ln : Nat → Ps) (eb : Bool) (ev : Value) (S : Nat → Nat → Int32) (so : Int32) (L : List Nat) (M : mm_M) (H : Heap) (locs : List Loc), GI lt ln → CI dA L M z ev lt ln eb → RI dA KT L M ob ad S so lt ln → mm_V (fun q : Nat => s.heap.size ≤ q) D L M s H locs → W p l e room_1 s m #[Value.ref b] below meth c H locs (144 + kc false eb) (16918 + ks false eb) (lw_Z below #[Value.ref b] s) (F0 m 433 ls [])) : W p l e room_1 s m #[Value.ref b] below meth c H locs (144 + kc false eb) (16918 + ks false eb) (lw_Z below #[Value.ref b] s) (F0 m 351 ls []) := by
  obtain ⟨hx, hb, hml, hown, hts, hX, hbl, hLn, hK, hslv, hKv, d1, d2⟩ := F
  have hlt := hG.1
  have hwf := hG.2.1 lt (Nat.le_refl _)
  obtain ⟨hz, m_0, he, hB, hln⟩ := id hC
  obtain ⟨hF, hY, hT, h7c, hal⟩ := id hB
  have m_4 := hF.2.2.2.1
  have m_p := hln lt (Nat.le_refl _)
  have m_q := hln 0 (Nat.zero_le _)
  have hru : ruW dA L M (z 1) (z 2) (z 3) := ⟨hz.1 1 (by omega), hz.1 2 (by omega), hz.1 3 (by omega), hF.1, hF.2.1, hF.2.2.1⟩
  obtain ⟨f0, n0, hn0, m_5, m_6⟩ := hT
  have hli : liW dA L M (z 5) (z 6) f0 n0 := ⟨hz.1 5 (by omega), hz.1 6 (by omega), m_5, m_6, hn0⟩
  obtain ⟨P7, m_7⟩ := h7c
  refine lv_aload_n hx hb dL_law_351 rfl (lv_at hl 1 rfl) ?_
  refine lv_aload_n hx hb dL_law_352 rfl (lv_at hl 0 rfl) ?_
  refine lv_iload_n hx hb dL_law_353 rfl (lv_at hl 3 rfl) ?_
  refine lv_iconst (v := 1) hx hb dL_law_354 (by decide) ?_
  refine lv_iadd hx hb dL_law_355 ?_
  refine mm_sldN hx hb hX hbl hLn hV (ix1 hx3) (by omega) dL_law_356 ?_
  refine mm_Vn (ci := 4) (As := [.int (xs (i + 1))]) (rest := []) ⟨hx, hb, hml, hown, hts⟩ hK hV (c_ways2 l D dA (xs (i + 1)) hz m_0 hF hY hlt m_p) (cwV 1 hts gL_law_X4_ways rfl rfl rfl (by decide +kernel) (mm_levL (by omega) (by decide))) (hz.1 0 (by omega)) m_0 rfl rfl hl.1 rfl (Nat.le_of_ble_eq_true rfl) dL_law_357 (lf_room eb) (fun r1 M1 H locs hp hV => ?_)
  obtain ⟨e1, hY1, m_01, hw⟩ := hp
  have hne := hC.noE
  have hC := hC.srchR hlt (fun _ h => h) m_01 (he.keep (fun q hq hk => hw q hq (fun e => hne 0 (by omega) (by rw [← e]; exact hk)) (fun k h1 h2 e => hne k h2 (by rw [← e]; exact hk))) (fun _ h => h)) hY1 hw
  have hR := hR.keepZ d1 d2 hw.Z (fun _ h => h)
  refine lv_aload_n hx hb dL_law_360 rfl (lv_at hl 2 rfl) ?_
  refine lv_aload_n hx hb dL_law_361 rfl (lv_at hl 0 rfl) ?_
  refine lv_iload_n hx hb dL_law_362 rfl (lv_at hl 3 rfl) ?_
  refine lv_iconst (v := 1) hx hb dL_law_363 (by decide) ?_
  refine lv_iadd hx hb dL_law_364 ?_
  refine mm_sldN hx hb hX hbl hLn hV (ix1 hx3) (by omega) dL_law_365 ?_
  refine mm_Vn (ci := 5) (As := [.int (xs (i + 1))]) (rest := [.int r1]) ⟨hx, hb, hml, hown, hts⟩ hK hV (c_waysR l D dA (xs (i + 1)) hR.1 hR.2.1 hR.2.2.1 hR.2.2.2.1 hR.2.2.2.2.1 gen_sem hR.2.2.2.2.2.2.1 hwf make_sem wf_next) (cwV 1 hts gL_law_X5_ways rfl rfl rfl (by decide +kernel) (mm_levL (by omega) (by decide))) hR.1 hR.2.1 rfl rfl hl.1 rfl (Nat.le_of_ble_eq_true rfl) dL_law_366 (lf_room eb) (fun r2 M2 H locs hq hV => ?_)
  obtain ⟨e2, S1, hw9, hA, m_ob, hf⟩ := hq
  have hC := hC.keepR hlt d1 d2 hR hf
  have hR := hR.eqB hw9.1 (hR.2.2.2.2.2.1.same hw9.2.1 hw9.2.2) hA m_ob
  refine lv_icmp_eq (tgt := 433) hx hb dL_law_369 (by decide) (fun c9 => ?_) (fun c9 => ?_)
  · exact K lt ln eb ev S1 so L M2 H locs hG hC hR hV
  · exact absurd (by rw [e1, e2, ways_eq]) c9

set_option maxHeartbeats 1000000 in
set_option maxRecDepth 100000 in
theorem lo_verdict {p : Program} {l : Launch} {e : Env} {s : State} {m : MethodId} {below : List Frame} {meth : Method} {c : Code} {D : va_G} {dA : Nat → ClassId} {b Ln : Nat} {xs : Nat → Int32} {KT : Nat → Int32} {z ad : Nat → Nat} {ob i lt : Nat} {ln : Nat → Ps} {eb : Bool} {ev : Value} {S : Nat → Nat → Int32} {so x3 : Int32} {L : List Nat} {M : mm_M} {H : Heap} {locs : List Loc} {ls : Array Slot} (F : LF p s m c b Ln xs D dA KT z ob ad) (hi : i + 2 < Ln) (hx3 : x3 = nI i) (hG : GI lt ln) (hC : CI dA L M z ev lt ln eb) (hR : RI dA KT L M ob ad S so lt ln) (hV : mm_V (fun q : Nat => s.heap.size ≤ q) D L M s H locs) (hl : lv_has ls 4 [(0, .ref b), (1, .ref (z 0)), (2, .ref ob), (3, .int x3)])
    (K : ∀ (lt : Nat) (ln : Nat → Ps) (eb : Bool) (ev : Value) (S : Nat → Nat → Int32) (so : Int32) (L : List Nat) (M : mm_M) (H : Heap) (locs : List Loc), GI lt ln → CI dA L M z ev lt ln eb → RI dA KT L M ob ad S so lt ln → mm_V (fun q : Nat => s.heap.size ≤ q) D L M s H locs → W p l e room_1 s m #[Value.ref b] below meth c H locs (144 + kc false eb) (16918 + ks false eb) (lw_Z below #[Value.ref b] s) (F0 m 433 ls [])) : W p l e room_1 s m #[Value.ref b] below meth c H locs (144 + kc false eb) (16918 + ks false eb) (lw_Z below #[Value.ref b] s) (F0 m 374 ls []) := by
  obtain ⟨hx, hb, hml, hown, hts, hX, hbl, hLn, hK, hslv, hKv, d1, d2⟩ := F
  have hlt := hG.1
  have hwf := hG.2.1 lt (Nat.le_refl _)
  obtain ⟨hz, m_0, he, hB, hln⟩ := id hC
  obtain ⟨hF, hY, hT, h7c, hal⟩ := id hB
  have m_4 := hF.2.2.2.1
  have m_p := hln lt (Nat.le_refl _)
  have m_q := hln 0 (Nat.zero_le _)
  have hru : ruW dA L M (z 1) (z 2) (z 3) := ⟨hz.1 1 (by omega), hz.1 2 (by omega), hz.1 3 (by omega), hF.1, hF.2.1, hF.2.2.1⟩
  obtain ⟨f0, n0, hn0, m_5, m_6⟩ := hT
  have hli : liW dA L M (z 5) (z 6) f0 n0 := ⟨hz.1 5 (by omega), hz.1 6 (by omega), m_5, m_6, hn0⟩
  obtain ⟨P7, m_7⟩ := h7c
  refine lv_aload_n hx hb dL_law_374 rfl (lv_at hl 1 rfl) ?_
  refine mm_Vi (mc := kc eb (verdV (ln lt) eb).2) (ms := ks eb (verdV (ln lt) eb).2) (ci := 4) (As := []) (rest := []) ⟨hx, hb, hml, hown, hts⟩ hK hV (c_verdict2 l D dA htb_ok wf1_ok wf_next hz m_0 he hF hY hlt m_p hwf) (cwV 0 hts gL_law_X4_verdict rfl rfl rfl (by decide +kernel) (mm_levL (by omega) (by decide))) (hz.1 0 (by omega)) m_0 rfl rfl hl.1 rfl (Nat.le_of_ble_eq_true rfl) dL_law_375 (lf_roomM (verd_mono)) (fun r1 L1 M1 H locs hp hV => ?_)
  refine W.widen (k := 144 + kc false (verdV (ln lt) eb).2) (n := 16918 + ks false (verdV (ln lt) eb).2) (Nat.le_of_eq (lf_more (verd_mono)).1) (Nat.le_of_eq (lf_more (verd_mono)).2) ?_
  obtain ⟨e1, hL, ⟨ev1, m_01, he1⟩, hY1, hw⟩ := hp
  have hC := hC.srchR hlt hL m_01 he1 hY1 hw
  have hR := hR.keepZ d1 d2 hw.Z hL
  refine lv_aload_n hx hb dL_law_378 rfl (lv_at hl 2 rfl) ?_
  refine mm_Vn (ci := 5) (As := []) (rest := [.int r1]) ⟨hx, hb, hml, hown, hts⟩ hK hV (c_verdR l D dA hR.1 hR.2.1 hR.2.2.1 hR.2.2.2.1 hR.2.2.2.2.1 hR.2.2.2.2.2.1 FT_rg hslv hR.2.2.2.2.2.2.1 hwf (end_sem hKv)) (cwV 0 hts gL_law_X5_verdict rfl rfl rfl (by decide +kernel) (mm_levL (by omega) (by decide))) hR.1 hR.2.1 rfl rfl hl.1 rfl (Nat.le_of_ble_eq_true rfl) dL_law_379 (lf_room (verdV (ln lt) eb).2) (fun r2 M2 H locs hq hV => ?_)
  obtain ⟨e2, S1, so1, hE9, hk9, hA, m_ob, hf⟩ := hq
  have hC := hC.keepR hlt d1 d2 hR hf
  have hR := hR.eqB hE9 hk9 hA m_ob
  refine lv_icmp_eq (tgt := 433) hx hb dL_law_382 (by decide) (fun c9 => ?_) (fun c9 => ?_)
  · exact K lt ln (verdV (ln lt) eb).2 ev1 S1 so1 L1 M2 H locs hG hC hR hV
  · exact absurd (by rw [e1, e2]; exact verd_eq _ _) c9

set_option maxHeartbeats 1000000 in
set_option maxRecDepth 100000 in
theorem lo_value {p : Program} {l : Launch} {e : Env} {s : State} {m : MethodId} {below : List Frame} {meth : Method} {c : Code} {D : va_G} {dA : Nat → ClassId} {b Ln : Nat} {xs : Nat → Int32} {KT : Nat → Int32} {z ad : Nat → Nat} {ob i lt : Nat} {ln : Nat → Ps} {eb : Bool} {ev : Value} {S : Nat → Nat → Int32} {so x3 : Int32} {L : List Nat} {M : mm_M} {H : Heap} {locs : List Loc} {ls : Array Slot} (F : LF p s m c b Ln xs D dA KT z ob ad) (hi : i + 2 < Ln) (hx3 : x3 = nI i) (hG : GI lt ln) (hC : CI dA L M z ev lt ln eb) (hR : RI dA KT L M ob ad S so lt ln) (hV : mm_V (fun q : Nat => s.heap.size ≤ q) D L M s H locs) (hl : lv_has ls 4 [(0, .ref b), (1, .ref (z 0)), (2, .ref ob), (3, .int x3)])
    (K : ∀ (lt : Nat) (ln : Nat → Ps) (eb : Bool) (ev : Value) (S : Nat → Nat → Int32) (so : Int32) (L : List Nat) (M : mm_M) (H : Heap) (locs : List Loc), GI lt ln → CI dA L M z ev lt ln eb → RI dA KT L M ob ad S so lt ln → mm_V (fun q : Nat => s.heap.size ≤ q) D L M s H locs → W p l e room_1 s m #[Value.ref b] below meth c H locs (144 + kc false eb) (16918 + ks false eb) (lw_Z below #[Value.ref b] s) (F0 m 433 ls [])) : W p l e room_1 s m #[Value.ref b] below meth c H locs (144 + kc false eb) (16918 + ks false eb) (lw_Z below #[Value.ref b] s) (F0 m 387 ls []) := by
  obtain ⟨hx, hb, hml, hown, hts, hX, hbl, hLn, hK, hslv, hKv, d1, d2⟩ := F
  have hlt := hG.1
  have hwf := hG.2.1 lt (Nat.le_refl _)
  obtain ⟨hz, m_0, he, hB, hln⟩ := id hC
  obtain ⟨hF, hY, hT, h7c, hal⟩ := id hB
  have m_4 := hF.2.2.2.1
  have m_p := hln lt (Nat.le_refl _)
  have m_q := hln 0 (Nat.zero_le _)
  have hru : ruW dA L M (z 1) (z 2) (z 3) := ⟨hz.1 1 (by omega), hz.1 2 (by omega), hz.1 3 (by omega), hF.1, hF.2.1, hF.2.2.1⟩
  obtain ⟨f0, n0, hn0, m_5, m_6⟩ := hT
  have hli : liW dA L M (z 5) (z 6) f0 n0 := ⟨hz.1 5 (by omega), hz.1 6 (by omega), m_5, m_6, hn0⟩
  obtain ⟨P7, m_7⟩ := h7c
  refine lv_aload_n hx hb dL_law_387 rfl (lv_at hl 1 rfl) ?_
  refine lv_aload_n hx hb dL_law_388 rfl (lv_at hl 0 rfl) ?_
  refine lv_iload_n hx hb dL_law_389 rfl (lv_at hl 3 rfl) ?_
  refine lv_iconst (v := 1) hx hb dL_law_390 (by decide) ?_
  refine lv_iadd hx hb dL_law_391 ?_
  refine mm_sldN hx hb hX hbl hLn hV (ix1 hx3) (by omega) dL_law_392 ?_
  refine mm_Vi (mc := kc eb (valV (ln lt) (xs (i + 1)) eb).2) (ms := ks eb (valV (ln lt) (xs (i + 1)) eb).2) (ci := 4) (As := [.int (xs (i + 1))]) (rest := []) ⟨hx, hb, hml, hown, hts⟩ hK hV (c_value2 l D dA (xs (i + 1)) htb_ok wf1_ok wf_next hz m_0 he hF hY hlt m_p hwf) (cwV 1 hts gL_law_X4_value rfl rfl rfl (by decide +kernel) (mm_levL (by omega) (by decide))) (hz.1 0 (by omega)) m_0 rfl rfl hl.1 rfl (Nat.le_of_ble_eq_true rfl) dL_law_393 (lf_roomM (val_mono)) (fun r1 L1 M1 H locs hp hV => ?_)
  refine W.widen (k := 144 + kc false (valV (ln lt) (xs (i + 1)) eb).2) (n := 16918 + ks false (valV (ln lt) (xs (i + 1)) eb).2) (Nat.le_of_eq (lf_more (val_mono)).1) (Nat.le_of_eq (lf_more (val_mono)).2) ?_
  obtain ⟨e1, hL, ⟨ev1, m_01, he1⟩, hY1, hw⟩ := hp
  have hC := hC.srchR hlt hL m_01 he1 hY1 hw
  have hR := hR.keepZ d1 d2 hw.Z hL
  refine lv_aload_n hx hb dL_law_396 rfl (lv_at hl 2 rfl) ?_
  refine lv_aload_n hx hb dL_law_397 rfl (lv_at hl 0 rfl) ?_
  refine lv_iload_n hx hb dL_law_398 rfl (lv_at hl 3 rfl) ?_
  refine lv_iconst (v := 1) hx hb dL_law_399 (by decide) ?_
  refine lv_iadd hx hb dL_law_400 ?_
  refine mm_sldN hx hb hX hbl hLn hV (ix1 hx3) (by omega) dL_law_401 ?_
  refine mm_Vn (ci := 5) (As := [.int (xs (i + 1))]) (rest := [.int r1]) ⟨hx, hb, hml, hown, hts⟩ hK hV (c_valueR l D dA (xs (i + 1)) hR.1 hR.2.1 hR.2.2.1 hR.2.2.2.1 hR.2.2.2.2.1 hR.2.2.2.2.2.1 FT_rg hslv gen_sem hR.2.2.2.2.2.2.1 hwf (end_sem hKv) mat_sem make_sem wf_next ng_sem) (cwV 1 hts gL_law_X5_value rfl rfl rfl (by decide +kernel) (mm_levL (by omega) (by decide))) hR.1 hR.2.1 rfl rfl hl.1 rfl (Nat.le_of_ble_eq_true rfl) dL_law_402 (lf_room (valV (ln lt) (xs (i + 1)) eb).2) (fun r2 M2 H locs hq hV => ?_)
  obtain ⟨e2, S1, so1, hE9, hk9, hA, m_ob, hf⟩ := hq
  have hC := hC.keepR hlt d1 d2 hR hf
  have hR := hR.eqB hE9 hk9 hA m_ob
  refine lv_icmp_eq (tgt := 433) hx hb dL_law_405 (by decide) (fun c9 => ?_) (fun c9 => ?_)
  · exact K lt ln (valV (ln lt) (xs (i + 1)) eb).2 ev1 S1 so1 L1 M2 H locs hG hC hR hV
  · exact absurd (by rw [e1, e2]; exact val_eq hwf _ _) c9

set_option maxHeartbeats 1000000 in
set_option maxRecDepth 100000 in
theorem lo_best {p : Program} {l : Launch} {e : Env} {s : State} {m : MethodId} {below : List Frame} {meth : Method} {c : Code} {D : va_G} {dA : Nat → ClassId} {b Ln : Nat} {xs : Nat → Int32} {KT : Nat → Int32} {z ad : Nat → Nat} {ob i lt : Nat} {ln : Nat → Ps} {eb : Bool} {ev : Value} {S : Nat → Nat → Int32} {so x3 : Int32} {L : List Nat} {M : mm_M} {H : Heap} {locs : List Loc} {ls : Array Slot} (F : LF p s m c b Ln xs D dA KT z ob ad) (hi : i + 2 < Ln) (hx3 : x3 = nI i) (hG : GI lt ln) (hC : CI dA L M z ev lt ln eb) (hR : RI dA KT L M ob ad S so lt ln) (hV : mm_V (fun q : Nat => s.heap.size ≤ q) D L M s H locs) (hl : lv_has ls 4 [(0, .ref b), (1, .ref (z 0)), (2, .ref ob), (3, .int x3)])
    (K : ∀ (lt : Nat) (ln : Nat → Ps) (eb : Bool) (ev : Value) (S : Nat → Nat → Int32) (so : Int32) (L : List Nat) (M : mm_M) (H : Heap) (locs : List Loc), GI lt ln → CI dA L M z ev lt ln eb → RI dA KT L M ob ad S so lt ln → mm_V (fun q : Nat => s.heap.size ≤ q) D L M s H locs → W p l e room_1 s m #[Value.ref b] below meth c H locs (144 + kc false eb) (16918 + ks false eb) (lw_Z below #[Value.ref b] s) (F0 m 433 ls [])) : W p l e room_1 s m #[Value.ref b] below meth c H locs (144 + kc false eb) (16918 + ks false eb) (lw_Z below #[Value.ref b] s) (F0 m 410 ls []) := by
  obtain ⟨hx, hb, hml, hown, hts, hX, hbl, hLn, hK, hslv, hKv, d1, d2⟩ := F
  have hlt := hG.1
  have hwf := hG.2.1 lt (Nat.le_refl _)
  obtain ⟨hz, m_0, he, hB, hln⟩ := id hC
  obtain ⟨hF, hY, hT, h7c, hal⟩ := id hB
  have m_4 := hF.2.2.2.1
  have m_p := hln lt (Nat.le_refl _)
  have m_q := hln 0 (Nat.zero_le _)
  have hru : ruW dA L M (z 1) (z 2) (z 3) := ⟨hz.1 1 (by omega), hz.1 2 (by omega), hz.1 3 (by omega), hF.1, hF.2.1, hF.2.2.1⟩
  obtain ⟨f0, n0, hn0, m_5, m_6⟩ := hT
  have hli : liW dA L M (z 5) (z 6) f0 n0 := ⟨hz.1 5 (by omega), hz.1 6 (by omega), m_5, m_6, hn0⟩
  obtain ⟨P7, m_7⟩ := h7c
  refine lv_aload_n hx hb dL_law_410 rfl (lv_at hl 1 rfl) ?_
  refine lv_aload_n hx hb dL_law_411 rfl (lv_at hl 0 rfl) ?_
  refine lv_iload_n hx hb dL_law_412 rfl (lv_at hl 3 rfl) ?_
  refine lv_iconst (v := 1) hx hb dL_law_413 (by decide) ?_
  refine lv_iadd hx hb dL_law_414 ?_
  refine mm_sldN hx hb hX hbl hLn hV (ix1 hx3) (by omega) dL_law_415 ?_
  refine mm_Vi (mc := kc eb (bestV (ln lt) (xs (i + 1)) eb).2) (ms := ks eb (bestV (ln lt) (xs (i + 1)) eb).2) (ci := 4) (As := [.int (xs (i + 1))]) (rest := []) ⟨hx, hb, hml, hown, hts⟩ hK hV (c_best l D dA (xs (i + 1)) htb_ok wf1_ok wf_next hz m_0 he hF hY hlt m_p hwf hli m_7) (cwV 1 hts gL_law_X4_best rfl rfl rfl (by decide +kernel) (mm_levL (by omega) (by decide))) (hz.1 0 (by omega)) m_0 rfl rfl hl.1 rfl (Nat.le_of_ble_eq_true rfl) dL_law_416 (lf_roomM (best_mono)) (fun r1 L1 M1 H locs hp hV => ?_)
  refine W.widen (k := 144 + kc false (bestV (ln lt) (xs (i + 1)) eb).2) (n := 16918 + ks false (bestV (ln lt) (xs (i + 1)) eb).2) (Nat.le_of_eq (lf_more (best_mono)).1) (Nat.le_of_eq (lf_more (best_mono)).2) ?_
  obtain ⟨e1, hL, ⟨ev1, m_01, he1⟩, hY1, hw, hT1, h71⟩ := hp
  have hC := hC.srch hlt hL m_01 he1 hY1 hw hT1 h71
  have hR := hR.keepZ d1 d2 hw.Z hL
  refine lv_aload_n hx hb dL_law_419 rfl (lv_at hl 2 rfl) ?_
  refine lv_aload_n hx hb dL_law_420 rfl (lv_at hl 0 rfl) ?_
  refine lv_iload_n hx hb dL_law_421 rfl (lv_at hl 3 rfl) ?_
  refine lv_iconst (v := 1) hx hb dL_law_422 (by decide) ?_
  refine lv_iadd hx hb dL_law_423 ?_
  refine mm_sldN hx hb hX hbl hLn hV (ix1 hx3) (by omega) dL_law_424 ?_
  refine mm_Vn (ci := 5) (As := [.int (xs (i + 1))]) (rest := [.int r1]) ⟨hx, hb, hml, hown, hts⟩ hK hV (c_bestR l D dA (xs (i + 1)) hR.1 hR.2.1 hR.2.2.1 hR.2.2.2.1 hR.2.2.2.2.1 hR.2.2.2.2.2.1 FT_rg hslv gen_sem hR.2.2.2.2.2.2.1 hwf (end_sem hKv) mat_sem make_sem wf_next ng_sem) (cwV 1 hts gL_law_X5_best rfl rfl rfl (by decide +kernel) (mm_levL (by omega) (by decide))) hR.1 hR.2.1 rfl rfl hl.1 rfl (Nat.le_of_ble_eq_true rfl) dL_law_425 (lf_room (bestV (ln lt) (xs (i + 1)) eb).2) (fun r2 M2 H locs hq hV => ?_)
  obtain ⟨e2, S1, so1, hE9, hk9, hA, m_ob, hf⟩ := hq
  have hC := hC.keepR hlt d1 d2 hR hf
  have hR := hR.eqB hE9 hk9 hA m_ob
  refine lv_icmp_eq (tgt := 433) hx hb dL_law_428 (by decide) (fun c9 => ?_) (fun c9 => ?_)
  · exact K lt ln (bestV (ln lt) (xs (i + 1)) eb).2 ev1 S1 so1 L1 M2 H locs hG hC hR hV
  · exact absurd (by rw [e1, e2]; exact best_eq hwf _ _) c9

set_option maxHeartbeats 1000000 in
set_option maxRecDepth 100000 in
theorem lo_play {p : Program} {l : Launch} {e : Env} {s : State} {m : MethodId} {below : List Frame} {meth : Method} {c : Code} {D : va_G} {dA : Nat → ClassId} {b Ln : Nat} {xs : Nat → Int32} {KT : Nat → Int32} {z ad : Nat → Nat} {ob i lt : Nat} {ln : Nat → Ps} {eb : Bool} {ev : Value} {S : Nat → Nat → Int32} {so x3 : Int32} {L : List Nat} {M : mm_M} {H : Heap} {locs : List Loc} {ls : Array Slot} (F : LF p s m c b Ln xs D dA KT z ob ad) (hi : i + 2 < Ln) (hx3 : x3 = nI i) (hG : GI lt ln) (hC : CI dA L M z ev lt ln eb) (hR : RI dA KT L M ob ad S so lt ln) (hV : mm_V (fun q : Nat => s.heap.size ≤ q) D L M s H locs) (hl : lv_has ls 4 [(0, .ref b), (1, .ref (z 0)), (2, .ref ob), (3, .int x3)])
    (K : ∀ (lt : Nat) (ln : Nat → Ps) (eb : Bool) (ev : Value) (S : Nat → Nat → Int32) (so : Int32) (L : List Nat) (M : mm_M) (H : Heap) (locs : List Loc), GI lt ln → CI dA L M z ev lt ln eb → RI dA KT L M ob ad S so lt ln → mm_V (fun q : Nat => s.heap.size ≤ q) D L M s H locs → W p l e room_1 s m #[Value.ref b] below meth c H locs (144 + kc false eb) (16918 + ks false eb) (lw_Z below #[Value.ref b] s) (F0 m 433 ls [])) : W p l e room_1 s m #[Value.ref b] below meth c H locs (144 + kc false eb) (16918 + ks false eb) (lw_Z below #[Value.ref b] s) (F0 m 276 ls []) := by
  obtain ⟨hx, hb, hml, hown, hts, hX, hbl, hLn, hK, hslv, hKv, d1, d2⟩ := F
  have hlt := hG.1
  have hwf := hG.2.1 lt (Nat.le_refl _)
  obtain ⟨hz, m_0, he, hB, hln⟩ := id hC
  obtain ⟨hF, hY, hT, h7c, hal⟩ := id hB
  have m_4 := hF.2.2.2.1
  have m_p := hln lt (Nat.le_refl _)
  have m_q := hln 0 (Nat.zero_le _)
  have hru : ruW dA L M (z 1) (z 2) (z 3) := ⟨hz.1 1 (by omega), hz.1 2 (by omega), hz.1 3 (by omega), hF.1, hF.2.1, hF.2.2.1⟩
  obtain ⟨f0, n0, hn0, m_5, m_6⟩ := hT
  have hli : liW dA L M (z 5) (z 6) f0 n0 := ⟨hz.1 5 (by omega), hz.1 6 (by omega), m_5, m_6, hn0⟩
  obtain ⟨P7, m_7⟩ := h7c
  refine lv_aload_n hx hb dL_law_276 rfl (lv_at hl 1 rfl) ?_
  refine lv_aload_n hx hb dL_law_277 rfl (lv_at hl 0 rfl) ?_
  refine lv_iload_n hx hb dL_law_278 rfl (lv_at hl 3 rfl) ?_
  refine lv_iconst (v := 1) hx hb dL_law_279 (by decide) ?_
  refine lv_iadd hx hb dL_law_280 ?_
  refine mm_sldN hx hb hX hbl hLn hV (ix1 hx3) (by omega) dL_law_281 ?_
  have hpl : mm_Cn l D dA yX4_play wsX4_play 24 [.ref (z 0), .int (xs (i + 1))] L M (fun r M1 => (¬ playOK (ln lt) f0 lt (xs (i + 1)) ∧ r = -1 ∧ (M1 = M ∨ M1 = mvM dA M z (ln lt) f0)) ∨ (playOK (ln lt) f0 lt (xs (i + 1)) ∧ r = bitC (mvT (mvPk (ln lt) f0 (xs (i + 1)))) ∧ M1 = va_up (va_up (mvM dA M z (ln lt) f0) (z (10 + (lt + 1))) (oP (followP (ln lt) (mvPk (ln lt) f0 (xs (i + 1)))))) (z 0) (jO z ev (lt + 1)))) := by
    by_cases h100 : lt = 100
    · subst h100; exact c_play_100 l D dA (xs (i + 1)) hz m_0 m_4 m_p hru hli
    · obtain ⟨Pn, m_n⟩ := hal (lt + 1) (by omega)
      exact c_play_lt l D dA (xs (i + 1)) hz m_0 m_4 m_p hru hli (by omega) m_n
  refine mm_Vn (ci := 4) (As := [.int (xs (i + 1))]) (rest := []) ⟨hx, hb, hml, hown, hts⟩ hK hV (hpl) (cwV 1 hts gL_law_X4_play rfl rfl rfl (by decide +kernel) (mm_levL (by omega) (by decide))) (hz.1 0 (by omega)) m_0 rfl rfl hl.1 rfl (Nat.le_of_ble_eq_true rfl) dL_law_282 (lf_room eb) (fun r1 M1 H locs hp hV => ?_)
  have hiff := play_iff hwf (f0 := f0) hlt (xs (i + 1))
  rcases hp with ⟨hno, e1, hM⟩ | ⟨hyes, e1, hM⟩
  · obtain ⟨hC, hZ⟩ : CI dA L M1 z ev lt ln eb ∧ FZ L z M M1 := by
      rcases hM with q | q
      · rw [q]; exact ⟨hC, FZ.rf⟩
      · exact hC.ls hlt q
    have hR := hR.keepZ d1 d2 hZ (fun _ h => h)
    refine lv_aload_n hx hb dL_law_285 rfl (lv_at hl 2 rfl) ?_
    refine lv_aload_n hx hb dL_law_286 rfl (lv_at hl 0 rfl) ?_
    refine lv_iload_n hx hb dL_law_287 rfl (lv_at hl 3 rfl) ?_
    refine lv_iconst (v := 1) hx hb dL_law_288 (by decide) ?_
    refine lv_iadd hx hb dL_law_289 ?_
    refine mm_sldN hx hb hX hbl hLn hV (ix1 hx3) (by omega) dL_law_290 ?_
    refine mm_Vn (ci := 5) (As := [.int (xs (i + 1))]) (rest := [.int r1]) ⟨hx, hb, hml, hown, hts⟩ hK hV (c_playR l D dA (xs (i + 1)) hR.1 hR.2.1 hR.2.2.1 hR.2.2.2.1 hR.2.2.2.2.1 gen_sem hR.2.2.2.2.2.2.1 hwf make_sem rfl hlt) (cwV 1 hts gL_law_X5_play rfl rfl rfl (by decide +kernel) (mm_levL (by omega) (by decide))) hR.1 hR.2.1 rfl rfl hl.1 rfl (Nat.le_of_ble_eq_true rfl) dL_law_291 (lf_room eb) (fun r2 M2 H locs hq hV => ?_)
    rcases hq with ⟨_, e2, S1, hg9, hA, m_ob, hf⟩ | ⟨hk9, _⟩
    · have hC := hC.keepR hlt d1 d2 hR hf
      have hR := hR.gen hg9 hA m_ob
      refine lv_icmp_eq (tgt := 433) hx hb dL_law_294 (by decide) (fun c9 => ?_) (fun c9 => ?_)
      · exact K lt ln eb ev S1 so L M2 H locs hG hC hR hV
      · exact absurd (by rw [e1, e2]) c9
    · exact absurd (hiff.mpr hk9) hno
  · have hpv := play_val hwf hyes
    have hl100 : lt < 100 := hyes.2.2.2
    rw [hpv.2.1] at hM
    obtain ⟨hC, hZ⟩ := hC.psh hl100 hM
    have hR := hR.keepZ d1 d2 hZ (fun _ h => h)
    refine lv_aload_n hx hb dL_law_285 rfl (lv_at hl 2 rfl) ?_
    refine lv_aload_n hx hb dL_law_286 rfl (lv_at hl 0 rfl) ?_
    refine lv_iload_n hx hb dL_law_287 rfl (lv_at hl 3 rfl) ?_
    refine lv_iconst (v := 1) hx hb dL_law_288 (by decide) ?_
    refine lv_iadd hx hb dL_law_289 ?_
    refine mm_sldN hx hb hX hbl hLn hV (ix1 hx3) (by omega) dL_law_290 ?_
    refine mm_Vn (ci := 5) (As := [.int (xs (i + 1))]) (rest := [.int r1]) ⟨hx, hb, hml, hown, hts⟩ hK hV (c_playR l D dA (xs (i + 1)) hR.1 hR.2.1 hR.2.2.1 hR.2.2.2.1 hR.2.2.2.2.1 gen_sem hR.2.2.2.2.2.2.1 hwf make_sem rfl hlt) (cwV 1 hts gL_law_X5_play rfl rfl rfl (by decide +kernel) (mm_levL (by omega) (by decide))) hR.1 hR.2.1 rfl rfl hl.1 rfl (Nat.le_of_ble_eq_true rfl) dL_law_291 (lf_room eb) (fun r2 M2 H locs hq hV => ?_)
    rcases hq with ⟨hk9, _⟩ | ⟨_, e2, S1, hs9, hA, m_ob, hf⟩
    · exact absurd (hiff.mp hyes) hk9
    · have hC := hC.keepR (by omega) d1 d2 hR hf
      rw [play_q hwf hR.2.2.2.2.2.2.1 hpv.2.2] at m_ob
      have hG1 := hG.push hl100 (wf_next _ hwf _ hpv.2.2) (fol_mo hwf hpv.2.2)
      have hR := hR.play hs9 hA m_ob
      refine lv_icmp_eq (tgt := 433) hx hb dL_law_294 (by decide) (fun c9 => ?_) (fun c9 => ?_)
      · exact K (lt + 1) _ eb ev S1 so L M2 H locs hG1 hC hR hV
      · exact absurd (by rw [e1, e2, hpv.1]) c9
