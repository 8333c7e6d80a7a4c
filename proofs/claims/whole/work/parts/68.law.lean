set_option maxHeartbeats 4000000 in
set_option maxRecDepth 100000 in
/-- the law's loop -/
theorem law_loop {p : Program} {l : Launch} {e : Env} {s : State} {m : MethodId} {below : List Frame} {meth : Method} {c : Code} {D : va_G} {dA : Nat → ClassId} {b Ln : Nat} {xs : Nat → Int32} {KT : Nat → Int32} {z ad : Nat → Nat} {ob : Nat} (hr : meth.sig.returnType = ret) (hlocks : meth.locks = false) (F : LF p s m c b Ln xs D dA KT z ob ad) :
    ∀ (n i : Nat) (x3 : Int32) (lt : Nat) (ln : Nat → Ps) (eb : Bool) (ev : Value) (S : Nat → Nat → Int32) (so : Int32) (L : List Nat) (M : mm_M) (H : Heap) (locs : List Loc) (ls : Array Slot), i ≤ Ln → Ln + 1 ≤ i + n → x3 = nI i → GI lt ln → CI dA L M z ev lt ln eb → RI dA KT L M ob ad S so lt ln → mm_V (fun q : Nat => s.heap.size ≤ q) D L M s H locs → lv_has ls 4 [(0, .ref b), (1, .ref (z 0)), (2, .ref ob), (3, .int x3)] → W p l e room_1 s m #[Value.ref b] below meth c H locs (144 + kc false eb) (16918 + ks false eb) (lw_Z below #[Value.ref b] s) (F0 m 18 ls []) := by
  have F0' := F
  obtain ⟨hx, hb, hml, hown, hts, hX, hbl, hLn, hK, hslv, hKv, d1, d2⟩ := F
  intro n
  induction n with
  | zero =>
    intro i x3 lt ln eb ev S so L M H locs ls h1 h2
    exact absurd h2 (by omega)
  | succ n ih =>
    intro i x3 lt ln eb ev S so L M H locs ls hi hin hx3 hG hC hR hV hl
    refine lv_iload_n hx hb dL_law_18 rfl (lv_at hl 3 rfl) ?_
    refine lv_aload_n hx hb dL_law_19 rfl (lv_at hl 0 rfl) ?_
    refine va_slen hx hb hX hbl (A := fun q : Nat => s.heap.size ≤ q) (Nat.not_le.mpr hbl) hV.2.2.2.1 dL_law_20 ?_
    refine lv_iconst (v := 3) hx hb dL_law_21 (by decide) ?_
    refine lv_isub hx hb dL_law_22 ?_
    refine lv_icmp_gt (tgt := 439) hx hb dL_law_23 (by decide) (fun c9 => ?_) (fun c9 => ?_)
    · refine lv_iconst (v := 1) hx hb dL_law_439 (by decide) ?_
      refine va_forget (fun q hq => hV.2.2.2.1.2.2 q hq) ?_
      refine W.widen (k := 600000) (n := 7302250) (Nat.le_trans (lf_room eb).1 (Nat.le_of_ble_eq_true rfl)) (Nat.le_trans (lf_room eb).2 (Nat.le_of_ble_eq_true rfl)) ?_
      exact lw_ret hx hb hr hlocks dL_law_440
    · have hi3 : i + 3 ≤ Ln := by
        have q : ¬ (nI Ln - nI 3).toInt < x3.toInt := fun z => c9 (ti_lt.mpr z)
        rw [pk_sub_toInt (by omega) (by omega), hx3, nI_toInt (by omega)] at q
        omega
      refine lv_aload_n hx hb dL_law_26 rfl (lv_at hl 0 rfl) ?_
      refine lv_iload_n hx hb dL_law_27 rfl (lv_at hl 3 rfl) ?_
      refine mm_sldN hx hb hX hbl hLn hV hx3 (by omega) dL_law_28 ?_
      refine lv_bipush (v := 31) hx hb dL_law_29 (by decide) ?_
      refine lv_iand hx hb dL_law_31 ?_
      have K : ∀ (lt : Nat) (ln : Nat → Ps) (eb : Bool) (ev : Value) (S : Nat → Nat → Int32) (so : Int32) (L : List Nat) (M : mm_M) (H : Heap) (locs : List Loc), GI lt ln → CI dA L M z ev lt ln eb → RI dA KT L M ob ad S so lt ln → mm_V (fun q : Nat => s.heap.size ≤ q) D L M s H locs → W p l e room_1 s m #[Value.ref b] below meth c H locs (144 + kc false eb) (16918 + ks false eb) (lw_Z below #[Value.ref b] s) (F0 m 433 ls []) := by
        intro lt ln eb ev S so L M H locs hG hC hR hV
        refine lv_iinc (v := x3 + 3) (lv' := [(3, .int (x3 + 3)), (0, .ref b), (1, .ref (z 0)), (2, .ref ob)]) hx hb dL_law_433 hl (k := 3) rfl rfl (by decide) rfl (fun ls hl => ?_)
        refine lv_goto (tgt := 18) hx hb dL_law_436 (by decide) ?_
        exact ih (i + 3) (x3 + 3) lt ln eb ev S so L M H locs ls hi3 (by omega) (by rw [hx3, show (3 : Int32) = nI 3 from rfl, nI_add]) hG hC hR hV (lv_sub hl [1, 2, 3, 0] rfl)
      obtain ⟨j, hj, ej⟩ := pk_andE (xs i) (m := 31) 5 (by decide)
      rw [ej]
      have hi2 : i + 2 < Ln := by omega
      by_cases h17 : j < 17
      · have hcs : j = 0 ∨ j = 1 ∨ j = 2 ∨ j = 3 ∨ j = 4 ∨ j = 5 ∨ j = 6 ∨ j = 7 ∨ j = 8 ∨ j = 9 ∨ j = 10 ∨ j = 11 ∨ j = 12 ∨ j = 13 ∨ j = 14 ∨ j = 15 ∨ j = 16 := by omega
        rcases hcs with q | q | q | q | q | q | q | q | q | q | q | q | q | q | q | q | q <;> subst q
        · refine lv_tableIn (off := 84) (tgt := 116) hx hb dL_law_32 (by decide) (by decide) rfl (by decide) ?_
          exact lo_begin F0' hi2 hx3 hG hC hR hV hl K
        · refine lv_tableIn (off := 95) (tgt := 127) hx hb dL_law_32 (by decide) (by decide) rfl (by decide) ?_
          exact lo_clear F0' hi2 hx3 hG hC hR hV hl K
        · refine lv_tableIn (off := 106) (tgt := 138) hx hb dL_law_32 (by decide) (by decide) rfl (by decide) ?_
          exact lo_put F0' hi2 hx3 hG hC hR hV hl K
        · refine lv_tableIn (off := 139) (tgt := 171) hx hb dL_law_32 (by decide) (by decide) rfl (by decide) ?_
          exact lo_turn F0' hi2 hx3 hG hC hR hV hl K
        · refine lv_tableIn (off := 162) (tgt := 194) hx hb dL_law_32 (by decide) (by decide) rfl (by decide) ?_
          exact lo_at F0' hi2 hx3 hG hC hR hV hl K
        · refine lv_tableIn (off := 185) (tgt := 217) hx hb dL_law_32 (by decide) (by decide) rfl (by decide) ?_
          exact lo_side F0' hi2 hx3 hG hC hR hV hl K
        · refine lv_tableIn (off := 198) (tgt := 230) hx hb dL_law_32 (by decide) (by decide) rfl (by decide) ?_
          exact lo_moves F0' hi2 hx3 hG hC hR hV hl K
        · refine lv_tableIn (off := 211) (tgt := 243) hx hb dL_law_32 (by decide) (by decide) rfl (by decide) ?_
          exact lo_move F0' hi2 hx3 hG hC hR hV hl K
        · refine lv_tableIn (off := 244) (tgt := 276) hx hb dL_law_32 (by decide) (by decide) rfl (by decide) ?_
          exact lo_play F0' hi2 hx3 hG hC hR hV hl K
        · refine lv_tableIn (off := 267) (tgt := 299) hx hb dL_law_32 (by decide) (by decide) rfl (by decide) ?_
          exact lo_undo F0' hi2 hx3 hG hC hR hV hl K
        · refine lv_tableIn (off := 280) (tgt := 312) hx hb dL_law_32 (by decide) (by decide) rfl (by decide) ?_
          exact lo_played F0' hi2 hx3 hG hC hR hV hl K
        · refine lv_tableIn (off := 293) (tgt := 325) hx hb dL_law_32 (by decide) (by decide) rfl (by decide) ?_
          exact lo_over F0' hi2 hx3 hG hC hR hV hl K
        · refine lv_tableIn (off := 306) (tgt := 338) hx hb dL_law_32 (by decide) (by decide) rfl (by decide) ?_
          exact lo_quiet F0' hi2 hx3 hG hC hR hV hl K
        · refine lv_tableIn (off := 319) (tgt := 351) hx hb dL_law_32 (by decide) (by decide) rfl (by decide) ?_
          exact lo_ways F0' hi2 hx3 hG hC hR hV hl K
        · refine lv_tableIn (off := 342) (tgt := 374) hx hb dL_law_32 (by decide) (by decide) rfl (by decide) ?_
          exact lo_verdict F0' hi2 hx3 hG hC hR hV hl K
        · refine lv_tableIn (off := 355) (tgt := 387) hx hb dL_law_32 (by decide) (by decide) rfl (by decide) ?_
          exact lo_value F0' hi2 hx3 hG hC hR hV hl K
        · refine lv_tableIn (off := 378) (tgt := 410) hx hb dL_law_32 (by decide) (by decide) rfl (by decide) ?_
          exact lo_best F0' hi2 hx3 hG hC hR hV hl K
      · have h32 : j < 32 := hj
        refine lv_tableOut (tgt := 433) hx hb dL_law_32 (Or.inr (by rw [nI_toInt (by omega)]; omega)) (by decide) ?_
        exact K lt ln eb ev S so L M H locs hG hC hR hV

set_option maxHeartbeats 4000000 in
set_option maxRecDepth 100000 in
theorem whole_K {s : State} {args : Array Value} (hts0 : ∀ w ∈ lw_tbl, w.before args s = true) (hts : ∀ w ∈ wsL_law, w.before args s = true) : ∃ (D : va_G) (dA : Nat → ClassId), mm_K D dA s := by
  obtain ⟨c0, iS0, hKn0⟩ := u_known (C := RX0) (T := TX0) (N := 3) (n := 3) hts inlX0 (hts (.instantiable RX0 3) (by decide +kernel))
  obtain ⟨c1, iS1, hKn1⟩ := u_known (C := RX1) (T := TX1) (N := 2) (n := 2) hts inlX1 (hts (.instantiable RX1 2) (by decide +kernel))
  obtain ⟨c2, iS2, hKn2⟩ := u_known (C := RX2) (T := TX2) (N := 5) (n := 5) hts inlX2 (hts (.instantiable RX2 5) (by decide +kernel))
  obtain ⟨c3, iS3, hKn3⟩ := u_known (C := RX3) (T := TX3) (N := 2) (n := 2) hts inlX3 (hts (.instantiable RX3 2) (by decide +kernel))
  obtain ⟨c4, iS4, hKn4⟩ := u_known (C := RX4) (T := TX4) (N := 8) (n := 8) hts inlX4 (hts (.instantiable RX4 8) (by decide +kernel))
  obtain ⟨c5, iS5, hKn5⟩ := u_known (C := RX5) (T := TX5) (N := 20) (n := 20) hts inlX5 (hts (.instantiable RX5 20) (by decide +kernel))
  obtain ⟨a0, k0, p0, f0, g0, h0⟩ := Cond.arrayClass_spec (hts (.arrayClass .int) (by decide +kernel))
  obtain ⟨a1, k1, p1, f1, g1, h1⟩ := Cond.arrayClass_spec (hts (.arrayClass .byte) (by decide +kernel))
  obtain ⟨a2, k2, p2, f2, g2, h2⟩ := Cond.arrayClass_spec (hts (.arrayClass .short) (by decide +kernel))
  obtain ⟨a3, k3, p3, f3, g3, h3⟩ := Cond.arrayClass_spec (hts (.arrayClass .boolean) (by decide +kernel))
  have ao4 := hts0 (.arrayOver (.object "JumpBoard$Position")) (List.mem_of_getElem? (i := 64) (by rfl))
  have ao5 := hts0 (.arrayOver (.object "JumpBoard$MoveList")) (List.mem_of_getElem? (i := 110) (by rfl))
  obtain ⟨p4, a4, k4, q4, _, g4, h4, f4⟩ := Cond.arrayOver_spec ao4
  obtain ⟨p5, a5, k5, q5, _, g5, h5, f5⟩ := Cond.arrayOver_spec ao5
  refine ⟨(fun k => if k = 0 then c0 else if k = 1 then c1 else if k = 2 then c2 else if k = 3 then c3 else if k = 4 then c4 else c5, fun k => if k = 0 then iS0 else if k = 1 then iS1 else if k = 2 then iS2 else if k = 3 then iS3 else if k = 4 then iS4 else iS5), fun k => if k = 0 then a0 else if k = 1 then a1 else if k = 2 then a2 else if k = 3 then a3 else if k = 4 then a4 else a5, ⟨?_, ?_⟩, ?_⟩
  · intro k q hq
    match k, hq with
    | 0, hq => cases hq; exact hKn0
    | 1, hq => cases hq; exact hKn1
    | 2, hq => cases hq; exact hKn2
    | 3, hq => cases hq; exact hKn3
    | 4, hq => cases hq; exact hKn4
    | 5, hq => cases hq; exact hKn5
    | k + 6, hq => simp [vwCl] at hq
  · intro k q hq
    match k, hq with
    | 0, hq => cases hq; exact ⟨fun n z => ⟨fun k h => (by cases h), k0, g0, p0, h0⟩, f0⟩
    | 1, hq => cases hq; exact ⟨fun n z => ⟨fun k h => (by cases h), k1, g1, p1, h1⟩, f1⟩
    | 2, hq => cases hq; exact ⟨fun n z => ⟨fun k h => (by cases h), k2, g2, p2, h2⟩, f2⟩
    | 3, hq => cases hq; exact ⟨fun n z => ⟨fun k h => (by cases h), k3, g3, p3, h3⟩, f3⟩
    | 4, hq => cases hq; exact ⟨fun n z => ⟨fun k h => (by cases h), k4, g4, p4, h4⟩, k4, p4, g4, h4, q4, f4⟩
    | 5, hq => cases hq; exact ⟨fun n z => ⟨fun k h => (by cases h), k5, g5, p5, h5⟩, k5, p5, g5, h5, q5, f5⟩
    | k + 6, hq => simp [mm_tys] at hq
  · exact ⟨va_Nw.of rfl (hts0 (.methodLinkNest RX0 24 yX1_init RX4) (List.mem_of_getElem? (i := 317) (by rfl))), va_Nw.of rfl (hts0 (.methodLinkNest RX0 27 yX2_init RX4) (List.mem_of_getElem? (i := 319) (by rfl))), va_Nw.of rfl (hts0 (.methodLinkNest RX4 32 yX1_init RX4) (List.mem_of_getElem? (i := 67) (by rfl))), va_Nw.of rfl (hts0 (.methodLinkNest RX4 37 yX2_init RX4) (List.mem_of_getElem? (i := 84) (by rfl))), va_AO.of ao4, va_AO.of ao5⟩
theorem ri_S : beginSR (riS 72) 7 = nearR ∧ beginSR (riS 72) 8 = farR ∧ beginSR (riS 72) 18 = (fun _ => 0) ∧ beginSR (riS 72) 19 = fun _ => 0 := by
  have h := (begin_row (riS 72)).2
  refine ⟨?_, ?_, ?_, ?_⟩
  · rw [h 7 (by decide) (by decide), riS_7]; rfl
  · rw [h 8 (by decide) (by decide), riS_8]; rfl
  · rw [h 18 (by decide) (by decide)]; unfold riS; rw [va_up_ne _ _ (by decide), va_up_ne _ _ (by decide)]
  · rw [h 19 (by decide) (by decide)]; unfold riS; rw [va_up_ne _ _ (by decide), va_up_ne _ _ (by decide)]
set_option maxHeartbeats 4000000 in
set_option maxRecDepth 100000 in
/-- from the entry, for every script of at most 1536 ints, the law comes to its end with true -/
theorem whole_start {p : Program} {e : Env} {s : State} {m : MethodId} {below : List Frame} {meth : Method} {c : Code} (l : Launch) {b L : Nat} {xs : Nat → Int32} (hL : L ≤ 1536) (C0 : lw_At p s m meth c b L xs) : W p l e room_1 s m #[Value.ref b] below meth c s.heap [] 0 0 (lw_Z below #[Value.ref b] s) (entryFrame m ([Value.ref b] : List Value).toArray 4) := by
  obtain ⟨hx, hb, hr, hml, hown, hts0, hX, hbl, hlocks, hgv⟩ := id C0
  have hown : s.vm.findClass RL = some m.cls := hown
  have hts : ∀ w ∈ wsL_law, w.before #[Value.ref b] s = true := fun w hw => hts0 w (wsL_law_in w hw)
  obtain ⟨D, dA, hK⟩ := whole_K hts0 hts
  obtain ⟨KT, hslv, hKv⟩ := slv_ok
  obtain ⟨M0, eM0⟩ : ∃ M0 : mm_M, M0 = fun _ => .inr (0, []) := ⟨_, rfl⟩
  have hV0 : mm_V (fun q : Nat => s.heap.size ≤ q) D [] M0 s s.heap [] := ⟨fun k q h => by simp [va_pl] at h, fun i j a h => by simp at h, fun a h => by simp at h, va_S.rf, fun q h => h⟩
  have hl := lv_entry ([.ref b]) (n := 4) (Nat.le_of_ble_eq_true rfl)
  rw [lg_entry_eq]
  generalize (lg_sl ([.ref b]) ++ List.replicate (4 - (lg_sl ([.ref b])).length) Slot.unset).toArray = ls at hl ⊢
  have hl : lv_has ls 4 [(0, .ref b)] := hl
  refine mm_new (ci := 4) (fs := [.null, .null, .null, .int 0, .null, .null, .null, .null]) (C := RX4) (T := TX4) (N := 8) hx hb hts inlX4 tyX4 tyX4_ok hown (hts (.classLink RL 7 RX4) (by decide +kernel)) (hts (.instantiable RX4 8) (by decide +kernel)) (hts (.initialized RX4) (by decide +kernel)) hK hV0 rfl (fun j hj => by rcases (show j = 0 ∨ j = 1 ∨ j = 2 ∨ j = 3 ∨ j = 4 ∨ j = 5 ∨ j = 6 ∨ j = 7 by omega) with rfl | rfl | rfl | rfl | rfl | rfl | rfl | rfl <;> rfl) (Nat.le_of_ble_eq_true rfl) (Nat.le_of_ble_eq_true rfl) dL_law_0 (fun o4 H1 hq4 hV1 => ?_)
  refine W.widen (k := 1) (n := 8) (Nat.le_refl _) (Nat.le_refl _) ?_
  obtain ⟨L1, eL1⟩ : ∃ z, z = ([] : List Nat) ++ [o4] := ⟨_, rfl⟩
  obtain ⟨M1, eM1⟩ : ∃ z, z = va_up M0 o4 (.inr (4, [.null, .null, .null, .int 0, .null, .null, .null, .null])) := ⟨_, rfl⟩
  rw [← eL1, ← eM1] at hV1
  have i_4 : o4 ∈ L1 := by rw [eL1]; exact List.mem_append_right _ (List.mem_singleton.mpr rfl)
  have m_4 : M1 o4 = .inr (4, [.null, .null, .null, .int 0, .null, .null, .null, .null]) := by rw [eM1]; exact va_up_self _ _ _
  refine lv_dup hx hb dL_law_3 rfl ?_
  refine mm_Iv (mc := 125) (ms := 1236) (As := []) (rest := [.ref o4]) ⟨hx, hb, hml, hown, hts⟩ hK hV1 (c_X4_init l D dA i_4 m_4) (cwI 0 hts gL_law_X4_init rfl rfl rfl (hts (.initialized RX4) (by decide +kernel)) (hts (.methodLink RL 9 yX4_init) (by decide +kernel)) (hts (.instanceMethod yX4_init) (by decide +kernel)) rfl (by decide +kernel) (mm_levL (by omega) (by decide))) rfl hl.1 rfl (Nat.le_of_ble_eq_true rfl) dL_law_4 ⟨Nat.le_of_ble_eq_true rfl, Nat.le_of_ble_eq_true rfl⟩ (fun L2 M2 H2 locs2 hp2 hV2 => ?_)
  refine W.widen (k := 126) (n := 1244) (Nat.le_refl _) (Nat.le_refl _) ?_
  obtain ⟨z, ez, hz, m_0, hF, hY, hT, h7, m_10, hal, hs2, hf2⟩ := hp2
  have hC2 : CI dA L2 M2 z .null 0 (fun _ => setUpP) false := ⟨hz, m_0, rfl, ⟨hF, hY, hT, h7, hal⟩, fun i hi => by rw [show i = 0 by omega]; exact m_10⟩
  refine lv_astore_n (lv' := [(1, .ref o4), (0, .ref b)]) hx hb dL_law_7 rfl hl (by decide) rfl (fun ls2 hl2 => ?_)
  refine mm_new (ci := 5) (fs := [.null, .null, .null, .null, .null, .null, .null, .null, .null, .null, .null, .null, .null, .int 0, .int 0, .null, .null, .int 0, .null, .null]) (C := RX5) (T := TX5) (N := 20) hx hb hts inlX5 tyX5 tyX5_ok hown (hts (.classLink RL 10 RX5) (by decide +kernel)) (hts (.instantiable RX5 20) (by decide +kernel)) (hts (.initialized RX5) (by decide +kernel)) hK hV2 rfl (fun j hj => by rcases (show j = 0 ∨ j = 1 ∨ j = 2 ∨ j = 3 ∨ j = 4 ∨ j = 5 ∨ j = 6 ∨ j = 7 ∨ j = 8 ∨ j = 9 ∨ j = 10 ∨ j = 11 ∨ j = 12 ∨ j = 13 ∨ j = 14 ∨ j = 15 ∨ j = 16 ∨ j = 17 ∨ j = 18 ∨ j = 19 by omega) with rfl | rfl | rfl | rfl | rfl | rfl | rfl | rfl | rfl | rfl | rfl | rfl | rfl | rfl | rfl | rfl | rfl | rfl | rfl | rfl <;> rfl) (Nat.le_of_ble_eq_true rfl) (Nat.le_of_ble_eq_true rfl) dL_law_8 (fun ob H3 hq5 hV3 => ?_)
  refine W.widen (k := 127) (n := 1264) (Nat.le_refl _) (Nat.le_refl _) ?_
  obtain ⟨L3, eL3⟩ : ∃ z, z = L2 ++ [ob] := ⟨_, rfl⟩
  obtain ⟨M3, eM3⟩ : ∃ z, z = va_up M2 ob (.inr (5, [.null, .null, .null, .null, .null, .null, .null, .null, .null, .null, .null, .null, .null, .int 0, .int 0, .null, .null, .int 0, .null, .null])) := ⟨_, rfl⟩
  rw [← eL3, ← eM3] at hV3
  have i_5 : ob ∈ L3 := by rw [eL3]; exact List.mem_append_right _ (List.mem_singleton.mpr rfl)
  have m_5 : M3 ob = .inr (5, [.null, .null, .null, .null, .null, .null, .null, .null, .null, .null, .null, .null, .null, .int 0, .int 0, .null, .null, .int 0, .null, .null]) := by rw [eM3]; exact va_up_self _ _ _
  have hs3 : ∀ q, q ∈ L2 → q ∈ L3 := fun q h => by rw [eL3]; exact List.mem_append_left _ h
  have n5 : ∀ q, q ∈ L2 → q ≠ ob := fun q h e => hq5 (by rw [← e]; exact h)
  have hC3 := hC2.keep (M1 := M3) (L1 := L3) (by omega) (fun k hk => by rw [eM3]; exact va_up_ne _ _ (n5 _ (hz.1 k hk))) (fun q hq _ => by rw [eM3]; exact va_up_ne _ _ (n5 q hq)) hs3
  refine lv_dup hx hb dL_law_11 rfl ?_
  refine mm_Iv (mc := 17) (ms := 15654) (As := []) (rest := [.ref ob]) ⟨hx, hb, hml, hown, hts⟩ hK hV3 (c_X5_init l D dA i_5 m_5) (cwI 0 hts gL_law_X5_init rfl rfl rfl (hts (.initialized RX5) (by decide +kernel)) (hts (.methodLink RL 12 yX5_init) (by decide +kernel)) (hts (.instanceMethod yX5_init) (by decide +kernel)) rfl (by decide +kernel) (mm_levL (by omega) (by decide))) rfl hl2.1 rfl (Nat.le_of_ble_eq_true rfl) dL_law_12 ⟨Nat.le_of_ble_eq_true rfl, Nat.le_of_ble_eq_true rfl⟩ (fun L4 M4 H4 locs4 hp4 hV4 => ?_)
  refine W.widen (k := 144 + kc false false) (n := 16918 + ks false false) (Nat.le_refl _) (Nat.le_refl _) ?_
  obtain ⟨ad, hA, m_ob, hnA, hs4, hf4⟩ := hp4
  have d1 : ∀ i, i < 126 → z i ≠ ob := fun i hi => n5 _ (hz.1 i hi)
  have d2 : ∀ i, i < 126 → ∀ k, rak k = true → z i ≠ ad k := fun i hi k hk e => hnA k hk (by rw [← e]; exact hs3 _ (hz.1 i hi))
  have hC4 := hC3.keep (M1 := M4) (L1 := L4) (by omega) (fun k hk => hf4 _ (hs3 _ (hz.1 k hk)) (d1 k hk)) (fun q hq he => hf4 q hq (fun e => by
    rw [e, m_5] at he
    exact eK_o (by decide) he)) hs4
  have hS := ri_S
  have hR4 : RI dA KT L4 M4 ob ad (beginSR (riS 72)) 0 0 (fun _ => setUpP) := ⟨hs4 _ i_5, m_ob, hA, hS.1, hS.2.1, Or.inl ⟨rfl, hS.2.2.1, hS.2.2.2⟩, (begin_row (riS 72)).1, fun i hi => by omega⟩
  refine lv_astore_n (lv' := [(2, .ref ob), (1, .ref o4), (0, .ref b)]) hx hb dL_law_15 rfl hl2 (by decide) rfl (fun ls4 hl4 => ?_)
  refine lv_iconst (v := 0) hx hb dL_law_16 (by decide) ?_
  refine lv_istore_n (lv' := [(3, .int 0), (2, .ref ob), (1, .ref o4), (0, .ref b)]) hx hb dL_law_17 rfl hl4 (by decide) rfl (fun ls5 hl5 => ?_)
  rw [← ez] at hl5
  exact law_loop hr hlocks ⟨hx, hb, hml, hown, hts, hX, hbl, hL, hK, hslv, hKv, d1, d2⟩ (L + 1) 0 0 0 (fun _ => setUpP) false .null (beginSR (riS 72)) 0 L4 M4 H4 locs4 ls5 (Nat.zero_le _) (by omega) rfl (GI.one wf_setup) hC4 hR4 hV4 (lv_sub hl5 [3, 2, 1, 0] rfl)
