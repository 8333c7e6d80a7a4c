def tkC (key : Int32) : Nat → Int32
  | 0 => 0
  | j + 1 => if ((key - key / 262144 * 262144) >>> (nI j &&& 31)) &&& 1 = 1 then tkC key j + 1 else tkC key j
def kstR (S : Nat → Nat → Int32) (key : Int32) : Int32 := if key - key / 262144 * 262144 = 0 then (if kingR (S 0 (begR key).toNatClampNeg) = 0 then 0 else 1) else 0
def playKR (P : Ps) (qu pl x : Int32) : Prop := overVR P qu = 0 ∧ ¬ x < 0 ∧ x < nI (mvN P) ∧ ¬ pl = 100
def playS (S1 S : Nat → Nat → Int32) (lt : Nat) (qu : Int32) (P : Ps) : Prop := rowOK S1 0 P ∧ S1 7 = S 7 ∧ S1 8 = S 8 ∧ (∀ j, j < 18 * lt → S1 15 j = S 15 j) ∧ (∀ j, j < 18 → S1 15 (18 * lt + j) = S 0 j) ∧ (∀ j, j ≠ lt → S1 16 j = S 16 j) ∧ S1 16 lt = qu ∧ S1 18 = S 18 ∧ S1 19 = S 19
theorem makeR_ne {S : Nat → Nat → Int32} {p : Nat} {key : Int32} {f t k : Nat} (h0 : k ≠ 0) (h1 : k ≠ 1) : makeR S p key f t k = S k := by unfold makeR; rw [va_up_ne _ _ h1, va_up_ne _ _ h0]

set_option maxHeartbeats 1000000 in
set_option maxRecDepth 100000 in
theorem c_playR (l : Launch) (D : va_G) (dA : Nat → ClassId) {L : List Nat} {M : mm_M} {ob : Nat} {ad : Nat → Nat} {S : Nat → Nat → Int32} {pl qu so : Int32} {P : Ps} {WF : Ps → Prop} {lt : Nat} (x1 : Int32) (i_ob : ob ∈ L) (m_ob : M ob = rO ad pl qu so) (hA : rA dA L M ad S) (h7 : S 7 = nearR) (h8 : S 8 = farR) (GS : GenSem WF) (hrow : rowOK S 0 P) (hwf : WF P) (MS : MakeSem WF) (hlt : pl = nI lt) (hlt100 : lt ≤ 100) : mm_Cn l D dA yX5_play wsX5_play 6 [.ref ob, .int x1] L M (fun r M1 => (¬ playKR P qu pl x1 ∧ r = -1 ∧ ∃ S1, GenP S1 S 0 P ∧ rA dA L M1 ad S1 ∧ M1 ob = rO ad pl qu so ∧ rF L ad ob M M1) ∨ (playKR P qu pl x1 ∧ r = tkC (mvpR P x1) 18 ∧ ∃ S1, playS S1 S lt qu (followP P (mvA P x1.toNatClampNeg)) ∧ rA dA L M1 ad S1 ∧ M1 ob = rO ad (pl + 1) (if kstR S (mvpR P x1) = 0 then 0 else qu + 1) so ∧ rF L ad ob M M1)) := by
  have hA0 := hA
  have m_ob0 := m_ob
  have fR : rF L ad ob M M := rF.rf
  refine mm_enter_i (cc := cX5_play) (maxL := 6) (by decide) rfl (Nat.le_of_ble_eq_true rfl) ?_
  intro p e R s m args below meth c A ls H locs Q hR hx hb hml hin hown hts hK hV hl hret
  have hl : lv_has ls 6 [(0, .ref ob), (1, .int x1)] := hl
  have hown : s.vm.findClass RX5 = some m.cls := hown
  have f_19 := hts (.fieldLink RX5 19 "JumpBoardModel" "count" "[I") (by decide +kernel)
  have in_X5 : ∀ w ∈ wsX50, w ∈ wsX5_play := by decide +kernel
  have f_156 := hts (.fieldLink RX5 156 "JumpBoardModel" "played" "I") (by decide +kernel)
  have f_16 := hts (.fieldLink RX5 16 "JumpBoardModel" "list" "[I") (by decide +kernel)
  have f_7 := hts (.fieldLink RX5 7 "JumpBoardModel" "board" "[I") (by decide +kernel)
  have f_53 := hts (.fieldLink RX5 53 "JumpBoardModel" "oldQuiet" "[I") (by decide +kernel)
  have f_160 := hts (.fieldLink RX5 160 "JumpBoardModel" "quiet" "I") (by decide +kernel)
  have f_13 := hts (.fieldLink RX5 13 "JumpBoardModel" "mover" "[I") (by decide +kernel)
  have f_50 := hts (.fieldLink RX5 50 "JumpBoardModel" "oldBoard" "[I") (by decide +kernel)
  refine lv_aload_n hx hb dX5_play_0 rfl (lv_at hl 0 rfl) ?_
  refine mm_Vn (ci := 5) (As := []) (rest := []) ⟨hx, hb, hml, hown, hts⟩ hK hV (c_overR l D dA i_ob m_ob hA h7 h8 GS hrow hwf) (cwV 0 hts gX5_play_X5_over rfl rfl rfl (by decide +kernel) (mm_levR hR (by omega) (by decide))) i_ob m_ob rfl rfl hl.1 rfl (Nat.le_of_ble_eq_true rfl) dX5_play_1 ⟨Nat.zero_le _, Nat.zero_le _⟩ (fun r9 M_1 H locs hp9 hV => ?_)
  obtain ⟨er9, S2, hG2, hA, m_ob, fR9⟩ := hp9
  have fR : rF L ad ob M M_1 := fR.tr fR9
  refine lv_if_ne (tgt := 30) hx hb dX5_play_4 (by decide) (fun c4 => ?_) (fun c4 => ?_)
  · refine lv_iconst (v := (-1)) hx hb dX5_play_30 (by decide) ?_
    exact hret (v := (-1)) dX5_play_31 hV (by decide) (by decide) ⟨rfl, Or.inl ⟨fun h => c4 (er9.trans h.1), rfl, S2, hG2, hA, m_ob, fR⟩⟩
  · refine lv_iload_n hx hb dX5_play_7 rfl (lv_at hl 1 rfl) ?_
    refine lv_if_lt (tgt := 30) hx hb dX5_play_8 (by decide) (fun c8 => ?_) (fun c8 => ?_)
    · refine lv_iconst (v := (-1)) hx hb dX5_play_30 (by decide) ?_
      exact hret (v := (-1)) dX5_play_31 hV (by decide) (by decide) ⟨rfl, Or.inl ⟨fun h => h.2.1 c8, rfl, S2, hG2, hA, m_ob, fR⟩⟩
    · obtain ⟨i, hi31, hxi⟩ := nI_of c8
      refine lv_iload_n hx hb dX5_play_11 rfl (lv_at hl 1 rfl) ?_
      refine lv_aload_n hx hb dX5_play_12 rfl (lv_at hl 0 rfl) ?_
      refine mm_get (ci := 5) (C := RX5) (T := TX5) (N := 20) hx hb hts in_X5 hown hK hV i_ob m_ob rfl 3 (by decide) f_19 (fun _ h => h) rfl dX5_play_13 ?_
      refine lv_iconst (v := 0) hx hb dX5_play_16 (by decide) ?_
      refine mm_ialdN (j := 0) hx hb hK hV (hA.i 3 rfl) (show M_1 (ad 3) = .inl (dA 0, 6, .inl (S2 3)) from hA.m 3 rfl) rfl (by decide) (by decide) dX5_play_17 ?_
      refine lv_icmp_ge (tgt := 30) hx hb dX5_play_18 (by decide) (fun c18 => ?_) (fun c18 => ?_)
      · refine lv_iconst (v := (-1)) hx hb dX5_play_30 (by decide) ?_
        exact hret (v := (-1)) dX5_play_31 hV (by decide) (by decide) ⟨rfl, Or.inl ⟨fun h => absurd h.2.2.1 (Int32.not_lt.mpr (by rw [← hG2.1.1]; exact c18)), rfl, S2, hG2, hA, m_ob, fR⟩⟩
      · have hn72 := mvN_le P
        have hin9 : i < mvN P := (nI_ltI hi31 (by omega)).mp (by rw [← hxi, ← hG2.1.1]; exact Int32.not_le.mp c18)
        have hok3 : x1 < nI (mvN P) := by rw [← hG2.1.1]; exact Int32.not_le.mp c18
        refine lv_aload_n hx hb dX5_play_21 rfl (lv_at hl 0 rfl) ?_
        refine mm_get (ci := 5) (C := RX5) (T := TX5) (N := 20) hx hb hts in_X5 hown hK hV i_ob m_ob rfl 13 (by decide) f_156 (fun _ h => h) rfl dX5_play_22 ?_
        refine lv_bipush (v := 100) hx hb dX5_play_25 (by decide) ?_
        refine lv_icmp_ne (tgt := 32) hx hb dX5_play_27 (by decide) (fun c27 => ?_) (fun c27 => ?_)
        · have hlt9 : lt < 100 := by
            rcases Nat.lt_or_ge lt 100 with h | h
            · exact h
            · exact absurd (by rw [hlt, show lt = 100 by omega]; rfl) c27
          have hok : playKR P qu pl x1 := ⟨er9.symm.trans c4, c8, hok3, c27⟩
          have hrow2 : rowOK S2 0 P := hG2.2.1.row (Nat.le_refl 0) hrow
          obtain ⟨f9, t9, hf1, hf2, ht1, ht2, hrw9⟩ := MS S2 0 P i hrow2 hwf hin9
          refine lv_aload_n hx hb dX5_play_32 rfl (lv_at hl 0 rfl) ?_
          refine mm_get (ci := 5) (C := RX5) (T := TX5) (N := 20) hx hb hts in_X5 hown hK hV i_ob m_ob rfl 2 (by decide) f_16 (fun _ h => h) rfl dX5_play_33 ?_
          refine lv_iload_n hx hb dX5_play_36 rfl (lv_at hl 1 rfl) ?_
          refine mm_ialdN (j := i) hx hb hK hV (hA.i 2 rfl) (show M_1 (ad 2) = .inl (dA 0, 480, .inl (S2 2)) from hA.m 2 rfl) hxi (by omega) (by decide) dX5_play_37 ?_
          refine lv_topi (fun x2 ex2 => ?_)
          refine lv_istore_n (lv' := [(2, .int x2), (0, .ref ob), (1, .int x1)]) hx hb dX5_play_38 rfl hl (by decide) rfl (fun ls hl => ?_)
          have hk3 : x2 = rk (mvA P i) := by rw [ex2, ← hG2.1.2 i hin9, Nat.mul_zero, Nat.zero_add]
          have hk4 : mvpR P x1 = x2 := by unfold mvpR; rw [hxi, nI_clamp hi31, hk3]
          refine lv_iload_n hx hb dX5_play_39 rfl (lv_at hl 0 rfl) ?_
          refine lv_ldc hx hb hown (hts (.constant RX5 77 (262144)) (by decide +kernel)) dX5_play_40 ?_
          refine lv_irem hx hb dX5_play_42 (by decide) ?_
          have J66 : ∀ (v66 : Int32) (H : Heap) (locs : List Loc), v66 = (if (x2 - x2 / 262144 * 262144) = 0 then (if kingR ((S2 0) f9) = 0 then 0 else 1) else 0) → mm_V A D L M_1 s H locs → W p l e R s m args below meth c H locs 0 0 Q (F0 m 66 ls [.int v66]) := by
            intro v66 H locs ev66 hV
            refine lv_istore_n (lv' := [(3, .int v66), (2, .int x2), (0, .ref ob), (1, .int x1)]) hx hb dX5_play_66 rfl hl (by decide) rfl (fun ls hl => ?_)
            refine lv_iconst (v := 0) hx hb dX5_play_67 (by decide) ?_
            refine lv_topi (fun x4 ex4 => ?_)
            refine lv_istore (lv' := [(4, .int x4), (3, .int v66), (2, .int x2), (0, .ref ob), (1, .int x1)]) hx hb dX5_play_68 hl (by decide) rfl (fun ls hl => ?_)
            have LP : ∀ (k : Nat) (i9 : Nat) (x4 : Int32) (S1 : Nat → Nat → Int32) (M1 : mm_M) (H : Heap) (locs : List Loc) (ls : Array Slot), i9 + k = 18 → x4 = nI i9 → S1 = va_up S2 15 (filG (18 * lt) (fun q => S2 0 q) (S2 15) i9) → mm_V A D L M1 s H locs → rA dA L M1 ad S1 → M1 ob = rO ad pl qu so → rF L ad ob M M1 → lv_has ls 6 [(0, .ref ob), (1, .int x1), (2, .int x2), (3, .int v66), (4, .int x4)] → W p l e R s m args below meth c H locs 0 0 Q (F0 m 70 ls []) := by
              intro k
              induction k with
              | zero =>
                intro i9 x4 S1 M1 H locs ls hik hx4 hS1 hV hA m_ob fR hl
                refine lv_iload hx hb dX5_play_70 (lv_at hl 4 rfl) ?_
                refine lv_bipush (v := 18) hx hb dX5_play_72 (by decide) ?_
                refine lv_icmp_ge (tgt := 105) hx hb dX5_play_74 (by decide) (fun c74 => ?_) (fun c74 => ?_)
                · have hi18 : i9 = 18 := by omega
                  subst hi18
                  refine lv_aload_n hx hb dX5_play_105 rfl (lv_at hl 0 rfl) ?_
                  refine mm_get (ci := 5) (C := RX5) (T := TX5) (N := 20) hx hb hts in_X5 hown hK hV i_ob m_ob rfl 16 (by decide) f_53 (fun _ h => h) rfl dX5_play_106 ?_
                  refine lv_aload_n hx hb dX5_play_109 rfl (lv_at hl 0 rfl) ?_
                  refine mm_get (ci := 5) (C := RX5) (T := TX5) (N := 20) hx hb hts in_X5 hown hK hV i_ob m_ob rfl 13 (by decide) f_156 (fun _ h => h) rfl dX5_play_110 ?_
                  refine lv_aload_n hx hb dX5_play_113 rfl (lv_at hl 0 rfl) ?_
                  refine mm_get (ci := 5) (C := RX5) (T := TX5) (N := 20) hx hb hts in_X5 hown hK hV i_ob m_ob rfl 14 (by decide) f_160 (fun _ h => h) rfl dX5_play_114 ?_
                  refine mm_iastN (j := lt) (x := qu) hx hb hK hV (hA.i 16 rfl) (show M1 (ad 16) = .inl (dA 0, 100, .inl (S1 16)) from hA.m 16 rfl) hlt (by omega) (by decide) dX5_play_117 (fun M_2 H locs eM_2 hV => ?_)
                  obtain ⟨Sq, eSq⟩ : ∃ z, z = va_up S1 16 (upd (S1 16) lt qu) := ⟨_, rfl⟩
                  have hA : rA dA L M_2 ad Sq := by rw [eSq]; exact hA.up 16 rfl eM_2
                  have m_ob : M_2 ob = rO ad pl qu so := (congrFun eM_2 ob).trans ((va_up_ne _ _ (fun h => hA0.nob 16 rfl m_ob0 h)).trans m_ob)
                  have fR : rF L ad ob M M_2 := fR.up 16 rfl eM_2
                  refine lv_aload_n hx hb dX5_play_118 rfl (lv_at hl 0 rfl) ?_
                  refine lv_dup hx hb dX5_play_119 rfl ?_
                  refine mm_get (ci := 5) (C := RX5) (T := TX5) (N := 20) hx hb hts in_X5 hown hK hV i_ob m_ob rfl 13 (by decide) f_156 (fun _ h => h) rfl dX5_play_120 ?_
                  refine lv_iconst (v := 1) hx hb dX5_play_123 (by decide) ?_
                  refine lv_iadd hx hb dX5_play_124 ?_
                  refine lv_topi (fun pl1 epl1 => ?_)
                  refine mm_put (ci := 5) (v := .int pl1) (fs' := [.ref (ad 0), .ref (ad 1), .ref (ad 2), .ref (ad 3), .ref (ad 4), .ref (ad 5), .ref (ad 6), .ref (ad 7), .ref (ad 8), .ref (ad 9), .ref (ad 10), .ref (ad 11), .ref (ad 12), .int pl1, .int qu, .ref (ad 15), .ref (ad 16), .int so, .ref (ad 18), .ref (ad 19)]) (ty := .int) (C := RX5) (T := TX5) (N := 20) hx hb hts in_X5 tyX5 tyX5_ok nmX5 hown hK hV i_ob m_ob rfl 13 (by decide) f_156 (fun _ h => h) rfl (by decide +kernel) rfl rfl (Nat.le_of_ble_eq_true rfl) rfl dX5_play_125 (fun M_3 H locs eM_3 hV => ?_)
                  have hA : rA dA L M_3 ad Sq := hA.ob m_ob eM_3
                  have fR : rF L ad ob M M_3 := fR.ob eM_3
                  have m_ob : M_3 ob = rO ad pl1 qu so := by rw [eM_3]; exact va_up_self _ _ _
                  refine lv_aload_n hx hb dX5_play_128 rfl (lv_at hl 0 rfl) ?_
                  refine lv_iload_n hx hb dX5_play_129 rfl (lv_at hl 3 rfl) ?_
                  have J143 : ∀ (v143 : Int32), v143 = (if v66 = 0 then 0 else (qu + 1)) → W p l e R s m args below meth c H locs 0 0 Q (F0 m 143 ls [.int v143, .ref ob]) := by
                    intro v143 ev143
                    refine mm_put (ci := 5) (v := .int v143) (fs' := [.ref (ad 0), .ref (ad 1), .ref (ad 2), .ref (ad 3), .ref (ad 4), .ref (ad 5), .ref (ad 6), .ref (ad 7), .ref (ad 8), .ref (ad 9), .ref (ad 10), .ref (ad 11), .ref (ad 12), .int pl1, .int v143, .ref (ad 15), .ref (ad 16), .int so, .ref (ad 18), .ref (ad 19)]) (ty := .int) (C := RX5) (T := TX5) (N := 20) hx hb hts in_X5 tyX5 tyX5_ok nmX5 hown hK hV i_ob m_ob rfl 14 (by decide) f_160 (fun _ h => h) rfl (by decide +kernel) rfl rfl (Nat.le_of_ble_eq_true rfl) rfl dX5_play_143 (fun M_4 H locs eM_4 hV => ?_)
                    have hA : rA dA L M_4 ad Sq := hA.ob m_ob eM_4
                    have fR : rF L ad ob M M_4 := fR.ob eM_4
                    have m_ob : M_4 ob = rO ad pl1 v143 so := by rw [eM_4]; exact va_up_self _ _ _
                    refine lv_aload_n hx hb dX5_play_146 rfl (lv_at hl 0 rfl) ?_
                    refine lv_iconst (v := 0) hx hb dX5_play_147 (by decide) ?_
                    refine lv_iload_n hx hb dX5_play_148 rfl (lv_at hl 1 rfl) ?_
                    have hqn : ∀ q, q ≠ 15 → q ≠ 16 → Sq q = S2 q := fun q a b => by rw [eSq, va_up_ne _ _ b, hS1, va_up_ne _ _ a]
                    have hrq : rowOK Sq 0 P := ⟨fun q hq => by rw [hqn 0 (by decide) (by decide)]; exact hrow2.1 q hq, by rw [hqn 1 (by decide) (by decide)]; exact hrow2.2⟩
                    obtain ⟨f8, t8, hf3, hf4, ht3, ht4, hrm⟩ := MS Sq 0 P i hrq hwf hin9
                    have hk8 : Sq 2 (80 * 0 + i) = rk (mvA P i) := by rw [hqn 2 (by decide) (by decide)]; exact hG2.1.2 i hin9
                    refine mm_Vm (ci := 5) (As := [.int 0, .int x1]) (rest := []) ⟨hx, hb, hml, hown, hts⟩ hK hV (c_makeR l D dA (p0 := 0) (i0 := i) (f0 := f8) (t0 := t8) 0 x1 i_ob m_ob hA rfl (by decide) hxi (by omega) (by rw [hk8]; exact hf3) hf4 (by rw [hk8]; exact ht3) ht4) (cwV 2 hts gX5_play_X5_make rfl rfl rfl (by decide +kernel) (mm_levR hR (by omega) (by decide))) i_ob m_ob rfl rfl hl.1 rfl (Nat.le_of_ble_eq_true rfl) dX5_play_149 ⟨Nat.zero_le _, Nat.zero_le _⟩ (fun M_5 H locs hp hV => ?_)
                    obtain ⟨hA, m_ob, fR9⟩ := hp
                    have fR : rF L ad ob M M_5 := fR.tr fR9
                    obtain ⟨Sm, eSm⟩ : ∃ z, z = makeR Sq 0 (Sq 2 (80 * 0 + i)) f8 t8 := ⟨_, rfl⟩
                    rw [← eSm] at hA
                    rw [hk8] at eSm
                    rw [← eSm] at hrm
                    have hm : ∀ q, q ≠ 0 → q ≠ 1 → q ≠ 15 → q ≠ 16 → Sm q = S2 q := fun q a b c9 d9 => by rw [eSm, makeR_ne a b]; exact hqn q c9 d9
                    have hm15 : Sm 15 = filG (18 * lt) (fun q => S2 0 q) (S2 15) 18 := by rw [eSm, makeR_ne (by decide) (by decide), eSq, va_up_ne _ _ (by decide), hS1, va_up_self]
                    have hm16 : Sm 16 = upd (S2 16) lt qu := by rw [eSm, makeR_ne (by decide) (by decide), eSq, va_up_self, hS1, va_up_ne _ _ (by decide)]
                    refine lv_iconst (v := 0) hx hb dX5_play_152 (by decide) ?_
                    refine lv_topi (fun x4c ex4c => ?_)
                    refine lv_istore (lv' := [(4, .int x4c), (0, .ref ob), (1, .int x1), (2, .int x2), (3, .int v66)]) hx hb dX5_play_153 hl (by decide) rfl (fun ls hl => ?_)
                    refine lv_iconst (v := 0) hx hb dX5_play_155 (by decide) ?_
                    refine lv_topi (fun x5 ex5 => ?_)
                    refine lv_istore (lv' := [(5, .int x5), (4, .int x4c), (0, .ref ob), (1, .int x1), (2, .int x2), (3, .int v66)]) hx hb dX5_play_156 hl (by decide) rfl (fun ls hl => ?_)
                    have LR : ∀ (k : Nat) (j : Nat) (x4 x5 : Int32) (S1 : Nat → Nat → Int32) (M1 : mm_M) (H : Heap) (locs : List Loc) (ls : Array Slot), j + k = 18 → x5 = nI j → x4 = tkC x2 j → S1 = va_up Sm 0 (fillF (fun q => Sm 0 (18 + q)) (Sm 0) j) → mm_V A D L M1 s H locs → rA dA L M1 ad S1 → M1 ob = rO ad pl1 v143 so → rF L ad ob M M1 → lv_has ls 6 [(0, .ref ob), (2, .int x2), (4, .int x4), (5, .int x5)] → W p l e R s m args below meth c H locs 0 0 Q (F0 m 158 ls []) := by
                      intro k
                      induction k with
                      | zero =>
                        intro j x4 x5 S1 M1 H locs ls hjk hx5 hx4 hS1 hV hA m_ob fR hl
                        refine lv_iload hx hb dX5_play_158 (lv_at hl 3 rfl) ?_
                        refine lv_bipush (v := 18) hx hb dX5_play_160 (by decide) ?_
                        refine lv_icmp_ge (tgt := 212) hx hb dX5_play_162 (by decide) (fun c162 => ?_) (fun c162 => ?_)
                        · have hj18 : j = 18 := by omega
                          subst hj18
                          refine lv_aload_n hx hb dX5_play_212 rfl (lv_at hl 0 rfl) ?_
                          refine mm_get (ci := 5) (C := RX5) (T := TX5) (N := 20) hx hb hts in_X5 hown hK hV i_ob m_ob rfl 1 (by decide) f_13 (fun _ h => h) rfl dX5_play_213 ?_
                          refine lv_iconst (v := 0) hx hb dX5_play_216 (by decide) ?_
                          refine lv_aload_n hx hb dX5_play_217 rfl (lv_at hl 0 rfl) ?_
                          refine mm_get (ci := 5) (C := RX5) (T := TX5) (N := 20) hx hb hts in_X5 hown hK hV i_ob m_ob rfl 1 (by decide) f_13 (fun _ h => h) rfl dX5_play_218 ?_
                          refine lv_iconst (v := 1) hx hb dX5_play_221 (by decide) ?_
                          refine mm_ialdN (j := 1) hx hb hK hV (hA.i 1 rfl) (show M1 (ad 1) = .inl (dA 0, 6, .inl (S1 1)) from hA.m 1 rfl) rfl (by decide) (by decide) dX5_play_222 ?_
                          refine lv_topi (fun vy evy => ?_)
                          refine mm_iastN (j := 0) (x := vy) hx hb hK hV (hA.i 1 rfl) (show M1 (ad 1) = .inl (dA 0, 6, .inl (S1 1)) from hA.m 1 rfl) rfl (by decide) (by decide) dX5_play_223 (fun M_6 H locs eM_6 hV => ?_)
                          obtain ⟨Sy, eSy⟩ : ∃ z, z = va_up S1 1 (upd (S1 1) 0 vy) := ⟨_, rfl⟩
                          have hA : rA dA L M_6 ad Sy := by rw [eSy]; exact hA.up 1 rfl eM_6
                          have m_ob : M_6 ob = rO ad pl1 v143 so := (congrFun eM_6 ob).trans ((va_up_ne _ _ (fun h => hA0.nob 1 rfl m_ob0 h)).trans m_ob)
                          have fR : rF L ad ob M M_6 := fR.up 1 rfl eM_6
                          refine lv_iload hx hb dX5_play_224 (lv_at hl 2 rfl) ?_
                          have hq9 : v143 = (if kstR S (mvpR P x1) = 0 then 0 else qu + 1) := by
                            rw [ev143, ev66, hk4]
                            unfold kstR
                            rw [show (begR x2).toNatClampNeg = f9 by rw [hk3, hf1]; exact nI_clamp (by omega), hG2.2.1.1 f9 (by omega)]
                          have hy : ∀ q, q ≠ 0 → q ≠ 1 → Sy q = Sm q := fun q a b => by rw [eSy, va_up_ne _ _ b, hS1, va_up_ne _ _ a]
                          have hPS : playS Sy S lt qu (followP P (mvA P i)) := by
                            refine ⟨⟨fun q hq => ?_, ?_⟩, ?_, ?_, fun q hq => ?_, fun q hq => ?_, fun q hq => ?_, ?_, ?_, ?_⟩
                            · rw [eSy, va_up_ne _ _ (by decide), hS1, va_up_self, Nat.mul_zero, Nat.zero_add, fillF, if_pos hq]; exact hrm.1 q hq
                            · rw [eSy, va_up_self, pk_us, evy, hS1, va_up_ne _ _ (by decide)]; exact hrm.2
                            · rw [hy 7 (by decide) (by decide), hm 7 (by decide) (by decide) (by decide) (by decide)]; exact hG2.2.1.2.2.2.2.1
                            · rw [hy 8 (by decide) (by decide), hm 8 (by decide) (by decide) (by decide) (by decide)]; exact hG2.2.1.2.2.2.2.2.1
                            · rw [hy 15 (by decide) (by decide), hm15, filG_lo hq, hG2.2.1.2.2.2.2.2.2.1]
                            · rw [hy 15 (by decide) (by decide), hm15, filG_in hq, hG2.2.1.1 q (by omega)]
                            · rw [hy 16 (by decide) (by decide), hm16, pk_un hq, hG2.2.1.2.2.2.2.2.2.2]
                            · rw [hy 16 (by decide) (by decide), hm16, pk_us]
                            · rw [hy 18 (by decide) (by decide), hm 18 (by decide) (by decide) (by decide) (by decide)]; exact hG2.2.2.2.1
                            · rw [hy 19 (by decide) (by decide), hm 19 (by decide) (by decide) (by decide) (by decide)]; exact hG2.2.2.2.2
                          exact hret (v := x4) dX5_play_226 hV (by decide) (by decide) ⟨rfl, Or.inr ⟨hok, by rw [hk4]; exact hx4, Sy, by rw [hxi, nI_clamp hi31]; exact hPS, hA, by rw [← epl1, ← hq9]; exact m_ob, fR⟩⟩
                        · exact absurd (by rw [hx5]; exact nI_le (a := 18) (by omega) (by omega)) c162
                      | succ k ih =>
                        intro j x4 x5 S1 M1 H locs ls hjk hx5 hx4 hS1 hV hA m_ob fR hl
                        refine lv_iload hx hb dX5_play_158 (lv_at hl 3 rfl) ?_
                        refine lv_bipush (v := 18) hx hb dX5_play_160 (by decide) ?_
                        refine lv_icmp_ge (tgt := 212) hx hb dX5_play_162 (by decide) (fun c162 => ?_) (fun c162 => ?_)
                        · exact absurd c162 (by rw [hx5]; exact nI_ge (b := 18) (by omega) (by decide))
                        · refine lv_aload_n hx hb dX5_play_165 rfl (lv_at hl 0 rfl) ?_
                          refine mm_get (ci := 5) (C := RX5) (T := TX5) (N := 20) hx hb hts in_X5 hown hK hV i_ob m_ob rfl 0 (by decide) f_7 (fun _ h => h) rfl dX5_play_166 ?_
                          refine lv_iload hx hb dX5_play_169 (lv_at hl 3 rfl) ?_
                          refine lv_aload_n hx hb dX5_play_171 rfl (lv_at hl 0 rfl) ?_
                          refine mm_get (ci := 5) (C := RX5) (T := TX5) (N := 20) hx hb hts in_X5 hown hK hV i_ob m_ob rfl 0 (by decide) f_7 (fun _ h => h) rfl dX5_play_172 ?_
                          refine lv_bipush (v := 18) hx hb dX5_play_175 (by decide) ?_
                          refine lv_iload hx hb dX5_play_177 (lv_at hl 3 rfl) ?_
                          refine lv_iadd hx hb dX5_play_179 ?_
                          refine mm_ialdN (j := (18 + j)) hx hb hK hV (hA.i 0 rfl) (show M1 (ad 0) = .inl (dA 0, 108, .inl (S1 0)) from hA.m 0 rfl) (addN (c := 18) rfl hx5) (by omega) (by decide) dX5_play_180 ?_
                          refine lv_topi (fun vx evx => ?_)
                          refine mm_iastN (j := j) (x := vx) hx hb hK hV (hA.i 0 rfl) (show M1 (ad 0) = .inl (dA 0, 108, .inl (S1 0)) from hA.m 0 rfl) hx5 (by omega) (by decide) dX5_play_181 (fun M_7 H locs eM_7 hV => ?_)
                          obtain ⟨Sx, eSx⟩ : ∃ z, z = va_up S1 0 (upd (S1 0) j vx) := ⟨_, rfl⟩
                          have hA : rA dA L M_7 ad Sx := by rw [eSx]; exact hA.up 0 rfl eM_7
                          have m_ob : M_7 ob = rO ad pl1 v143 so := (congrFun eM_7 ob).trans ((va_up_ne _ _ (fun h => hA0.nob 0 rfl m_ob0 h)).trans m_ob)
                          have fR : rF L ad ob M M_7 := fR.up 0 rfl eM_7
                          refine lv_iload_n hx hb dX5_play_182 rfl (lv_at hl 1 rfl) ?_
                          refine lv_ldc hx hb hown (hts (.constant RX5 77 (262144)) (by decide +kernel)) dX5_play_183 ?_
                          refine lv_irem hx hb dX5_play_185 (by decide) ?_
                          refine lv_iload hx hb dX5_play_186 (lv_at hl 3 rfl) ?_
                          refine lv_ishr hx hb dX5_play_188 ?_
                          refine lv_iconst (v := 1) hx hb dX5_play_189 (by decide) ?_
                          refine lv_iand hx hb dX5_play_190 ?_
                          refine lv_iconst (v := 1) hx hb dX5_play_191 (by decide) ?_
                          have J204 : ∀ (v204 : Int32), v204 = (if (((x2 - x2 / 262144 * 262144) >>> (x5 &&& 31)) &&& 1) = 1 then (x4 + 1) else x4) → W p l e R s m args below meth c H locs 0 0 Q (F0 m 204 ls [.int v204]) := by
                            intro v204 ev204
                            refine lv_istore (lv' := [(4, .int v204), (0, .ref ob), (2, .int x2), (5, .int x5)]) hx hb dX5_play_204 hl (by decide) rfl (fun ls hl => ?_)
                            obtain ⟨x5_n, ex5_n⟩ : ∃ y : Int32, y = x5 + 1 := ⟨_, rfl⟩
                            refine lv_iinc (v := x5_n) (lv' := [(5, .int x5_n), (4, .int v204), (0, .ref ob), (2, .int x2)]) hx hb dX5_play_206 hl (k := 3) rfl (by rw [ex5_n]; rfl) (by decide) rfl (fun ls hl => ?_)
                            refine lv_goto (tgt := 158) hx hb dX5_play_209 (by decide) ?_
                            exact ih (j + 1) v204 x5_n Sx M_7 _ _ ls (by omega) (by rw [ex5_n, hx5]; exact nI_1 j) (by rw [ev204, hx5, hx4]; rfl) (by rw [eSx, evx, hS1, va_up_self, bx_uu, ← fillF_s]; congr 2; unfold fillF; rw [if_neg (by omega)]) hV hA m_ob fR (lv_sub hl [2, 3, 1, 0] rfl)
                          refine lv_icmp_ne (tgt := 202) hx hb dX5_play_192 (by decide) (fun c192 => ?_) (fun c192 => ?_)
                          · refine lv_iload hx hb dX5_play_202 (lv_at hl 2 rfl) ?_
                            exact J204 _ (by rw [if_neg c192])
                          · refine lv_iload hx hb dX5_play_195 (lv_at hl 2 rfl) ?_
                            refine lv_iconst (v := 1) hx hb dX5_play_197 (by decide) ?_
                            refine lv_iadd hx hb dX5_play_198 ?_
                            refine lv_goto (tgt := 204) hx hb dX5_play_199 (by decide) ?_
                            exact J204 _ (by rw [if_pos c192])
                    exact LR 18 0 x4c x5 Sm M_5 H locs ls rfl (by rw [ex5]; rfl) (by rw [ex4c]; rfl) (by rw [fillF_0]; exact (up_id rfl).symm) hV hA m_ob fR (lv_sub hl [2, 4, 1, 0] rfl)
                  refine lv_if_eq (tgt := 142) hx hb dX5_play_130 (by decide) (fun c130 => ?_) (fun c130 => ?_)
                  · refine lv_iconst (v := 0) hx hb dX5_play_142 (by decide) ?_
                    exact J143 _ (by rw [if_pos c130])
                  · refine lv_aload_n hx hb dX5_play_133 rfl (lv_at hl 0 rfl) ?_
                    refine mm_get (ci := 5) (C := RX5) (T := TX5) (N := 20) hx hb hts in_X5 hown hK hV i_ob m_ob rfl 14 (by decide) f_160 (fun _ h => h) rfl dX5_play_134 ?_
                    refine lv_iconst (v := 1) hx hb dX5_play_137 (by decide) ?_
                    refine lv_iadd hx hb dX5_play_138 ?_
                    refine lv_goto (tgt := 143) hx hb dX5_play_139 (by decide) ?_
                    exact J143 _ (by rw [if_neg c130])
                · exact absurd (by rw [hx4]; exact nI_le (a := 18) (by omega) (by omega)) c74
              | succ k ih =>
                intro i9 x4 S1 M1 H locs ls hik hx4 hS1 hV hA m_ob fR hl
                refine lv_iload hx hb dX5_play_70 (lv_at hl 4 rfl) ?_
                refine lv_bipush (v := 18) hx hb dX5_play_72 (by decide) ?_
                refine lv_icmp_ge (tgt := 105) hx hb dX5_play_74 (by decide) (fun c74 => ?_) (fun c74 => ?_)
                · exact absurd c74 (by rw [hx4]; exact nI_ge (b := 18) (by omega) (by decide))
                · refine lv_aload_n hx hb dX5_play_77 rfl (lv_at hl 0 rfl) ?_
                  refine mm_get (ci := 5) (C := RX5) (T := TX5) (N := 20) hx hb hts in_X5 hown hK hV i_ob m_ob rfl 15 (by decide) f_50 (fun _ h => h) rfl dX5_play_78 ?_
                  refine lv_bipush (v := 18) hx hb dX5_play_81 (by decide) ?_
                  refine lv_aload_n hx hb dX5_play_83 rfl (lv_at hl 0 rfl) ?_
                  refine mm_get (ci := 5) (C := RX5) (T := TX5) (N := 20) hx hb hts in_X5 hown hK hV i_ob m_ob rfl 13 (by decide) f_156 (fun _ h => h) rfl dX5_play_84 ?_
                  refine lv_imul hx hb dX5_play_87 ?_
                  refine lv_iload hx hb dX5_play_88 (lv_at hl 4 rfl) ?_
                  refine lv_iadd hx hb dX5_play_90 ?_
                  refine lv_aload_n hx hb dX5_play_91 rfl (lv_at hl 0 rfl) ?_
                  refine mm_get (ci := 5) (C := RX5) (T := TX5) (N := 20) hx hb hts in_X5 hown hK hV i_ob m_ob rfl 0 (by decide) f_7 (fun _ h => h) rfl dX5_play_92 ?_
                  refine lv_iload hx hb dX5_play_95 (lv_at hl 4 rfl) ?_
                  refine mm_ialdN (j := i9) hx hb hK hV (hA.i 0 rfl) (show M1 (ad 0) = .inl (dA 0, 108, .inl (S1 0)) from hA.m 0 rfl) hx4 (by omega) (by decide) dX5_play_97 ?_
                  refine lv_topi (fun va eva => ?_)
                  refine mm_iastN (j := (18 * lt + i9)) (x := va) hx hb hK hV (hA.i 15 rfl) (show M1 (ad 15) = .inl (dA 0, 1800, .inl (S1 15)) from hA.m 15 rfl) (ixR (c := 18) rfl hlt hx4) (by omega) (by decide) dX5_play_98 (fun M_8 H locs eM_8 hV => ?_)
                  obtain ⟨Sa, eSa⟩ : ∃ z, z = va_up S1 15 (upd (S1 15) (18 * lt + i9) va) := ⟨_, rfl⟩
                  have hA : rA dA L M_8 ad Sa := by rw [eSa]; exact hA.up 15 rfl eM_8
                  have m_ob : M_8 ob = rO ad pl qu so := (congrFun eM_8 ob).trans ((va_up_ne _ _ (fun h => hA0.nob 15 rfl m_ob0 h)).trans m_ob)
                  have fR : rF L ad ob M M_8 := fR.up 15 rfl eM_8
                  obtain ⟨x4_n, ex4_n⟩ : ∃ y : Int32, y = x4 + 1 := ⟨_, rfl⟩
                  refine lv_iinc (v := x4_n) (lv' := [(4, .int x4_n), (0, .ref ob), (1, .int x1), (2, .int x2), (3, .int v66)]) hx hb dX5_play_99 hl (k := 4) rfl (by rw [ex4_n]; rfl) (by decide) rfl (fun ls hl => ?_)
                  refine lv_goto (tgt := 70) hx hb dX5_play_102 (by decide) ?_
                  exact ih (i9 + 1) x4_n Sa M_8 _ _ ls (by omega) (by rw [ex4_n, hx4]; exact nI_1 i9) (by rw [eSa, eva, hS1, va_up_self, bx_uu, va_up_ne _ _ (by decide), ← filG_s]) hV hA m_ob fR (lv_sub hl [1, 2, 3, 4, 0] rfl)
            exact LP 18 0 x4 S2 M_1 H locs ls rfl (by rw [ex4]; rfl) (by rw [filG_0]; exact (up_id rfl).symm) hV hA m_ob fR (lv_sub hl [3, 4, 2, 1, 0] rfl)
          refine lv_if_ne (tgt := 65) hx hb dX5_play_43 (by decide) (fun c43 => ?_) (fun c43 => ?_)
          · refine lv_iconst (v := 0) hx hb dX5_play_65 (by decide) ?_
            exact J66 _ _ _ (by rw [if_neg c43]) hV
          · refine lv_aload_n hx hb dX5_play_46 rfl (lv_at hl 1 rfl) ?_
            refine mm_get (ci := 5) (C := RX5) (T := TX5) (N := 20) hx hb hts in_X5 hown hK hV i_ob m_ob rfl 0 (by decide) f_7 (fun _ h => h) rfl dX5_play_47 ?_
            refine lv_iload_n hx hb dX5_play_50 rfl (lv_at hl 0 rfl) ?_
            refine mm_Sp (v := (begR x2)) (As := [.int x2]) (rest := [.ref (ad 0)]) ⟨hx, hb, hml, hown, hts⟩ hK hV (c_begR l D dA x2) (va_cwS 1 hts gX5_play_X5_beginning rfl rfl rfl (by decide +kernel) (mm_levR hR (by omega) (by decide))) rfl hl.1 rfl (Nat.le_of_ble_eq_true rfl) dX5_play_51 ⟨Nat.zero_le _, Nat.zero_le _⟩ (fun H locs hV => ?_)
            refine mm_ialdN (j := f9) hx hb hK hV (hA.i 0 rfl) (show M_1 (ad 0) = .inl (dA 0, 108, .inl (S2 0)) from hA.m 0 rfl) (by rw [hk3]; exact hf1) (by omega) (by decide) dX5_play_54 ?_
            refine mm_Sp (v := (kingR ((S2 0) f9))) (As := [.int ((S2 0) f9)]) (rest := []) ⟨hx, hb, hml, hown, hts⟩ hK hV (c_kingR l D dA ((S2 0) f9)) (va_cwS 1 hts gX5_play_X5_isKing rfl rfl rfl (by decide +kernel) (mm_levR hR (by omega) (by decide))) rfl hl.1 rfl (Nat.le_of_ble_eq_true rfl) dX5_play_55 ⟨Nat.zero_le _, Nat.zero_le _⟩ (fun H locs hV => ?_)
            refine lv_if_eq (tgt := 65) hx hb dX5_play_58 (by decide) (fun c58 => ?_) (fun c58 => ?_)
            · refine lv_iconst (v := 0) hx hb dX5_play_65 (by decide) ?_
              exact J66 _ _ _ (by rw [if_pos c43, if_pos c58]) hV
            · refine lv_iconst (v := 1) hx hb dX5_play_61 (by decide) ?_
              refine lv_goto (tgt := 66) hx hb dX5_play_62 (by decide) ?_
              exact J66 _ _ _ (by rw [if_pos c43, if_neg c58]) hV
        · refine lv_iconst (v := (-1)) hx hb dX5_play_30 (by decide) ?_
          exact hret (v := (-1)) dX5_play_31 hV (by decide) (by decide) ⟨rfl, Or.inl ⟨fun h => h.2.2.2 c27, rfl, S2, hG2, hA, m_ob, fR⟩⟩

def undoSR (S : Nat → Nat → Int32) (t : Nat) : Nat → Nat → Int32 := va_up (va_up S 0 (fillF (fun j => S 15 (18 * t + j)) (S 0) 18)) 1 (upd (S 1) 0 (1 - S 1 0))

theorem mm_zr {n : Nat} (h : n < 2 ^ 31) (e : nI n = 0) : n = 0 := (nI_eq h (by decide) (b := 0)).mp e

set_option maxHeartbeats 1000000 in
set_option maxRecDepth 100000 in
theorem c_undoR (l : Launch) (D : va_G) (dA : Nat → ClassId) {L : List Nat} {M : mm_M} {ob : Nat} {ad : Nat → Nat} {S : Nat → Nat → Int32} {pl qu so : Int32} {lt : Nat} (i_ob : ob ∈ L) (m_ob : M ob = rO ad pl qu so) (hA : rA dA L M ad S) (hlt : pl = nI lt) (hlt100 : lt ≤ 100) : mm_Cn l D dA yX5_undo wsX5_undo 0 [.ref ob] L M (fun r M1 => r = (if lt = 0 then 0 else 1) ∧ rA dA L M1 ad (if lt = 0 then S else undoSR S (lt - 1)) ∧ M1 ob = rO ad (if lt = 0 then pl else nI (lt - 1)) (if lt = 0 then qu else S 16 (lt - 1)) so ∧ rF L ad ob M M1) := by
  have hA0 := hA
  have m_ob0 := m_ob
  have fR : rF L ad ob M M := rF.rf
  refine mm_enter_z (cc := cX5_undo) (maxL := 2) (by decide) rfl (Nat.le_of_ble_eq_true rfl) ?_
  intro p e R s m args below meth c A ls H locs Q hR hx hb hml hin hown hts hK hV hl hret
  have hl : lv_has ls 2 [(0, .ref ob)] := hl
  have hown : s.vm.findClass RX5 = some m.cls := hown
  have f_156 := hts (.fieldLink RX5 156 "JumpBoardModel" "played" "I") (by decide +kernel)
  have in_X5 : ∀ w ∈ wsX50, w ∈ wsX5_undo := by decide +kernel
  have f_53 := hts (.fieldLink RX5 53 "JumpBoardModel" "oldQuiet" "[I") (by decide +kernel)
  have f_160 := hts (.fieldLink RX5 160 "JumpBoardModel" "quiet" "I") (by decide +kernel)
  have f_13 := hts (.fieldLink RX5 13 "JumpBoardModel" "mover" "[I") (by decide +kernel)
  have f_7 := hts (.fieldLink RX5 7 "JumpBoardModel" "board" "[I") (by decide +kernel)
  have f_50 := hts (.fieldLink RX5 50 "JumpBoardModel" "oldBoard" "[I") (by decide +kernel)
  refine lv_aload_n hx hb dX5_undo_0 rfl (lv_at hl 0 rfl) ?_
  refine mm_get (ci := 5) (C := RX5) (T := TX5) (N := 20) hx hb hts in_X5 hown hK hV i_ob m_ob rfl 13 (by decide) f_156 (fun _ h => h) rfl dX5_undo_1 ?_
  refine lv_if_ne (tgt := 9) hx hb dX5_undo_4 (by decide) (fun c4 => ?_) (fun c4 => ?_)
  · have hl0 : ¬ lt = 0 := fun h => c4 (by rw [hlt, h]; rfl)
    refine lv_aload_n hx hb dX5_undo_9 rfl (lv_at hl 0 rfl) ?_
    refine lv_dup hx hb dX5_undo_10 rfl ?_
    refine mm_get (ci := 5) (C := RX5) (T := TX5) (N := 20) hx hb hts in_X5 hown hK hV i_ob m_ob rfl 13 (by decide) f_156 (fun _ h => h) rfl dX5_undo_11 ?_
    refine lv_iconst (v := 1) hx hb dX5_undo_14 (by decide) ?_
    refine lv_isub hx hb dX5_undo_15 ?_
    refine lv_topi (fun pl1 epl1 => ?_)
    refine mm_put (ci := 5) (v := .int pl1) (fs' := [.ref (ad 0), .ref (ad 1), .ref (ad 2), .ref (ad 3), .ref (ad 4), .ref (ad 5), .ref (ad 6), .ref (ad 7), .ref (ad 8), .ref (ad 9), .ref (ad 10), .ref (ad 11), .ref (ad 12), .int pl1, .int qu, .ref (ad 15), .ref (ad 16), .int so, .ref (ad 18), .ref (ad 19)]) (ty := .int) (C := RX5) (T := TX5) (N := 20) hx hb hts in_X5 tyX5 tyX5_ok nmX5 hown hK hV i_ob m_ob rfl 13 (by decide) f_156 (fun _ h => h) rfl (by decide +kernel) rfl rfl (Nat.le_of_ble_eq_true rfl) rfl dX5_undo_16 (fun M_1 H locs eM_1 hV => ?_)
    have hA : rA dA L M_1 ad S := hA.ob m_ob eM_1
    have fR : rF L ad ob M M_1 := fR.ob eM_1
    have m_ob : M_1 ob = rO ad pl1 qu so := by rw [eM_1]; exact va_up_self _ _ _
    have hpl1 : pl1 = nI (lt - 1) := by rw [epl1, hlt]; exact mm_pred (by omega)
    refine lv_iconst (v := 0) hx hb dX5_undo_19 (by decide) ?_
    refine lv_topi (fun x1 ex1 => ?_)
    refine lv_istore_n (lv' := [(1, .int x1), (0, .ref ob)]) hx hb dX5_undo_20 rfl hl (by decide) rfl (fun ls hl => ?_)
    have LP : ∀ (k : Nat) (j : Nat) (x1 : Int32) (S1 : Nat → Nat → Int32) (M1 : mm_M) (H : Heap) (locs : List Loc) (ls : Array Slot), j + k = 18 → x1 = nI j → S1 = va_up S 0 (fillF (fun q => S 15 (18 * (lt - 1) + q)) (S 0) j) → mm_V A D L M1 s H locs → rA dA L M1 ad S1 → M1 ob = rO ad pl1 qu so → rF L ad ob M M1 → lv_has ls 2 [(0, .ref ob), (1, .int x1)] → W p l e R s m args below meth c H locs 0 0 Q (F0 m 21 ls []) := by
      intro k
      induction k with
      | zero =>
        intro j x1 S1 M1 H locs ls hjk hx1 hS1 hV hA m_ob fR hl
        refine lv_iload_n hx hb dX5_undo_21 rfl (lv_at hl 1 rfl) ?_
        refine lv_bipush (v := 18) hx hb dX5_undo_22 (by decide) ?_
        refine lv_icmp_ge (tgt := 53) hx hb dX5_undo_24 (by decide) (fun c24 => ?_) (fun c24 => ?_)
        · have hj18 : j = 18 := by omega
          subst hj18
          refine lv_aload_n hx hb dX5_undo_53 rfl (lv_at hl 0 rfl) ?_
          refine lv_aload_n hx hb dX5_undo_54 rfl (lv_at hl 0 rfl) ?_
          refine mm_get (ci := 5) (C := RX5) (T := TX5) (N := 20) hx hb hts in_X5 hown hK hV i_ob m_ob rfl 16 (by decide) f_53 (fun _ h => h) rfl dX5_undo_55 ?_
          refine lv_aload_n hx hb dX5_undo_58 rfl (lv_at hl 0 rfl) ?_
          refine mm_get (ci := 5) (C := RX5) (T := TX5) (N := 20) hx hb hts in_X5 hown hK hV i_ob m_ob rfl 13 (by decide) f_156 (fun _ h => h) rfl dX5_undo_59 ?_
          refine mm_ialdN (j := (lt - 1)) hx hb hK hV (hA.i 16 rfl) (show M1 (ad 16) = .inl (dA 0, 100, .inl (S1 16)) from hA.m 16 rfl) hpl1 (by omega) (by decide) dX5_undo_62 ?_
          refine lv_topi (fun qu1 equ1 => ?_)
          refine mm_put (ci := 5) (v := .int qu1) (fs' := [.ref (ad 0), .ref (ad 1), .ref (ad 2), .ref (ad 3), .ref (ad 4), .ref (ad 5), .ref (ad 6), .ref (ad 7), .ref (ad 8), .ref (ad 9), .ref (ad 10), .ref (ad 11), .ref (ad 12), .int pl1, .int qu1, .ref (ad 15), .ref (ad 16), .int so, .ref (ad 18), .ref (ad 19)]) (ty := .int) (C := RX5) (T := TX5) (N := 20) hx hb hts in_X5 tyX5 tyX5_ok nmX5 hown hK hV i_ob m_ob rfl 14 (by decide) f_160 (fun _ h => h) rfl (by decide +kernel) rfl rfl (Nat.le_of_ble_eq_true rfl) rfl dX5_undo_63 (fun M_2 H locs eM_2 hV => ?_)
          have hA : rA dA L M_2 ad S1 := hA.ob m_ob eM_2
          have fR : rF L ad ob M M_2 := fR.ob eM_2
          have m_ob : M_2 ob = rO ad pl1 qu1 so := by rw [eM_2]; exact va_up_self _ _ _
          refine lv_aload_n hx hb dX5_undo_66 rfl (lv_at hl 0 rfl) ?_
          refine mm_get (ci := 5) (C := RX5) (T := TX5) (N := 20) hx hb hts in_X5 hown hK hV i_ob m_ob rfl 1 (by decide) f_13 (fun _ h => h) rfl dX5_undo_67 ?_
          refine lv_iconst (v := 0) hx hb dX5_undo_70 (by decide) ?_
          refine lv_iconst (v := 1) hx hb dX5_undo_71 (by decide) ?_
          refine lv_aload_n hx hb dX5_undo_72 rfl (lv_at hl 0 rfl) ?_
          refine mm_get (ci := 5) (C := RX5) (T := TX5) (N := 20) hx hb hts in_X5 hown hK hV i_ob m_ob rfl 1 (by decide) f_13 (fun _ h => h) rfl dX5_undo_73 ?_
          refine lv_iconst (v := 0) hx hb dX5_undo_76 (by decide) ?_
          refine mm_ialdN (j := 0) hx hb hK hV (hA.i 1 rfl) (show M_2 (ad 1) = .inl (dA 0, 6, .inl (S1 1)) from hA.m 1 rfl) rfl (by decide) (by decide) dX5_undo_77 ?_
          refine lv_isub hx hb dX5_undo_78 ?_
          refine lv_topi (fun vb evb => ?_)
          refine mm_iastN (j := 0) (x := vb) hx hb hK hV (hA.i 1 rfl) (show M_2 (ad 1) = .inl (dA 0, 6, .inl (S1 1)) from hA.m 1 rfl) rfl (by decide) (by decide) dX5_undo_79 (fun M_3 H locs eM_3 hV => ?_)
          obtain ⟨Sb, eSb⟩ : ∃ z, z = va_up S1 1 (upd (S1 1) 0 vb) := ⟨_, rfl⟩
          have hA : rA dA L M_3 ad Sb := by rw [eSb]; exact hA.up 1 rfl eM_3
          have m_ob : M_3 ob = rO ad pl1 qu1 so := (congrFun eM_3 ob).trans ((va_up_ne _ _ (fun h => hA0.nob 1 rfl m_ob0 h)).trans m_ob)
          have fR : rF L ad ob M M_3 := fR.up 1 rfl eM_3
          refine lv_iconst (v := 1) hx hb dX5_undo_80 (by decide) ?_
          have hqu1 : qu1 = S 16 (lt - 1) := by rw [equ1, hS1, va_up_ne _ _ (by decide)]
          have hfin : Sb = undoSR S (lt - 1) := by unfold undoSR; rw [eSb, evb, hS1, va_up_ne _ _ (by decide)]
          exact hret (v := 1) dX5_undo_81 hV (by decide) (by decide) (by subst_vars; (repeat' split) <;> first | exact Or.inl rfl | exact Or.inr rfl) ⟨rfl, by rw [if_neg hl0], by rw [if_neg hl0, ← hfin]; exact hA, by rw [if_neg hl0, if_neg hl0, ← hpl1, ← hqu1]; exact m_ob, fR⟩
        · exact absurd (by rw [hx1]; exact nI_le (a := 18) (by omega) (by omega)) c24
      | succ k ih =>
        intro j x1 S1 M1 H locs ls hjk hx1 hS1 hV hA m_ob fR hl
        refine lv_iload_n hx hb dX5_undo_21 rfl (lv_at hl 1 rfl) ?_
        refine lv_bipush (v := 18) hx hb dX5_undo_22 (by decide) ?_
        refine lv_icmp_ge (tgt := 53) hx hb dX5_undo_24 (by decide) (fun c24 => ?_) (fun c24 => ?_)
        · exact absurd c24 (by rw [hx1]; exact nI_ge (b := 18) (by omega) (by decide))
        · refine lv_aload_n hx hb dX5_undo_27 rfl (lv_at hl 0 rfl) ?_
          refine mm_get (ci := 5) (C := RX5) (T := TX5) (N := 20) hx hb hts in_X5 hown hK hV i_ob m_ob rfl 0 (by decide) f_7 (fun _ h => h) rfl dX5_undo_28 ?_
          refine lv_iload_n hx hb dX5_undo_31 rfl (lv_at hl 1 rfl) ?_
          refine lv_aload_n hx hb dX5_undo_32 rfl (lv_at hl 0 rfl) ?_
          refine mm_get (ci := 5) (C := RX5) (T := TX5) (N := 20) hx hb hts in_X5 hown hK hV i_ob m_ob rfl 15 (by decide) f_50 (fun _ h => h) rfl dX5_undo_33 ?_
          refine lv_bipush (v := 18) hx hb dX5_undo_36 (by decide) ?_
          refine lv_aload_n hx hb dX5_undo_38 rfl (lv_at hl 0 rfl) ?_
          refine mm_get (ci := 5) (C := RX5) (T := TX5) (N := 20) hx hb hts in_X5 hown hK hV i_ob m_ob rfl 13 (by decide) f_156 (fun _ h => h) rfl dX5_undo_39 ?_
          refine lv_imul hx hb dX5_undo_42 ?_
          refine lv_iload_n hx hb dX5_undo_43 rfl (lv_at hl 1 rfl) ?_
          refine lv_iadd hx hb dX5_undo_44 ?_
          refine mm_ialdN (j := (18 * (lt - 1) + j)) hx hb hK hV (hA.i 15 rfl) (show M1 (ad 15) = .inl (dA 0, 1800, .inl (S1 15)) from hA.m 15 rfl) (ixR (c := 18) rfl hpl1 hx1) (by omega) (by decide) dX5_undo_45 ?_
          refine lv_topi (fun va eva => ?_)
          refine mm_iastN (j := j) (x := va) hx hb hK hV (hA.i 0 rfl) (show M1 (ad 0) = .inl (dA 0, 108, .inl (S1 0)) from hA.m 0 rfl) hx1 (by omega) (by decide) dX5_undo_46 (fun M_4 H locs eM_4 hV => ?_)
          obtain ⟨Sa, eSa⟩ : ∃ z, z = va_up S1 0 (upd (S1 0) j va) := ⟨_, rfl⟩
          have hA : rA dA L M_4 ad Sa := by rw [eSa]; exact hA.up 0 rfl eM_4
          have m_ob : M_4 ob = rO ad pl1 qu so := (congrFun eM_4 ob).trans ((va_up_ne _ _ (fun h => hA0.nob 0 rfl m_ob0 h)).trans m_ob)
          have fR : rF L ad ob M M_4 := fR.up 0 rfl eM_4
          obtain ⟨x1_n, ex1_n⟩ : ∃ y : Int32, y = x1 + 1 := ⟨_, rfl⟩
          refine lv_iinc (v := x1_n) (lv' := [(1, .int x1_n), (0, .ref ob)]) hx hb dX5_undo_47 hl (k := 1) rfl (by rw [ex1_n]; rfl) (by decide) rfl (fun ls hl => ?_)
          refine lv_goto (tgt := 21) hx hb dX5_undo_50 (by decide) ?_
          exact ih (j + 1) x1_n Sa M_4 _ _ ls (by omega) (by rw [ex1_n, hx1]; exact nI_1 j) (by rw [eSa, eva, hS1, va_up_self, bx_uu, va_up_ne _ _ (by decide), ← fillF_s]) hV hA m_ob fR (lv_sub hl [1, 0] rfl)
    exact LP 18 0 x1 S M_1 H locs ls rfl (by rw [ex1]; rfl) (by rw [fillF_0]; exact (up_id rfl).symm) hV hA m_ob fR (lv_sub hl [1, 0] rfl)
  · have hl0 : lt = 0 := mm_zr (by omega) (by rw [← hlt]; exact c4)
    refine lv_iconst (v := 0) hx hb dX5_undo_7 (by decide) ?_
    exact hret (v := 0) dX5_undo_8 hV (by decide) (by decide) (by subst_vars; (repeat' split) <;> first | exact Or.inl rfl | exact Or.inr rfl) ⟨rfl, by rw [if_pos hl0], by rw [if_pos hl0]; exact hA, by rw [if_pos hl0, if_pos hl0]; exact m_ob, fR⟩
