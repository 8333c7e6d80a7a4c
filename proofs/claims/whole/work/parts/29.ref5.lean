def atR (S : Nat → Nat → Int32) (x : Int32) : Int32 := if x < 0 then -1 else if x ≤ 17 then S 0 x.toNatClampNeg else -1
def putKR (x y : Int32) : Int32 := if x < 0 then 0 else if 17 < x then 0 else if y < 0 then 0 else if 4 < y then 0 else
  if y = 1 then (if rowR x = 5 then 0 else (if y = 3 then (if rowR x = 0 then 0 else 1) else 1)) else (if y = 3 then (if rowR x = 0 then 0 else 1) else 1)
def turnKR (x : Int32) : Int32 := if x = 0 then 1 else if x = 1 then 1 else 0
def putSR (S : Nat → Nat → Int32) (x y : Int32) : Nat → Nat → Int32 := va_up S 0 (upd (S 0) x.toNatClampNeg y)
def turnSR (S : Nat → Nat → Int32) (x : Int32) : Nat → Nat → Int32 := va_up S 1 (upd (S 1) 0 x)
/-- the first i places of g hold v -/
def fillF (v : Nat → Int32) (g : Nat → Int32) (i : Nat) : Nat → Int32 := fun q => if q < i then v q else g q
theorem fillF_0 (v g : Nat → Int32) : fillF v g 0 = g := by funext q; unfold fillF; rw [if_neg (by omega)]
theorem fillF_s (v g : Nat → Int32) (i : Nat) : upd (fillF v g i) i (v i) = fillF v g (i + 1) := by
  funext q
  by_cases hq : q = i
  · subst hq; rw [pk_us]; unfold fillF; rw [if_pos (by omega)]
  · rw [pk_un hq]; unfold fillF
    by_cases h : q < i
    · rw [if_pos h, if_pos (by omega)]
    · rw [if_neg h, if_neg (by omega)]
theorem up_id {S : Nat → Nat → Int32} {k : Nat} {f : Nat → Int32} (h : f = S k) : va_up S k f = S := by
  funext q
  by_cases hq : q = k
  · subst hq; rw [va_up_self, h]
  · rw [va_up_ne _ _ hq]
def begV (i : Nat) : Int32 := if 6 ≤ nI i then (if nI i ≤ 11 then 0 else 3) else 1
def clearSR (S : Nat → Nat → Int32) : Nat → Nat → Int32 := va_up (va_up S 0 (fillF (fun _ => 0) (S 0) 18)) 1 (upd (S 1) 0 0)
def beginSR (S : Nat → Nat → Int32) : Nat → Nat → Int32 := va_up (va_up S 0 (fillF begV (S 0) 18)) 1 (upd (S 1) 0 0)

set_option maxHeartbeats 1000000 in
set_option maxRecDepth 100000 in
theorem c_atR (l : Launch) (D : va_G) (dA : Nat → ClassId) {L : List Nat} {M : mm_M} {ob : Nat} {ad : Nat → Nat} {S : Nat → Nat → Int32} {pl qu so : Int32} (x : Int32) (i_ob : ob ∈ L) (m_ob : M ob = rO ad pl qu so) (hA : rA dA L M ad S) : mm_Cp l D dA yX5_at wsX5_at 0 [.ref ob, .int x] L M (atR S x) := by
  have hA0 := hA
  have m_ob0 := m_ob
  have fR : rF L ad ob M M := rF.rf
  refine mm_enter_i (cc := cX5_at) (maxL := 2) (by decide) rfl (Nat.le_of_ble_eq_true rfl) ?_
  intro p e R s m args below meth c A ls H locs Q hR hx hb hml hin hown hts hK hV hl hret
  have hl : lv_has ls 2 [(0, .ref ob), (1, .int x)] := hl
  have hown : s.vm.findClass RX5 = some m.cls := hown
  have f_7 := hts (.fieldLink RX5 7 "JumpBoardModel" "board" "[I") (by decide +kernel)
  have in_X5 : ∀ w ∈ wsX50, w ∈ wsX5_at := by decide +kernel
  refine lv_iload_n hx hb dX5_at_0 rfl (lv_at hl 1 rfl) ?_
  refine lv_if_lt (tgt := 10) hx hb dX5_at_1 (by decide) (fun c1 => ?_) (fun c1 => ?_)
  · refine lv_iconst (v := (-1)) hx hb dX5_at_10 (by decide) ?_
    refine lv_goto (tgt := 20) hx hb dX5_at_11 (by decide) ?_
    exact hret (v := (-1)) dX5_at_20 hV (by decide) (by decide) ⟨by unfold atR; rw [if_pos c1], rfl, rfl⟩
  · obtain ⟨i, hi31, hxi⟩ := nI_of c1
    refine lv_iload_n hx hb dX5_at_4 rfl (lv_at hl 1 rfl) ?_
    refine lv_bipush (v := 17) hx hb dX5_at_5 (by decide) ?_
    refine lv_icmp_le (tgt := 14) hx hb dX5_at_7 (by decide) (fun c7 => ?_) (fun c7 => ?_)
    · have hi : i ≤ 17 := (nI_leI hi31 (by decide)).mp (by rw [← hxi]; exact c7)
      refine lv_aload_n hx hb dX5_at_14 rfl (lv_at hl 0 rfl) ?_
      refine mm_get (ci := 5) (C := RX5) (T := TX5) (N := 20) hx hb hts in_X5 hown hK hV i_ob m_ob rfl 0 (by decide) f_7 (fun _ h => h) rfl dX5_at_15 ?_
      refine lv_iload_n hx hb dX5_at_18 rfl (lv_at hl 1 rfl) ?_
      refine mm_ialdN (j := i) hx hb hK hV (hA.i 0 rfl) (show M (ad 0) = .inl (dA 0, 108, .inl (S 0)) from hA.m 0 rfl) hxi (by omega) (by decide) dX5_at_19 ?_
      exact hret (v := (S 0) i) dX5_at_20 hV (by decide) (by decide) ⟨by unfold atR; rw [if_neg c1, if_pos c7, hxi, nI_clamp hi31], rfl, rfl⟩
    · refine lv_iconst (v := (-1)) hx hb dX5_at_10 (by decide) ?_
      refine lv_goto (tgt := 20) hx hb dX5_at_11 (by decide) ?_
      exact hret (v := (-1)) dX5_at_20 hV (by decide) (by decide) ⟨by unfold atR; rw [if_neg c1, if_neg c7], rfl, rfl⟩

set_option maxHeartbeats 1000000 in
set_option maxRecDepth 100000 in
theorem c_sideFR (l : Launch) (D : va_G) (dA : Nat → ClassId) {L : List Nat} {M : mm_M} {ob : Nat} {ad : Nat → Nat} {S : Nat → Nat → Int32} {pl qu so : Int32} (i_ob : ob ∈ L) (m_ob : M ob = rO ad pl qu so) (hA : rA dA L M ad S) : mm_Cp l D dA yX5_side wsX5_side 0 [.ref ob] L M (S 1 0) := by
  have hA0 := hA
  have m_ob0 := m_ob
  have fR : rF L ad ob M M := rF.rf
  refine mm_enter_i (cc := cX5_side) (maxL := 1) (by decide) rfl (Nat.le_of_ble_eq_true rfl) ?_
  intro p e R s m args below meth c A ls H locs Q hR hx hb hml hin hown hts hK hV hl hret
  have hl : lv_has ls 1 [(0, .ref ob)] := hl
  have hown : s.vm.findClass RX5 = some m.cls := hown
  have f_13 := hts (.fieldLink RX5 13 "JumpBoardModel" "mover" "[I") (by decide +kernel)
  have in_X5 : ∀ w ∈ wsX50, w ∈ wsX5_side := by decide +kernel
  refine lv_aload_n hx hb dX5_side_0 rfl (lv_at hl 0 rfl) ?_
  refine mm_get (ci := 5) (C := RX5) (T := TX5) (N := 20) hx hb hts in_X5 hown hK hV i_ob m_ob rfl 1 (by decide) f_13 (fun _ h => h) rfl dX5_side_1 ?_
  refine lv_iconst (v := 0) hx hb dX5_side_4 (by decide) ?_
  refine mm_ialdN (j := 0) hx hb hK hV (hA.i 1 rfl) (show M (ad 1) = .inl (dA 0, 6, .inl (S 1)) from hA.m 1 rfl) rfl (by decide) (by decide) dX5_side_5 ?_
  exact hret (v := (S 1) 0) dX5_side_6 hV (by decide) (by decide) ⟨rfl, rfl, rfl⟩

set_option maxHeartbeats 1000000 in
set_option maxRecDepth 100000 in
theorem c_playedR (l : Launch) (D : va_G) (dA : Nat → ClassId) {L : List Nat} {M : mm_M} {ob : Nat} {ad : Nat → Nat} {S : Nat → Nat → Int32} {pl qu so : Int32} (i_ob : ob ∈ L) (m_ob : M ob = rO ad pl qu so) (hA : rA dA L M ad S) : mm_Cp l D dA yX5_played wsX5_played 0 [.ref ob] L M pl := by
  have hA0 := hA
  have m_ob0 := m_ob
  have fR : rF L ad ob M M := rF.rf
  refine mm_enter_i (cc := cX5_played) (maxL := 1) (by decide) rfl (Nat.le_of_ble_eq_true rfl) ?_
  intro p e R s m args below meth c A ls H locs Q hR hx hb hml hin hown hts hK hV hl hret
  have hl : lv_has ls 1 [(0, .ref ob)] := hl
  have hown : s.vm.findClass RX5 = some m.cls := hown
  have f_156 := hts (.fieldLink RX5 156 "JumpBoardModel" "played" "I") (by decide +kernel)
  have in_X5 : ∀ w ∈ wsX50, w ∈ wsX5_played := by decide +kernel
  refine lv_aload_n hx hb dX5_played_0 rfl (lv_at hl 0 rfl) ?_
  refine mm_get (ci := 5) (C := RX5) (T := TX5) (N := 20) hx hb hts in_X5 hown hK hV i_ob m_ob rfl 13 (by decide) f_156 (fun _ h => h) rfl dX5_played_1 ?_
  exact hret (v := pl) dX5_played_4 hV (by decide) (by decide) ⟨rfl, rfl, rfl⟩

set_option maxHeartbeats 1000000 in
set_option maxRecDepth 100000 in
theorem c_quietR (l : Launch) (D : va_G) (dA : Nat → ClassId) {L : List Nat} {M : mm_M} {ob : Nat} {ad : Nat → Nat} {S : Nat → Nat → Int32} {pl qu so : Int32} (i_ob : ob ∈ L) (m_ob : M ob = rO ad pl qu so) (hA : rA dA L M ad S) : mm_Cp l D dA yX5_quiet wsX5_quiet 0 [.ref ob] L M qu := by
  have hA0 := hA
  have m_ob0 := m_ob
  have fR : rF L ad ob M M := rF.rf
  refine mm_enter_i (cc := cX5_quiet) (maxL := 1) (by decide) rfl (Nat.le_of_ble_eq_true rfl) ?_
  intro p e R s m args below meth c A ls H locs Q hR hx hb hml hin hown hts hK hV hl hret
  have hl : lv_has ls 1 [(0, .ref ob)] := hl
  have hown : s.vm.findClass RX5 = some m.cls := hown
  have f_160 := hts (.fieldLink RX5 160 "JumpBoardModel" "quiet" "I") (by decide +kernel)
  have in_X5 : ∀ w ∈ wsX50, w ∈ wsX5_quiet := by decide +kernel
  refine lv_aload_n hx hb dX5_quiet_0 rfl (lv_at hl 0 rfl) ?_
  refine mm_get (ci := 5) (C := RX5) (T := TX5) (N := 20) hx hb hts in_X5 hown hK hV i_ob m_ob rfl 14 (by decide) f_160 (fun _ h => h) rfl dX5_quiet_1 ?_
  exact hret (v := qu) dX5_quiet_4 hV (by decide) (by decide) ⟨rfl, rfl, rfl⟩

set_option maxHeartbeats 1000000 in
set_option maxRecDepth 100000 in
theorem c_putR (l : Launch) (D : va_G) (dA : Nat → ClassId) {L : List Nat} {M : mm_M} {ob : Nat} {ad : Nat → Nat} {S : Nat → Nat → Int32} {pl qu so : Int32} (x y : Int32) (i_ob : ob ∈ L) (m_ob : M ob = rO ad pl qu so) (hA : rA dA L M ad S) : mm_Cn l D dA yX5_put wsX5_put 1 [.ref ob, .int x, .int y] L M (fun r M1 => r = putKR x y ∧ rA dA L M1 ad (if putKR x y = 0 then S else putSR S x y) ∧ M1 ob = rO ad (if putKR x y = 0 then pl else 0) (if putKR x y = 0 then qu else 0) so ∧ rF L ad ob M M1) := by
  have hA0 := hA
  have m_ob0 := m_ob
  have fR : rF L ad ob M M := rF.rf
  refine mm_enter_z (cc := cX5_put) (maxL := 3) (by decide) rfl (Nat.le_of_ble_eq_true rfl) ?_
  intro p e R s m args below meth c A ls H locs Q hR hx hb hml hin hown hts hK hV hl hret
  have hl : lv_has ls 3 [(0, .ref ob), (1, .int x), (2, .int y)] := hl
  have hown : s.vm.findClass RX5 = some m.cls := hown
  have f_7 := hts (.fieldLink RX5 7 "JumpBoardModel" "board" "[I") (by decide +kernel)
  have in_X5 : ∀ w ∈ wsX50, w ∈ wsX5_put := by decide +kernel
  have f_156 := hts (.fieldLink RX5 156 "JumpBoardModel" "played" "I") (by decide +kernel)
  have f_160 := hts (.fieldLink RX5 160 "JumpBoardModel" "quiet" "I") (by decide +kernel)
  refine lv_iload_n hx hb dX5_put_0 rfl (lv_at hl 1 rfl) ?_
  refine lv_if_lt (tgt := 44) hx hb dX5_put_1 (by decide) (fun c1 => ?_) (fun c1 => ?_)
  · refine lv_iconst (v := 0) hx hb dX5_put_44 (by decide) ?_
    exact hret (v := 0) dX5_put_45 hV (by decide) (by decide) (by subst_vars; (repeat' split) <;> first | exact Or.inl rfl | exact Or.inr rfl) ⟨rfl, (show putKR x y = 0 from by unfold putKR; rw [if_pos c1]).symm, by rw [if_pos (show putKR x y = 0 from by unfold putKR; rw [if_pos c1])]; exact hA, by rw [if_pos (show putKR x y = 0 from by unfold putKR; rw [if_pos c1]), if_pos (show putKR x y = 0 from by unfold putKR; rw [if_pos c1])]; exact m_ob, fR⟩
  · obtain ⟨i, hi31, hxi⟩ := nI_of c1
    refine lv_iload_n hx hb dX5_put_4 rfl (lv_at hl 1 rfl) ?_
    refine lv_bipush (v := 17) hx hb dX5_put_5 (by decide) ?_
    refine lv_icmp_gt (tgt := 44) hx hb dX5_put_7 (by decide) (fun c7 => ?_) (fun c7 => ?_)
    · refine lv_iconst (v := 0) hx hb dX5_put_44 (by decide) ?_
      exact hret (v := 0) dX5_put_45 hV (by decide) (by decide) (by subst_vars; (repeat' split) <;> first | exact Or.inl rfl | exact Or.inr rfl) ⟨rfl, (show putKR x y = 0 from by unfold putKR; rw [if_neg c1, if_pos c7]).symm, by rw [if_pos (show putKR x y = 0 from by unfold putKR; rw [if_neg c1, if_pos c7])]; exact hA, by rw [if_pos (show putKR x y = 0 from by unfold putKR; rw [if_neg c1, if_pos c7]), if_pos (show putKR x y = 0 from by unfold putKR; rw [if_neg c1, if_pos c7])]; exact m_ob, fR⟩
    · refine lv_iload_n hx hb dX5_put_10 rfl (lv_at hl 2 rfl) ?_
      refine lv_if_lt (tgt := 44) hx hb dX5_put_11 (by decide) (fun c11 => ?_) (fun c11 => ?_)
      · refine lv_iconst (v := 0) hx hb dX5_put_44 (by decide) ?_
        exact hret (v := 0) dX5_put_45 hV (by decide) (by decide) (by subst_vars; (repeat' split) <;> first | exact Or.inl rfl | exact Or.inr rfl) ⟨rfl, (show putKR x y = 0 from by unfold putKR; rw [if_neg c1, if_neg c7, if_pos c11]).symm, by rw [if_pos (show putKR x y = 0 from by unfold putKR; rw [if_neg c1, if_neg c7, if_pos c11])]; exact hA, by rw [if_pos (show putKR x y = 0 from by unfold putKR; rw [if_neg c1, if_neg c7, if_pos c11]), if_pos (show putKR x y = 0 from by unfold putKR; rw [if_neg c1, if_neg c7, if_pos c11])]; exact m_ob, fR⟩
      · refine lv_iload_n hx hb dX5_put_14 rfl (lv_at hl 2 rfl) ?_
        refine lv_iconst (v := 4) hx hb dX5_put_15 (by decide) ?_
        refine lv_icmp_gt (tgt := 44) hx hb dX5_put_16 (by decide) (fun c16 => ?_) (fun c16 => ?_)
        · refine lv_iconst (v := 0) hx hb dX5_put_44 (by decide) ?_
          exact hret (v := 0) dX5_put_45 hV (by decide) (by decide) (by subst_vars; (repeat' split) <;> first | exact Or.inl rfl | exact Or.inr rfl) ⟨rfl, (show putKR x y = 0 from by unfold putKR; rw [if_neg c1, if_neg c7, if_neg c11, if_pos c16]).symm, by rw [if_pos (show putKR x y = 0 from by unfold putKR; rw [if_neg c1, if_neg c7, if_neg c11, if_pos c16])]; exact hA, by rw [if_pos (show putKR x y = 0 from by unfold putKR; rw [if_neg c1, if_neg c7, if_neg c11, if_pos c16]), if_pos (show putKR x y = 0 from by unfold putKR; rw [if_neg c1, if_neg c7, if_neg c11, if_pos c16])]; exact m_ob, fR⟩
        · refine lv_iload_n hx hb dX5_put_19 rfl (lv_at hl 2 rfl) ?_
          refine lv_iconst (v := 1) hx hb dX5_put_20 (by decide) ?_
          refine lv_icmp_ne (tgt := 32) hx hb dX5_put_21 (by decide) (fun c21 => ?_) (fun c21 => ?_)
          · refine lv_iload_n hx hb dX5_put_32 rfl (lv_at hl 2 rfl) ?_
            refine lv_iconst (v := 3) hx hb dX5_put_33 (by decide) ?_
            refine lv_icmp_ne (tgt := 46) hx hb dX5_put_34 (by decide) (fun c34 => ?_) (fun c34 => ?_)
            · have hi : i < 18 := Nat.lt_succ_of_le ((nI_leI hi31 (by decide)).mp (by rw [← hxi]; exact Int32.not_lt.mp c7))
              refine lv_aload_n hx hb dX5_put_46 rfl (lv_at hl 0 rfl) ?_
              refine mm_get (ci := 5) (C := RX5) (T := TX5) (N := 20) hx hb hts in_X5 hown hK hV i_ob m_ob rfl 0 (by decide) f_7 (fun _ h => h) rfl dX5_put_47 ?_
              refine lv_iload_n hx hb dX5_put_50 rfl (lv_at hl 1 rfl) ?_
              refine lv_iload_n hx hb dX5_put_51 rfl (lv_at hl 2 rfl) ?_
              refine mm_iastN (j := i) (x := y) hx hb hK hV (hA.i 0 rfl) (show M (ad 0) = .inl (dA 0, 108, .inl (S 0)) from hA.m 0 rfl) hxi (by omega) (by decide) dX5_put_52 (fun M_1 H locs eM_1 hV => ?_)
              obtain ⟨Sa, eSa⟩ : ∃ z, z = va_up S 0 (upd (S 0) i y) := ⟨_, rfl⟩
              have hA : rA dA L M_1 ad Sa := by rw [eSa]; exact hA.up 0 rfl eM_1
              have m_ob : M_1 ob = rO ad pl qu so := (congrFun eM_1 ob).trans ((va_up_ne _ _ (fun h => hA0.nob 0 rfl m_ob0 h)).trans m_ob)
              have fR : rF L ad ob M M_1 := fR.up 0 rfl eM_1
              refine lv_aload_n hx hb dX5_put_53 rfl (lv_at hl 0 rfl) ?_
              refine lv_iconst (v := 0) hx hb dX5_put_54 (by decide) ?_
              refine mm_put (ci := 5) (v := .int 0) (fs' := [.ref (ad 0), .ref (ad 1), .ref (ad 2), .ref (ad 3), .ref (ad 4), .ref (ad 5), .ref (ad 6), .ref (ad 7), .ref (ad 8), .ref (ad 9), .ref (ad 10), .ref (ad 11), .ref (ad 12), .int 0, .int qu, .ref (ad 15), .ref (ad 16), .int so, .ref (ad 18), .ref (ad 19)]) (ty := .int) (C := RX5) (T := TX5) (N := 20) hx hb hts in_X5 tyX5 tyX5_ok nmX5 hown hK hV i_ob m_ob rfl 13 (by decide) f_156 (fun _ h => h) rfl (by decide +kernel) rfl rfl (Nat.le_of_ble_eq_true rfl) rfl dX5_put_55 (fun M_2 H locs eM_2 hV => ?_)
              have hA : rA dA L M_2 ad Sa := hA.ob m_ob eM_2
              have fR : rF L ad ob M M_2 := fR.ob eM_2
              have m_ob : M_2 ob = rO ad 0 qu so := by rw [eM_2]; exact va_up_self _ _ _
              refine lv_aload_n hx hb dX5_put_58 rfl (lv_at hl 0 rfl) ?_
              refine lv_iconst (v := 0) hx hb dX5_put_59 (by decide) ?_
              refine mm_put (ci := 5) (v := .int 0) (fs' := [.ref (ad 0), .ref (ad 1), .ref (ad 2), .ref (ad 3), .ref (ad 4), .ref (ad 5), .ref (ad 6), .ref (ad 7), .ref (ad 8), .ref (ad 9), .ref (ad 10), .ref (ad 11), .ref (ad 12), .int 0, .int 0, .ref (ad 15), .ref (ad 16), .int so, .ref (ad 18), .ref (ad 19)]) (ty := .int) (C := RX5) (T := TX5) (N := 20) hx hb hts in_X5 tyX5 tyX5_ok nmX5 hown hK hV i_ob m_ob rfl 14 (by decide) f_160 (fun _ h => h) rfl (by decide +kernel) rfl rfl (Nat.le_of_ble_eq_true rfl) rfl dX5_put_60 (fun M_3 H locs eM_3 hV => ?_)
              have hA : rA dA L M_3 ad Sa := hA.ob m_ob eM_3
              have fR : rF L ad ob M M_3 := fR.ob eM_3
              have m_ob : M_3 ob = rO ad 0 0 so := by rw [eM_3]; exact va_up_self _ _ _
              refine lv_iconst (v := 1) hx hb dX5_put_63 (by decide) ?_
              exact hret (v := 1) dX5_put_64 hV (by decide) (by decide) (by subst_vars; (repeat' split) <;> first | exact Or.inl rfl | exact Or.inr rfl) ⟨rfl, (show putKR x y = 1 from by unfold putKR; rw [if_neg c1, if_neg c7, if_neg c11, if_neg c16, if_neg c21, if_neg c34]).symm, by rw [if_neg (by rw [show putKR x y = 1 from by unfold putKR; rw [if_neg c1, if_neg c7, if_neg c11, if_neg c16, if_neg c21, if_neg c34]]; decide)]; exact (show putSR S x y = Sa by unfold putSR; rw [hxi, nI_clamp hi31, eSa]) ▸ hA, by rw [if_neg (by rw [show putKR x y = 1 from by unfold putKR; rw [if_neg c1, if_neg c7, if_neg c11, if_neg c16, if_neg c21, if_neg c34]]; decide), if_neg (by rw [show putKR x y = 1 from by unfold putKR; rw [if_neg c1, if_neg c7, if_neg c11, if_neg c16, if_neg c21, if_neg c34]]; decide)]; exact m_ob, fR⟩
            · refine lv_iload_n hx hb dX5_put_37 rfl (lv_at hl 1 rfl) ?_
              refine mm_Sp (v := (rowR x)) (As := [.int x]) (rest := []) ⟨hx, hb, hml, hown, hts⟩ hK hV (c_rowR l D dA x) (va_cwS 1 hts gX5_put_X5_rowOf rfl rfl rfl (by decide +kernel) (mm_levR hR (by omega) (by decide))) rfl hl.1 rfl (Nat.le_of_ble_eq_true rfl) dX5_put_38 ⟨Nat.zero_le _, Nat.zero_le _⟩ (fun H locs hV => ?_)
              refine lv_if_ne (tgt := 46) hx hb dX5_put_41 (by decide) (fun c41 => ?_) (fun c41 => ?_)
              · have hi : i < 18 := Nat.lt_succ_of_le ((nI_leI hi31 (by decide)).mp (by rw [← hxi]; exact Int32.not_lt.mp c7))
                refine lv_aload_n hx hb dX5_put_46 rfl (lv_at hl 0 rfl) ?_
                refine mm_get (ci := 5) (C := RX5) (T := TX5) (N := 20) hx hb hts in_X5 hown hK hV i_ob m_ob rfl 0 (by decide) f_7 (fun _ h => h) rfl dX5_put_47 ?_
                refine lv_iload_n hx hb dX5_put_50 rfl (lv_at hl 1 rfl) ?_
                refine lv_iload_n hx hb dX5_put_51 rfl (lv_at hl 2 rfl) ?_
                refine mm_iastN (j := i) (x := y) hx hb hK hV (hA.i 0 rfl) (show M (ad 0) = .inl (dA 0, 108, .inl (S 0)) from hA.m 0 rfl) hxi (by omega) (by decide) dX5_put_52 (fun M_4 H locs eM_4 hV => ?_)
                obtain ⟨Sa, eSa⟩ : ∃ z, z = va_up S 0 (upd (S 0) i y) := ⟨_, rfl⟩
                have hA : rA dA L M_4 ad Sa := by rw [eSa]; exact hA.up 0 rfl eM_4
                have m_ob : M_4 ob = rO ad pl qu so := (congrFun eM_4 ob).trans ((va_up_ne _ _ (fun h => hA0.nob 0 rfl m_ob0 h)).trans m_ob)
                have fR : rF L ad ob M M_4 := fR.up 0 rfl eM_4
                refine lv_aload_n hx hb dX5_put_53 rfl (lv_at hl 0 rfl) ?_
                refine lv_iconst (v := 0) hx hb dX5_put_54 (by decide) ?_
                refine mm_put (ci := 5) (v := .int 0) (fs' := [.ref (ad 0), .ref (ad 1), .ref (ad 2), .ref (ad 3), .ref (ad 4), .ref (ad 5), .ref (ad 6), .ref (ad 7), .ref (ad 8), .ref (ad 9), .ref (ad 10), .ref (ad 11), .ref (ad 12), .int 0, .int qu, .ref (ad 15), .ref (ad 16), .int so, .ref (ad 18), .ref (ad 19)]) (ty := .int) (C := RX5) (T := TX5) (N := 20) hx hb hts in_X5 tyX5 tyX5_ok nmX5 hown hK hV i_ob m_ob rfl 13 (by decide) f_156 (fun _ h => h) rfl (by decide +kernel) rfl rfl (Nat.le_of_ble_eq_true rfl) rfl dX5_put_55 (fun M_5 H locs eM_5 hV => ?_)
                have hA : rA dA L M_5 ad Sa := hA.ob m_ob eM_5
                have fR : rF L ad ob M M_5 := fR.ob eM_5
                have m_ob : M_5 ob = rO ad 0 qu so := by rw [eM_5]; exact va_up_self _ _ _
                refine lv_aload_n hx hb dX5_put_58 rfl (lv_at hl 0 rfl) ?_
                refine lv_iconst (v := 0) hx hb dX5_put_59 (by decide) ?_
                refine mm_put (ci := 5) (v := .int 0) (fs' := [.ref (ad 0), .ref (ad 1), .ref (ad 2), .ref (ad 3), .ref (ad 4), .ref (ad 5), .ref (ad 6), .ref (ad 7), .ref (ad 8), .ref (ad 9), .ref (ad 10), .ref (ad 11), .ref (ad 12), .int 0, .int 0, .ref (ad 15), .ref (ad 16), .int so, .ref (ad 18), .ref (ad 19)]) (ty := .int) (C := RX5) (T := TX5) (N := 20) hx hb hts in_X5 tyX5 tyX5_ok nmX5 hown hK hV i_ob m_ob rfl 14 (by decide) f_160 (fun _ h => h) rfl (by decide +kernel) rfl rfl (Nat.le_of_ble_eq_true rfl) rfl dX5_put_60 (fun M_6 H locs eM_6 hV => ?_)
                have hA : rA dA L M_6 ad Sa := hA.ob m_ob eM_6
                have fR : rF L ad ob M M_6 := fR.ob eM_6
                have m_ob : M_6 ob = rO ad 0 0 so := by rw [eM_6]; exact va_up_self _ _ _
                refine lv_iconst (v := 1) hx hb dX5_put_63 (by decide) ?_
                exact hret (v := 1) dX5_put_64 hV (by decide) (by decide) (by subst_vars; (repeat' split) <;> first | exact Or.inl rfl | exact Or.inr rfl) ⟨rfl, (show putKR x y = 1 from by unfold putKR; rw [if_neg c1, if_neg c7, if_neg c11, if_neg c16, if_neg c21, if_pos c34, if_neg c41]).symm, by rw [if_neg (by rw [show putKR x y = 1 from by unfold putKR; rw [if_neg c1, if_neg c7, if_neg c11, if_neg c16, if_neg c21, if_pos c34, if_neg c41]]; decide)]; exact (show putSR S x y = Sa by unfold putSR; rw [hxi, nI_clamp hi31, eSa]) ▸ hA, by rw [if_neg (by rw [show putKR x y = 1 from by unfold putKR; rw [if_neg c1, if_neg c7, if_neg c11, if_neg c16, if_neg c21, if_pos c34, if_neg c41]]; decide), if_neg (by rw [show putKR x y = 1 from by unfold putKR; rw [if_neg c1, if_neg c7, if_neg c11, if_neg c16, if_neg c21, if_pos c34, if_neg c41]]; decide)]; exact m_ob, fR⟩
              · refine lv_iconst (v := 0) hx hb dX5_put_44 (by decide) ?_
                exact hret (v := 0) dX5_put_45 hV (by decide) (by decide) (by subst_vars; (repeat' split) <;> first | exact Or.inl rfl | exact Or.inr rfl) ⟨rfl, (show putKR x y = 0 from by unfold putKR; rw [if_neg c1, if_neg c7, if_neg c11, if_neg c16, if_neg c21, if_pos c34, if_pos c41]).symm, by rw [if_pos (show putKR x y = 0 from by unfold putKR; rw [if_neg c1, if_neg c7, if_neg c11, if_neg c16, if_neg c21, if_pos c34, if_pos c41])]; exact hA, by rw [if_pos (show putKR x y = 0 from by unfold putKR; rw [if_neg c1, if_neg c7, if_neg c11, if_neg c16, if_neg c21, if_pos c34, if_pos c41]), if_pos (show putKR x y = 0 from by unfold putKR; rw [if_neg c1, if_neg c7, if_neg c11, if_neg c16, if_neg c21, if_pos c34, if_pos c41])]; exact m_ob, fR⟩
          · refine lv_iload_n hx hb dX5_put_24 rfl (lv_at hl 1 rfl) ?_
            refine mm_Sp (v := (rowR x)) (As := [.int x]) (rest := []) ⟨hx, hb, hml, hown, hts⟩ hK hV (c_rowR l D dA x) (va_cwS 1 hts gX5_put_X5_rowOf rfl rfl rfl (by decide +kernel) (mm_levR hR (by omega) (by decide))) rfl hl.1 rfl (Nat.le_of_ble_eq_true rfl) dX5_put_25 ⟨Nat.zero_le _, Nat.zero_le _⟩ (fun H locs hV => ?_)
            refine lv_iconst (v := 5) hx hb dX5_put_28 (by decide) ?_
            refine lv_icmp_eq (tgt := 44) hx hb dX5_put_29 (by decide) (fun c29 => ?_) (fun c29 => ?_)
            · refine lv_iconst (v := 0) hx hb dX5_put_44 (by decide) ?_
              exact hret (v := 0) dX5_put_45 hV (by decide) (by decide) (by subst_vars; (repeat' split) <;> first | exact Or.inl rfl | exact Or.inr rfl) ⟨rfl, (show putKR x y = 0 from by unfold putKR; rw [if_neg c1, if_neg c7, if_neg c11, if_neg c16, if_pos c21, if_pos c29]).symm, by rw [if_pos (show putKR x y = 0 from by unfold putKR; rw [if_neg c1, if_neg c7, if_neg c11, if_neg c16, if_pos c21, if_pos c29])]; exact hA, by rw [if_pos (show putKR x y = 0 from by unfold putKR; rw [if_neg c1, if_neg c7, if_neg c11, if_neg c16, if_pos c21, if_pos c29]), if_pos (show putKR x y = 0 from by unfold putKR; rw [if_neg c1, if_neg c7, if_neg c11, if_neg c16, if_pos c21, if_pos c29])]; exact m_ob, fR⟩
            · refine lv_iload_n hx hb dX5_put_32 rfl (lv_at hl 2 rfl) ?_
              refine lv_iconst (v := 3) hx hb dX5_put_33 (by decide) ?_
              refine lv_icmp_ne (tgt := 46) hx hb dX5_put_34 (by decide) (fun c34 => ?_) (fun c34 => ?_)
              · have hi : i < 18 := Nat.lt_succ_of_le ((nI_leI hi31 (by decide)).mp (by rw [← hxi]; exact Int32.not_lt.mp c7))
                refine lv_aload_n hx hb dX5_put_46 rfl (lv_at hl 0 rfl) ?_
                refine mm_get (ci := 5) (C := RX5) (T := TX5) (N := 20) hx hb hts in_X5 hown hK hV i_ob m_ob rfl 0 (by decide) f_7 (fun _ h => h) rfl dX5_put_47 ?_
                refine lv_iload_n hx hb dX5_put_50 rfl (lv_at hl 1 rfl) ?_
                refine lv_iload_n hx hb dX5_put_51 rfl (lv_at hl 2 rfl) ?_
                refine mm_iastN (j := i) (x := y) hx hb hK hV (hA.i 0 rfl) (show M (ad 0) = .inl (dA 0, 108, .inl (S 0)) from hA.m 0 rfl) hxi (by omega) (by decide) dX5_put_52 (fun M_7 H locs eM_7 hV => ?_)
                obtain ⟨Sa, eSa⟩ : ∃ z, z = va_up S 0 (upd (S 0) i y) := ⟨_, rfl⟩
                have hA : rA dA L M_7 ad Sa := by rw [eSa]; exact hA.up 0 rfl eM_7
                have m_ob : M_7 ob = rO ad pl qu so := (congrFun eM_7 ob).trans ((va_up_ne _ _ (fun h => hA0.nob 0 rfl m_ob0 h)).trans m_ob)
                have fR : rF L ad ob M M_7 := fR.up 0 rfl eM_7
                refine lv_aload_n hx hb dX5_put_53 rfl (lv_at hl 0 rfl) ?_
                refine lv_iconst (v := 0) hx hb dX5_put_54 (by decide) ?_
                refine mm_put (ci := 5) (v := .int 0) (fs' := [.ref (ad 0), .ref (ad 1), .ref (ad 2), .ref (ad 3), .ref (ad 4), .ref (ad 5), .ref (ad 6), .ref (ad 7), .ref (ad 8), .ref (ad 9), .ref (ad 10), .ref (ad 11), .ref (ad 12), .int 0, .int qu, .ref (ad 15), .ref (ad 16), .int so, .ref (ad 18), .ref (ad 19)]) (ty := .int) (C := RX5) (T := TX5) (N := 20) hx hb hts in_X5 tyX5 tyX5_ok nmX5 hown hK hV i_ob m_ob rfl 13 (by decide) f_156 (fun _ h => h) rfl (by decide +kernel) rfl rfl (Nat.le_of_ble_eq_true rfl) rfl dX5_put_55 (fun M_8 H locs eM_8 hV => ?_)
                have hA : rA dA L M_8 ad Sa := hA.ob m_ob eM_8
                have fR : rF L ad ob M M_8 := fR.ob eM_8
                have m_ob : M_8 ob = rO ad 0 qu so := by rw [eM_8]; exact va_up_self _ _ _
                refine lv_aload_n hx hb dX5_put_58 rfl (lv_at hl 0 rfl) ?_
                refine lv_iconst (v := 0) hx hb dX5_put_59 (by decide) ?_
                refine mm_put (ci := 5) (v := .int 0) (fs' := [.ref (ad 0), .ref (ad 1), .ref (ad 2), .ref (ad 3), .ref (ad 4), .ref (ad 5), .ref (ad 6), .ref (ad 7), .ref (ad 8), .ref (ad 9), .ref (ad 10), .ref (ad 11), .ref (ad 12), .int 0, .int 0, .ref (ad 15), .ref (ad 16), .int so, .ref (ad 18), .ref (ad 19)]) (ty := .int) (C := RX5) (T := TX5) (N := 20) hx hb hts in_X5 tyX5 tyX5_ok nmX5 hown hK hV i_ob m_ob rfl 14 (by decide) f_160 (fun _ h => h) rfl (by decide +kernel) rfl rfl (Nat.le_of_ble_eq_true rfl) rfl dX5_put_60 (fun M_9 H locs eM_9 hV => ?_)
                have hA : rA dA L M_9 ad Sa := hA.ob m_ob eM_9
                have fR : rF L ad ob M M_9 := fR.ob eM_9
                have m_ob : M_9 ob = rO ad 0 0 so := by rw [eM_9]; exact va_up_self _ _ _
                refine lv_iconst (v := 1) hx hb dX5_put_63 (by decide) ?_
                exact hret (v := 1) dX5_put_64 hV (by decide) (by decide) (by subst_vars; (repeat' split) <;> first | exact Or.inl rfl | exact Or.inr rfl) ⟨rfl, (show putKR x y = 1 from by unfold putKR; rw [if_neg c1, if_neg c7, if_neg c11, if_neg c16, if_pos c21, if_neg c29, if_neg c34]).symm, by rw [if_neg (by rw [show putKR x y = 1 from by unfold putKR; rw [if_neg c1, if_neg c7, if_neg c11, if_neg c16, if_pos c21, if_neg c29, if_neg c34]]; decide)]; exact (show putSR S x y = Sa by unfold putSR; rw [hxi, nI_clamp hi31, eSa]) ▸ hA, by rw [if_neg (by rw [show putKR x y = 1 from by unfold putKR; rw [if_neg c1, if_neg c7, if_neg c11, if_neg c16, if_pos c21, if_neg c29, if_neg c34]]; decide), if_neg (by rw [show putKR x y = 1 from by unfold putKR; rw [if_neg c1, if_neg c7, if_neg c11, if_neg c16, if_pos c21, if_neg c29, if_neg c34]]; decide)]; exact m_ob, fR⟩
              · refine lv_iload_n hx hb dX5_put_37 rfl (lv_at hl 1 rfl) ?_
                refine mm_Sp (v := (rowR x)) (As := [.int x]) (rest := []) ⟨hx, hb, hml, hown, hts⟩ hK hV (c_rowR l D dA x) (va_cwS 1 hts gX5_put_X5_rowOf rfl rfl rfl (by decide +kernel) (mm_levR hR (by omega) (by decide))) rfl hl.1 rfl (Nat.le_of_ble_eq_true rfl) dX5_put_38 ⟨Nat.zero_le _, Nat.zero_le _⟩ (fun H locs hV => ?_)
                refine lv_if_ne (tgt := 46) hx hb dX5_put_41 (by decide) (fun c41 => ?_) (fun c41 => ?_)
                · have hi : i < 18 := Nat.lt_succ_of_le ((nI_leI hi31 (by decide)).mp (by rw [← hxi]; exact Int32.not_lt.mp c7))
                  refine lv_aload_n hx hb dX5_put_46 rfl (lv_at hl 0 rfl) ?_
                  refine mm_get (ci := 5) (C := RX5) (T := TX5) (N := 20) hx hb hts in_X5 hown hK hV i_ob m_ob rfl 0 (by decide) f_7 (fun _ h => h) rfl dX5_put_47 ?_
                  refine lv_iload_n hx hb dX5_put_50 rfl (lv_at hl 1 rfl) ?_
                  refine lv_iload_n hx hb dX5_put_51 rfl (lv_at hl 2 rfl) ?_
                  refine mm_iastN (j := i) (x := y) hx hb hK hV (hA.i 0 rfl) (show M (ad 0) = .inl (dA 0, 108, .inl (S 0)) from hA.m 0 rfl) hxi (by omega) (by decide) dX5_put_52 (fun M_10 H locs eM_10 hV => ?_)
                  obtain ⟨Sa, eSa⟩ : ∃ z, z = va_up S 0 (upd (S 0) i y) := ⟨_, rfl⟩
                  have hA : rA dA L M_10 ad Sa := by rw [eSa]; exact hA.up 0 rfl eM_10
                  have m_ob : M_10 ob = rO ad pl qu so := (congrFun eM_10 ob).trans ((va_up_ne _ _ (fun h => hA0.nob 0 rfl m_ob0 h)).trans m_ob)
                  have fR : rF L ad ob M M_10 := fR.up 0 rfl eM_10
                  refine lv_aload_n hx hb dX5_put_53 rfl (lv_at hl 0 rfl) ?_
                  refine lv_iconst (v := 0) hx hb dX5_put_54 (by decide) ?_
                  refine mm_put (ci := 5) (v := .int 0) (fs' := [.ref (ad 0), .ref (ad 1), .ref (ad 2), .ref (ad 3), .ref (ad 4), .ref (ad 5), .ref (ad 6), .ref (ad 7), .ref (ad 8), .ref (ad 9), .ref (ad 10), .ref (ad 11), .ref (ad 12), .int 0, .int qu, .ref (ad 15), .ref (ad 16), .int so, .ref (ad 18), .ref (ad 19)]) (ty := .int) (C := RX5) (T := TX5) (N := 20) hx hb hts in_X5 tyX5 tyX5_ok nmX5 hown hK hV i_ob m_ob rfl 13 (by decide) f_156 (fun _ h => h) rfl (by decide +kernel) rfl rfl (Nat.le_of_ble_eq_true rfl) rfl dX5_put_55 (fun M_11 H locs eM_11 hV => ?_)
                  have hA : rA dA L M_11 ad Sa := hA.ob m_ob eM_11
                  have fR : rF L ad ob M M_11 := fR.ob eM_11
                  have m_ob : M_11 ob = rO ad 0 qu so := by rw [eM_11]; exact va_up_self _ _ _
                  refine lv_aload_n hx hb dX5_put_58 rfl (lv_at hl 0 rfl) ?_
                  refine lv_iconst (v := 0) hx hb dX5_put_59 (by decide) ?_
                  refine mm_put (ci := 5) (v := .int 0) (fs' := [.ref (ad 0), .ref (ad 1), .ref (ad 2), .ref (ad 3), .ref (ad 4), .ref (ad 5), .ref (ad 6), .ref (ad 7), .ref (ad 8), .ref (ad 9), .ref (ad 10), .ref (ad 11), .ref (ad 12), .int 0, .int 0, .ref (ad 15), .ref (ad 16), .int so, .ref (ad 18), .ref (ad 19)]) (ty := .int) (C := RX5) (T := TX5) (N := 20) hx hb hts in_X5 tyX5 tyX5_ok nmX5 hown hK hV i_ob m_ob rfl 14 (by decide) f_160 (fun _ h => h) rfl (by decide +kernel) rfl rfl (Nat.le_of_ble_eq_true rfl) rfl dX5_put_60 (fun M_12 H locs eM_12 hV => ?_)
                  have hA : rA dA L M_12 ad Sa := hA.ob m_ob eM_12
                  have fR : rF L ad ob M M_12 := fR.ob eM_12
                  have m_ob : M_12 ob = rO ad 0 0 so := by rw [eM_12]; exact va_up_self _ _ _
                  refine lv_iconst (v := 1) hx hb dX5_put_63 (by decide) ?_
                  exact hret (v := 1) dX5_put_64 hV (by decide) (by decide) (by subst_vars; (repeat' split) <;> first | exact Or.inl rfl | exact Or.inr rfl) ⟨rfl, (show putKR x y = 1 from by unfold putKR; rw [if_neg c1, if_neg c7, if_neg c11, if_neg c16, if_pos c21, if_neg c29, if_pos c34, if_neg c41]).symm, by rw [if_neg (by rw [show putKR x y = 1 from by unfold putKR; rw [if_neg c1, if_neg c7, if_neg c11, if_neg c16, if_pos c21, if_neg c29, if_pos c34, if_neg c41]]; decide)]; exact (show putSR S x y = Sa by unfold putSR; rw [hxi, nI_clamp hi31, eSa]) ▸ hA, by rw [if_neg (by rw [show putKR x y = 1 from by unfold putKR; rw [if_neg c1, if_neg c7, if_neg c11, if_neg c16, if_pos c21, if_neg c29, if_pos c34, if_neg c41]]; decide), if_neg (by rw [show putKR x y = 1 from by unfold putKR; rw [if_neg c1, if_neg c7, if_neg c11, if_neg c16, if_pos c21, if_neg c29, if_pos c34, if_neg c41]]; decide)]; exact m_ob, fR⟩
                · refine lv_iconst (v := 0) hx hb dX5_put_44 (by decide) ?_
                  exact hret (v := 0) dX5_put_45 hV (by decide) (by decide) (by subst_vars; (repeat' split) <;> first | exact Or.inl rfl | exact Or.inr rfl) ⟨rfl, (show putKR x y = 0 from by unfold putKR; rw [if_neg c1, if_neg c7, if_neg c11, if_neg c16, if_pos c21, if_neg c29, if_pos c34, if_pos c41]).symm, by rw [if_pos (show putKR x y = 0 from by unfold putKR; rw [if_neg c1, if_neg c7, if_neg c11, if_neg c16, if_pos c21, if_neg c29, if_pos c34, if_pos c41])]; exact hA, by rw [if_pos (show putKR x y = 0 from by unfold putKR; rw [if_neg c1, if_neg c7, if_neg c11, if_neg c16, if_pos c21, if_neg c29, if_pos c34, if_pos c41]), if_pos (show putKR x y = 0 from by unfold putKR; rw [if_neg c1, if_neg c7, if_neg c11, if_neg c16, if_pos c21, if_neg c29, if_pos c34, if_pos c41])]; exact m_ob, fR⟩

set_option maxHeartbeats 1000000 in
set_option maxRecDepth 100000 in
theorem c_turnR (l : Launch) (D : va_G) (dA : Nat → ClassId) {L : List Nat} {M : mm_M} {ob : Nat} {ad : Nat → Nat} {S : Nat → Nat → Int32} {pl qu so : Int32} (x : Int32) (i_ob : ob ∈ L) (m_ob : M ob = rO ad pl qu so) (hA : rA dA L M ad S) : mm_Cn l D dA yX5_turn wsX5_turn 0 [.ref ob, .int x] L M (fun r M1 => r = turnKR x ∧ rA dA L M1 ad (if turnKR x = 0 then S else turnSR S x) ∧ M1 ob = rO ad (if turnKR x = 0 then pl else 0) (if turnKR x = 0 then qu else 0) so ∧ rF L ad ob M M1) := by
  have hA0 := hA
  have m_ob0 := m_ob
  have fR : rF L ad ob M M := rF.rf
  refine mm_enter_z (cc := cX5_turn) (maxL := 2) (by decide) rfl (Nat.le_of_ble_eq_true rfl) ?_
  intro p e R s m args below meth c A ls H locs Q hR hx hb hml hin hown hts hK hV hl hret
  have hl : lv_has ls 2 [(0, .ref ob), (1, .int x)] := hl
  have hown : s.vm.findClass RX5 = some m.cls := hown
  have f_13 := hts (.fieldLink RX5 13 "JumpBoardModel" "mover" "[I") (by decide +kernel)
  have in_X5 : ∀ w ∈ wsX50, w ∈ wsX5_turn := by decide +kernel
  have f_156 := hts (.fieldLink RX5 156 "JumpBoardModel" "played" "I") (by decide +kernel)
  have f_160 := hts (.fieldLink RX5 160 "JumpBoardModel" "quiet" "I") (by decide +kernel)
  refine lv_iload_n hx hb dX5_turn_0 rfl (lv_at hl 1 rfl) ?_
  refine lv_if_eq (tgt := 11) hx hb dX5_turn_1 (by decide) (fun c1 => ?_) (fun c1 => ?_)
  · refine lv_aload_n hx hb dX5_turn_11 rfl (lv_at hl 0 rfl) ?_
    refine mm_get (ci := 5) (C := RX5) (T := TX5) (N := 20) hx hb hts in_X5 hown hK hV i_ob m_ob rfl 1 (by decide) f_13 (fun _ h => h) rfl dX5_turn_12 ?_
    refine lv_iconst (v := 0) hx hb dX5_turn_15 (by decide) ?_
    refine lv_iload_n hx hb dX5_turn_16 rfl (lv_at hl 1 rfl) ?_
    refine mm_iastN (j := 0) (x := x) hx hb hK hV (hA.i 1 rfl) (show M (ad 1) = .inl (dA 0, 6, .inl (S 1)) from hA.m 1 rfl) rfl (by decide) (by decide) dX5_turn_17 (fun M_1 H locs eM_1 hV => ?_)
    obtain ⟨Sa, eSa⟩ : ∃ z, z = va_up S 1 (upd (S 1) 0 x) := ⟨_, rfl⟩
    have hA : rA dA L M_1 ad Sa := by rw [eSa]; exact hA.up 1 rfl eM_1
    have m_ob : M_1 ob = rO ad pl qu so := (congrFun eM_1 ob).trans ((va_up_ne _ _ (fun h => hA0.nob 1 rfl m_ob0 h)).trans m_ob)
    have fR : rF L ad ob M M_1 := fR.up 1 rfl eM_1
    refine lv_aload_n hx hb dX5_turn_18 rfl (lv_at hl 0 rfl) ?_
    refine lv_iconst (v := 0) hx hb dX5_turn_19 (by decide) ?_
    refine mm_put (ci := 5) (v := .int 0) (fs' := [.ref (ad 0), .ref (ad 1), .ref (ad 2), .ref (ad 3), .ref (ad 4), .ref (ad 5), .ref (ad 6), .ref (ad 7), .ref (ad 8), .ref (ad 9), .ref (ad 10), .ref (ad 11), .ref (ad 12), .int 0, .int qu, .ref (ad 15), .ref (ad 16), .int so, .ref (ad 18), .ref (ad 19)]) (ty := .int) (C := RX5) (T := TX5) (N := 20) hx hb hts in_X5 tyX5 tyX5_ok nmX5 hown hK hV i_ob m_ob rfl 13 (by decide) f_156 (fun _ h => h) rfl (by decide +kernel) rfl rfl (Nat.le_of_ble_eq_true rfl) rfl dX5_turn_20 (fun M_2 H locs eM_2 hV => ?_)
    have hA : rA dA L M_2 ad Sa := hA.ob m_ob eM_2
    have fR : rF L ad ob M M_2 := fR.ob eM_2
    have m_ob : M_2 ob = rO ad 0 qu so := by rw [eM_2]; exact va_up_self _ _ _
    refine lv_aload_n hx hb dX5_turn_23 rfl (lv_at hl 0 rfl) ?_
    refine lv_iconst (v := 0) hx hb dX5_turn_24 (by decide) ?_
    refine mm_put (ci := 5) (v := .int 0) (fs' := [.ref (ad 0), .ref (ad 1), .ref (ad 2), .ref (ad 3), .ref (ad 4), .ref (ad 5), .ref (ad 6), .ref (ad 7), .ref (ad 8), .ref (ad 9), .ref (ad 10), .ref (ad 11), .ref (ad 12), .int 0, .int 0, .ref (ad 15), .ref (ad 16), .int so, .ref (ad 18), .ref (ad 19)]) (ty := .int) (C := RX5) (T := TX5) (N := 20) hx hb hts in_X5 tyX5 tyX5_ok nmX5 hown hK hV i_ob m_ob rfl 14 (by decide) f_160 (fun _ h => h) rfl (by decide +kernel) rfl rfl (Nat.le_of_ble_eq_true rfl) rfl dX5_turn_25 (fun M_3 H locs eM_3 hV => ?_)
    have hA : rA dA L M_3 ad Sa := hA.ob m_ob eM_3
    have fR : rF L ad ob M M_3 := fR.ob eM_3
    have m_ob : M_3 ob = rO ad 0 0 so := by rw [eM_3]; exact va_up_self _ _ _
    refine lv_iconst (v := 1) hx hb dX5_turn_28 (by decide) ?_
    exact hret (v := 1) dX5_turn_29 hV (by decide) (by decide) (by subst_vars; (repeat' split) <;> first | exact Or.inl rfl | exact Or.inr rfl) ⟨rfl, (show turnKR x = 1 from by unfold turnKR; rw [if_pos c1]).symm, by rw [if_neg (by rw [show turnKR x = 1 from by unfold turnKR; rw [if_pos c1]]; decide)]; exact (show turnSR S x = Sa by unfold turnSR; rw [eSa]) ▸ hA, by rw [if_neg (by rw [show turnKR x = 1 from by unfold turnKR; rw [if_pos c1]]; decide), if_neg (by rw [show turnKR x = 1 from by unfold turnKR; rw [if_pos c1]]; decide)]; exact m_ob, fR⟩
  · refine lv_iload_n hx hb dX5_turn_4 rfl (lv_at hl 1 rfl) ?_
    refine lv_iconst (v := 1) hx hb dX5_turn_5 (by decide) ?_
    refine lv_icmp_eq (tgt := 11) hx hb dX5_turn_6 (by decide) (fun c6 => ?_) (fun c6 => ?_)
    · refine lv_aload_n hx hb dX5_turn_11 rfl (lv_at hl 0 rfl) ?_
      refine mm_get (ci := 5) (C := RX5) (T := TX5) (N := 20) hx hb hts in_X5 hown hK hV i_ob m_ob rfl 1 (by decide) f_13 (fun _ h => h) rfl dX5_turn_12 ?_
      refine lv_iconst (v := 0) hx hb dX5_turn_15 (by decide) ?_
      refine lv_iload_n hx hb dX5_turn_16 rfl (lv_at hl 1 rfl) ?_
      refine mm_iastN (j := 0) (x := x) hx hb hK hV (hA.i 1 rfl) (show M (ad 1) = .inl (dA 0, 6, .inl (S 1)) from hA.m 1 rfl) rfl (by decide) (by decide) dX5_turn_17 (fun M_4 H locs eM_4 hV => ?_)
      obtain ⟨Sa, eSa⟩ : ∃ z, z = va_up S 1 (upd (S 1) 0 x) := ⟨_, rfl⟩
      have hA : rA dA L M_4 ad Sa := by rw [eSa]; exact hA.up 1 rfl eM_4
      have m_ob : M_4 ob = rO ad pl qu so := (congrFun eM_4 ob).trans ((va_up_ne _ _ (fun h => hA0.nob 1 rfl m_ob0 h)).trans m_ob)
      have fR : rF L ad ob M M_4 := fR.up 1 rfl eM_4
      refine lv_aload_n hx hb dX5_turn_18 rfl (lv_at hl 0 rfl) ?_
      refine lv_iconst (v := 0) hx hb dX5_turn_19 (by decide) ?_
      refine mm_put (ci := 5) (v := .int 0) (fs' := [.ref (ad 0), .ref (ad 1), .ref (ad 2), .ref (ad 3), .ref (ad 4), .ref (ad 5), .ref (ad 6), .ref (ad 7), .ref (ad 8), .ref (ad 9), .ref (ad 10), .ref (ad 11), .ref (ad 12), .int 0, .int qu, .ref (ad 15), .ref (ad 16), .int so, .ref (ad 18), .ref (ad 19)]) (ty := .int) (C := RX5) (T := TX5) (N := 20) hx hb hts in_X5 tyX5 tyX5_ok nmX5 hown hK hV i_ob m_ob rfl 13 (by decide) f_156 (fun _ h => h) rfl (by decide +kernel) rfl rfl (Nat.le_of_ble_eq_true rfl) rfl dX5_turn_20 (fun M_5 H locs eM_5 hV => ?_)
      have hA : rA dA L M_5 ad Sa := hA.ob m_ob eM_5
      have fR : rF L ad ob M M_5 := fR.ob eM_5
      have m_ob : M_5 ob = rO ad 0 qu so := by rw [eM_5]; exact va_up_self _ _ _
      refine lv_aload_n hx hb dX5_turn_23 rfl (lv_at hl 0 rfl) ?_
      refine lv_iconst (v := 0) hx hb dX5_turn_24 (by decide) ?_
      refine mm_put (ci := 5) (v := .int 0) (fs' := [.ref (ad 0), .ref (ad 1), .ref (ad 2), .ref (ad 3), .ref (ad 4), .ref (ad 5), .ref (ad 6), .ref (ad 7), .ref (ad 8), .ref (ad 9), .ref (ad 10), .ref (ad 11), .ref (ad 12), .int 0, .int 0, .ref (ad 15), .ref (ad 16), .int so, .ref (ad 18), .ref (ad 19)]) (ty := .int) (C := RX5) (T := TX5) (N := 20) hx hb hts in_X5 tyX5 tyX5_ok nmX5 hown hK hV i_ob m_ob rfl 14 (by decide) f_160 (fun _ h => h) rfl (by decide +kernel) rfl rfl (Nat.le_of_ble_eq_true rfl) rfl dX5_turn_25 (fun M_6 H locs eM_6 hV => ?_)
      have hA : rA dA L M_6 ad Sa := hA.ob m_ob eM_6
      have fR : rF L ad ob M M_6 := fR.ob eM_6
      have m_ob : M_6 ob = rO ad 0 0 so := by rw [eM_6]; exact va_up_self _ _ _
      refine lv_iconst (v := 1) hx hb dX5_turn_28 (by decide) ?_
      exact hret (v := 1) dX5_turn_29 hV (by decide) (by decide) (by subst_vars; (repeat' split) <;> first | exact Or.inl rfl | exact Or.inr rfl) ⟨rfl, (show turnKR x = 1 from by unfold turnKR; rw [if_neg c1, if_pos c6]).symm, by rw [if_neg (by rw [show turnKR x = 1 from by unfold turnKR; rw [if_neg c1, if_pos c6]]; decide)]; exact (show turnSR S x = Sa by unfold turnSR; rw [eSa]) ▸ hA, by rw [if_neg (by rw [show turnKR x = 1 from by unfold turnKR; rw [if_neg c1, if_pos c6]]; decide), if_neg (by rw [show turnKR x = 1 from by unfold turnKR; rw [if_neg c1, if_pos c6]]; decide)]; exact m_ob, fR⟩
    · refine lv_iconst (v := 0) hx hb dX5_turn_9 (by decide) ?_
      exact hret (v := 0) dX5_turn_10 hV (by decide) (by decide) (by subst_vars; (repeat' split) <;> first | exact Or.inl rfl | exact Or.inr rfl) ⟨rfl, (show turnKR x = 0 from by unfold turnKR; rw [if_neg c1, if_neg c6]).symm, by rw [if_pos (show turnKR x = 0 from by unfold turnKR; rw [if_neg c1, if_neg c6])]; exact hA, by rw [if_pos (show turnKR x = 0 from by unfold turnKR; rw [if_neg c1, if_neg c6]), if_pos (show turnKR x = 0 from by unfold turnKR; rw [if_neg c1, if_neg c6])]; exact m_ob, fR⟩

set_option maxHeartbeats 1000000 in
set_option maxRecDepth 100000 in
theorem c_clearR (l : Launch) (D : va_G) (dA : Nat → ClassId) {L : List Nat} {M : mm_M} {ob : Nat} {ad : Nat → Nat} {S : Nat → Nat → Int32} {pl qu so : Int32} (i_ob : ob ∈ L) (m_ob : M ob = rO ad pl qu so) (hA : rA dA L M ad S) : mm_Cm l D dA yX5_clear wsX5_clear 0 [.ref ob] L M (fun M1 => rA dA L M1 ad (clearSR S) ∧ M1 ob = rO ad 0 0 so ∧ rF L ad ob M M1) := by
  have hA0 := hA
  have m_ob0 := m_ob
  have fR : rF L ad ob M M := rF.rf
  refine mm_enter_v (cc := cX5_clear) (maxL := 2) (by decide) rfl (Nat.le_of_ble_eq_true rfl) ?_
  intro p e R s m args below meth c A ls H locs Q hR hx hb hml hin hown hts hK hV hl hret
  have hl : lv_has ls 2 [(0, .ref ob)] := hl
  have hown : s.vm.findClass RX5 = some m.cls := hown
  have f_13 := hts (.fieldLink RX5 13 "JumpBoardModel" "mover" "[I") (by decide +kernel)
  have in_X5 : ∀ w ∈ wsX50, w ∈ wsX5_clear := by decide +kernel
  have f_156 := hts (.fieldLink RX5 156 "JumpBoardModel" "played" "I") (by decide +kernel)
  have f_160 := hts (.fieldLink RX5 160 "JumpBoardModel" "quiet" "I") (by decide +kernel)
  have f_7 := hts (.fieldLink RX5 7 "JumpBoardModel" "board" "[I") (by decide +kernel)
  refine lv_iconst (v := 0) hx hb dX5_clear_0 (by decide) ?_
  refine lv_topi (fun x1 ex1 => ?_)
  refine lv_istore_n (lv' := [(1, .int x1), (0, .ref ob)]) hx hb dX5_clear_1 rfl hl (by decide) rfl (fun ls hl => ?_)
  have LP : ∀ (k i : Nat) (x1 : Int32) (S1 : Nat → Nat → Int32) (M1 : mm_M) (H : Heap) (locs : List Loc) (ls : Array Slot), i + k = 18 → x1 = nI i → S1 = va_up S 0 (fillF (fun _ => 0) (S 0) i) → mm_V A D L M1 s H locs → rA dA L M1 ad S1 → M1 ob = rO ad pl qu so → rF L ad ob M M1 → lv_has ls 2 [(0, .ref ob), (1, .int x1)] → W p l e R s m args below meth c H locs 0 0 Q (F0 m 2 ls []) := by
    intro k
    induction k with
    | zero =>
      intro i x1 S1 M1 H locs ls hik hx1 hS1 hV hA m_ob fR hl
      refine lv_iload_n hx hb dX5_clear_2 rfl (lv_at hl 1 rfl) ?_
      refine lv_bipush (v := 18) hx hb dX5_clear_3 (by decide) ?_
      refine lv_icmp_ge (tgt := 21) hx hb dX5_clear_5 (by decide) (fun c5 => ?_) (fun c5 => ?_)
      · have hi : i = 18 := by omega
        subst hi
        refine lv_aload_n hx hb dX5_clear_21 rfl (lv_at hl 0 rfl) ?_
        refine mm_get (ci := 5) (C := RX5) (T := TX5) (N := 20) hx hb hts in_X5 hown hK hV i_ob m_ob rfl 1 (by decide) f_13 (fun _ h => h) rfl dX5_clear_22 ?_
        refine lv_iconst (v := 0) hx hb dX5_clear_25 (by decide) ?_
        refine lv_iconst (v := 0) hx hb dX5_clear_26 (by decide) ?_
        refine mm_iastN (j := 0) (x := 0) hx hb hK hV (hA.i 1 rfl) (show M1 (ad 1) = .inl (dA 0, 6, .inl (S1 1)) from hA.m 1 rfl) rfl (by decide) (by decide) dX5_clear_27 (fun M_1 H locs eM_1 hV => ?_)
        obtain ⟨Sb, eSb⟩ : ∃ z, z = va_up S1 1 (upd (S1 1) 0 0) := ⟨_, rfl⟩
        have hA : rA dA L M_1 ad Sb := by rw [eSb]; exact hA.up 1 rfl eM_1
        have m_ob : M_1 ob = rO ad pl qu so := (congrFun eM_1 ob).trans ((va_up_ne _ _ (fun h => hA0.nob 1 rfl m_ob0 h)).trans m_ob)
        have fR : rF L ad ob M M_1 := fR.up 1 rfl eM_1
        refine lv_aload_n hx hb dX5_clear_28 rfl (lv_at hl 0 rfl) ?_
        refine lv_iconst (v := 0) hx hb dX5_clear_29 (by decide) ?_
        refine mm_put (ci := 5) (v := .int 0) (fs' := [.ref (ad 0), .ref (ad 1), .ref (ad 2), .ref (ad 3), .ref (ad 4), .ref (ad 5), .ref (ad 6), .ref (ad 7), .ref (ad 8), .ref (ad 9), .ref (ad 10), .ref (ad 11), .ref (ad 12), .int 0, .int qu, .ref (ad 15), .ref (ad 16), .int so, .ref (ad 18), .ref (ad 19)]) (ty := .int) (C := RX5) (T := TX5) (N := 20) hx hb hts in_X5 tyX5 tyX5_ok nmX5 hown hK hV i_ob m_ob rfl 13 (by decide) f_156 (fun _ h => h) rfl (by decide +kernel) rfl rfl (Nat.le_of_ble_eq_true rfl) rfl dX5_clear_30 (fun M_2 H locs eM_2 hV => ?_)
        have hA : rA dA L M_2 ad Sb := hA.ob m_ob eM_2
        have fR : rF L ad ob M M_2 := fR.ob eM_2
        have m_ob : M_2 ob = rO ad 0 qu so := by rw [eM_2]; exact va_up_self _ _ _
        refine lv_aload_n hx hb dX5_clear_33 rfl (lv_at hl 0 rfl) ?_
        refine lv_iconst (v := 0) hx hb dX5_clear_34 (by decide) ?_
        refine mm_put (ci := 5) (v := .int 0) (fs' := [.ref (ad 0), .ref (ad 1), .ref (ad 2), .ref (ad 3), .ref (ad 4), .ref (ad 5), .ref (ad 6), .ref (ad 7), .ref (ad 8), .ref (ad 9), .ref (ad 10), .ref (ad 11), .ref (ad 12), .int 0, .int 0, .ref (ad 15), .ref (ad 16), .int so, .ref (ad 18), .ref (ad 19)]) (ty := .int) (C := RX5) (T := TX5) (N := 20) hx hb hts in_X5 tyX5 tyX5_ok nmX5 hown hK hV i_ob m_ob rfl 14 (by decide) f_160 (fun _ h => h) rfl (by decide +kernel) rfl rfl (Nat.le_of_ble_eq_true rfl) rfl dX5_clear_35 (fun M_3 H locs eM_3 hV => ?_)
        have hA : rA dA L M_3 ad Sb := hA.ob m_ob eM_3
        have fR : rF L ad ob M M_3 := fR.ob eM_3
        have m_ob : M_3 ob = rO ad 0 0 so := by rw [eM_3]; exact va_up_self _ _ _
        exact hret dX5_clear_38 hV (by decide) (by decide) ⟨rfl, (show clearSR S = Sb by unfold clearSR; rw [eSb, hS1, va_up_ne _ _ (by decide)]) ▸ hA, m_ob, fR⟩
      · exact absurd (by rw [hx1]; exact nI_le (a := 18) (by omega) (by omega)) c5
    | succ k ih =>
      intro i x1 S1 M1 H locs ls hik hx1 hS1 hV hA m_ob fR hl
      refine lv_iload_n hx hb dX5_clear_2 rfl (lv_at hl 1 rfl) ?_
      refine lv_bipush (v := 18) hx hb dX5_clear_3 (by decide) ?_
      refine lv_icmp_ge (tgt := 21) hx hb dX5_clear_5 (by decide) (fun c5 => ?_) (fun c5 => ?_)
      · exact absurd c5 (by rw [hx1]; exact nI_ge (b := 18) (by omega) (by decide))
      · refine lv_aload_n hx hb dX5_clear_8 rfl (lv_at hl 0 rfl) ?_
        refine mm_get (ci := 5) (C := RX5) (T := TX5) (N := 20) hx hb hts in_X5 hown hK hV i_ob m_ob rfl 0 (by decide) f_7 (fun _ h => h) rfl dX5_clear_9 ?_
        refine lv_iload_n hx hb dX5_clear_12 rfl (lv_at hl 1 rfl) ?_
        refine lv_iconst (v := 0) hx hb dX5_clear_13 (by decide) ?_
        refine mm_iastN (j := i) (x := 0) hx hb hK hV (hA.i 0 rfl) (show M1 (ad 0) = .inl (dA 0, 108, .inl (S1 0)) from hA.m 0 rfl) hx1 (by omega) (by decide) dX5_clear_14 (fun M_4 H locs eM_4 hV => ?_)
        obtain ⟨Sa, eSa⟩ : ∃ z, z = va_up S1 0 (upd (S1 0) i 0) := ⟨_, rfl⟩
        have hA : rA dA L M_4 ad Sa := by rw [eSa]; exact hA.up 0 rfl eM_4
        have m_ob : M_4 ob = rO ad pl qu so := (congrFun eM_4 ob).trans ((va_up_ne _ _ (fun h => hA0.nob 0 rfl m_ob0 h)).trans m_ob)
        have fR : rF L ad ob M M_4 := fR.up 0 rfl eM_4
        obtain ⟨x1_n, ex1_n⟩ : ∃ y : Int32, y = x1 + 1 := ⟨_, rfl⟩
        refine lv_iinc (v := x1_n) (lv' := [(1, .int x1_n), (0, .ref ob)]) hx hb dX5_clear_15 hl (k := 1) rfl (by rw [ex1_n]; rfl) (by decide) rfl (fun ls hl => ?_)
        refine lv_goto (tgt := 2) hx hb dX5_clear_18 (by decide) ?_
        exact ih (i + 1) x1_n Sa M_4 _ _ ls (by omega) (by rw [ex1_n, hx1]; exact nI_1 i) (by rw [eSa, hS1, va_up_self, bx_uu, ← fillF_s]) hV hA m_ob fR (lv_sub hl [1, 0] rfl)
  exact LP 18 0 x1 S M H locs ls rfl (by rw [ex1]; rfl) (by rw [fillF_0]; exact (up_id rfl).symm) hV hA m_ob fR (lv_sub hl [1, 0] rfl)

set_option maxHeartbeats 1000000 in
set_option maxRecDepth 100000 in
theorem c_beginR (l : Launch) (D : va_G) (dA : Nat → ClassId) {L : List Nat} {M : mm_M} {ob : Nat} {ad : Nat → Nat} {S : Nat → Nat → Int32} {pl qu so : Int32} (i_ob : ob ∈ L) (m_ob : M ob = rO ad pl qu so) (hA : rA dA L M ad S) : mm_Cm l D dA yX5_begin wsX5_begin 0 [.ref ob] L M (fun M1 => rA dA L M1 ad (beginSR S) ∧ M1 ob = rO ad 0 0 so ∧ rF L ad ob M M1) := by
  have hA0 := hA
  have m_ob0 := m_ob
  have fR : rF L ad ob M M := rF.rf
  refine mm_enter_v (cc := cX5_begin) (maxL := 2) (by decide) rfl (Nat.le_of_ble_eq_true rfl) ?_
  intro p e R s m args below meth c A ls H locs Q hR hx hb hml hin hown hts hK hV hl hret
  have hl : lv_has ls 2 [(0, .ref ob)] := hl
  have hown : s.vm.findClass RX5 = some m.cls := hown
  have f_13 := hts (.fieldLink RX5 13 "JumpBoardModel" "mover" "[I") (by decide +kernel)
  have in_X5 : ∀ w ∈ wsX50, w ∈ wsX5_begin := by decide +kernel
  have f_156 := hts (.fieldLink RX5 156 "JumpBoardModel" "played" "I") (by decide +kernel)
  have f_160 := hts (.fieldLink RX5 160 "JumpBoardModel" "quiet" "I") (by decide +kernel)
  have f_7 := hts (.fieldLink RX5 7 "JumpBoardModel" "board" "[I") (by decide +kernel)
  refine lv_iconst (v := 0) hx hb dX5_begin_0 (by decide) ?_
  refine lv_topi (fun x1 ex1 => ?_)
  refine lv_istore_n (lv' := [(1, .int x1), (0, .ref ob)]) hx hb dX5_begin_1 rfl hl (by decide) rfl (fun ls hl => ?_)
  have LP : ∀ (k i : Nat) (x1 : Int32) (S1 : Nat → Nat → Int32) (M1 : mm_M) (H : Heap) (locs : List Loc) (ls : Array Slot), i + k = 18 → x1 = nI i → S1 = va_up S 0 (fillF begV (S 0) i) → mm_V A D L M1 s H locs → rA dA L M1 ad S1 → M1 ob = rO ad pl qu so → rF L ad ob M M1 → lv_has ls 2 [(0, .ref ob), (1, .int x1)] → W p l e R s m args below meth c H locs 0 0 Q (F0 m 2 ls []) := by
    intro k
    induction k with
    | zero =>
      intro i x1 S1 M1 H locs ls hik hx1 hS1 hV hA m_ob fR hl
      refine lv_iload_n hx hb dX5_begin_2 rfl (lv_at hl 1 rfl) ?_
      refine lv_bipush (v := 18) hx hb dX5_begin_3 (by decide) ?_
      refine lv_icmp_ge (tgt := 41) hx hb dX5_begin_5 (by decide) (fun c5 => ?_) (fun c5 => ?_)
      · have hi : i = 18 := by omega
        subst hi
        refine lv_aload_n hx hb dX5_begin_41 rfl (lv_at hl 0 rfl) ?_
        refine mm_get (ci := 5) (C := RX5) (T := TX5) (N := 20) hx hb hts in_X5 hown hK hV i_ob m_ob rfl 1 (by decide) f_13 (fun _ h => h) rfl dX5_begin_42 ?_
        refine lv_iconst (v := 0) hx hb dX5_begin_45 (by decide) ?_
        refine lv_iconst (v := 0) hx hb dX5_begin_46 (by decide) ?_
        refine mm_iastN (j := 0) (x := 0) hx hb hK hV (hA.i 1 rfl) (show M1 (ad 1) = .inl (dA 0, 6, .inl (S1 1)) from hA.m 1 rfl) rfl (by decide) (by decide) dX5_begin_47 (fun M_1 H locs eM_1 hV => ?_)
        obtain ⟨Sb, eSb⟩ : ∃ z, z = va_up S1 1 (upd (S1 1) 0 0) := ⟨_, rfl⟩
        have hA : rA dA L M_1 ad Sb := by rw [eSb]; exact hA.up 1 rfl eM_1
        have m_ob : M_1 ob = rO ad pl qu so := (congrFun eM_1 ob).trans ((va_up_ne _ _ (fun h => hA0.nob 1 rfl m_ob0 h)).trans m_ob)
        have fR : rF L ad ob M M_1 := fR.up 1 rfl eM_1
        refine lv_aload_n hx hb dX5_begin_48 rfl (lv_at hl 0 rfl) ?_
        refine lv_iconst (v := 0) hx hb dX5_begin_49 (by decide) ?_
        refine mm_put (ci := 5) (v := .int 0) (fs' := [.ref (ad 0), .ref (ad 1), .ref (ad 2), .ref (ad 3), .ref (ad 4), .ref (ad 5), .ref (ad 6), .ref (ad 7), .ref (ad 8), .ref (ad 9), .ref (ad 10), .ref (ad 11), .ref (ad 12), .int 0, .int qu, .ref (ad 15), .ref (ad 16), .int so, .ref (ad 18), .ref (ad 19)]) (ty := .int) (C := RX5) (T := TX5) (N := 20) hx hb hts in_X5 tyX5 tyX5_ok nmX5 hown hK hV i_ob m_ob rfl 13 (by decide) f_156 (fun _ h => h) rfl (by decide +kernel) rfl rfl (Nat.le_of_ble_eq_true rfl) rfl dX5_begin_50 (fun M_2 H locs eM_2 hV => ?_)
        have hA : rA dA L M_2 ad Sb := hA.ob m_ob eM_2
        have fR : rF L ad ob M M_2 := fR.ob eM_2
        have m_ob : M_2 ob = rO ad 0 qu so := by rw [eM_2]; exact va_up_self _ _ _
        refine lv_aload_n hx hb dX5_begin_53 rfl (lv_at hl 0 rfl) ?_
        refine lv_iconst (v := 0) hx hb dX5_begin_54 (by decide) ?_
        refine mm_put (ci := 5) (v := .int 0) (fs' := [.ref (ad 0), .ref (ad 1), .ref (ad 2), .ref (ad 3), .ref (ad 4), .ref (ad 5), .ref (ad 6), .ref (ad 7), .ref (ad 8), .ref (ad 9), .ref (ad 10), .ref (ad 11), .ref (ad 12), .int 0, .int 0, .ref (ad 15), .ref (ad 16), .int so, .ref (ad 18), .ref (ad 19)]) (ty := .int) (C := RX5) (T := TX5) (N := 20) hx hb hts in_X5 tyX5 tyX5_ok nmX5 hown hK hV i_ob m_ob rfl 14 (by decide) f_160 (fun _ h => h) rfl (by decide +kernel) rfl rfl (Nat.le_of_ble_eq_true rfl) rfl dX5_begin_55 (fun M_3 H locs eM_3 hV => ?_)
        have hA : rA dA L M_3 ad Sb := hA.ob m_ob eM_3
        have fR : rF L ad ob M M_3 := fR.ob eM_3
        have m_ob : M_3 ob = rO ad 0 0 so := by rw [eM_3]; exact va_up_self _ _ _
        exact hret dX5_begin_58 hV (by decide) (by decide) ⟨rfl, (show beginSR S = Sb by unfold beginSR; rw [eSb, hS1, va_up_ne _ _ (by decide)]) ▸ hA, m_ob, fR⟩
      · exact absurd (by rw [hx1]; exact nI_le (a := 18) (by omega) (by omega)) c5
    | succ k ih =>
      intro i x1 S1 M1 H locs ls hik hx1 hS1 hV hA m_ob fR hl
      refine lv_iload_n hx hb dX5_begin_2 rfl (lv_at hl 1 rfl) ?_
      refine lv_bipush (v := 18) hx hb dX5_begin_3 (by decide) ?_
      refine lv_icmp_ge (tgt := 41) hx hb dX5_begin_5 (by decide) (fun c5 => ?_) (fun c5 => ?_)
      · exact absurd c5 (by rw [hx1]; exact nI_ge (b := 18) (by omega) (by decide))
      · refine lv_aload_n hx hb dX5_begin_8 rfl (lv_at hl 0 rfl) ?_
        refine mm_get (ci := 5) (C := RX5) (T := TX5) (N := 20) hx hb hts in_X5 hown hK hV i_ob m_ob rfl 0 (by decide) f_7 (fun _ h => h) rfl dX5_begin_9 ?_
        refine lv_iload_n hx hb dX5_begin_12 rfl (lv_at hl 1 rfl) ?_
        refine lv_iload_n hx hb dX5_begin_13 rfl (lv_at hl 1 rfl) ?_
        refine lv_bipush (v := 6) hx hb dX5_begin_14 (by decide) ?_
        have J34 : ∀ (v34 : Int32), v34 = (if 6 ≤ x1 then (if x1 ≤ 11 then 0 else 3) else 1) → W p l e R s m args below meth c H locs 0 0 Q (F0 m 34 ls [.int v34, .int x1, .ref (ad 0)]) := by
          intro v34 ev34
          refine mm_iastN (j := i) (x := v34) hx hb hK hV (hA.i 0 rfl) (show M1 (ad 0) = .inl (dA 0, 108, .inl (S1 0)) from hA.m 0 rfl) hx1 (by omega) (by decide) dX5_begin_34 (fun M_4 H locs eM_4 hV => ?_)
          obtain ⟨Sa, eSa⟩ : ∃ z, z = va_up S1 0 (upd (S1 0) i v34) := ⟨_, rfl⟩
          have hA : rA dA L M_4 ad Sa := by rw [eSa]; exact hA.up 0 rfl eM_4
          have m_ob : M_4 ob = rO ad pl qu so := (congrFun eM_4 ob).trans ((va_up_ne _ _ (fun h => hA0.nob 0 rfl m_ob0 h)).trans m_ob)
          have fR : rF L ad ob M M_4 := fR.up 0 rfl eM_4
          obtain ⟨x1_n, ex1_n⟩ : ∃ y : Int32, y = x1 + 1 := ⟨_, rfl⟩
          refine lv_iinc (v := x1_n) (lv' := [(1, .int x1_n), (0, .ref ob)]) hx hb dX5_begin_35 hl (k := 1) rfl (by rw [ex1_n]; rfl) (by decide) rfl (fun ls hl => ?_)
          refine lv_goto (tgt := 2) hx hb dX5_begin_38 (by decide) ?_
          exact ih (i + 1) x1_n Sa M_4 _ _ ls (by omega) (by rw [ex1_n, hx1]; exact nI_1 i) (by rw [eSa, hS1, va_up_self, bx_uu, show v34 = begV i from by rw [ev34, hx1]; rfl, ← fillF_s]) hV hA m_ob fR (lv_sub hl [1, 0] rfl)
        refine lv_icmp_ge (tgt := 23) hx hb dX5_begin_16 (by decide) (fun c16 => ?_) (fun c16 => ?_)
        · refine lv_iload_n hx hb dX5_begin_23 rfl (lv_at hl 1 rfl) ?_
          refine lv_bipush (v := 11) hx hb dX5_begin_24 (by decide) ?_
          refine lv_icmp_le (tgt := 33) hx hb dX5_begin_26 (by decide) (fun c26 => ?_) (fun c26 => ?_)
          · refine lv_iconst (v := 0) hx hb dX5_begin_33 (by decide) ?_
            exact J34 _ (by rw [if_pos c16, if_pos c26])
          · refine lv_iconst (v := 3) hx hb dX5_begin_29 (by decide) ?_
            refine lv_goto (tgt := 34) hx hb dX5_begin_30 (by decide) ?_
            exact J34 _ (by rw [if_pos c16, if_neg c26])
        · refine lv_iconst (v := 1) hx hb dX5_begin_19 (by decide) ?_
          refine lv_goto (tgt := 34) hx hb dX5_begin_20 (by decide) ?_
          exact J34 _ (by rw [if_neg c16])
  exact LP 18 0 x1 S M H locs ls rfl (by rw [ex1]; rfl) (by rw [fillF_0]; exact (up_id rfl).symm) hV hA m_ob fR (lv_sub hl [1, 0] rfl)
