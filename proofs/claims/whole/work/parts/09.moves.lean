def ownBit (P : Ps) (i : Nat) : Int32 := (ownP P >>> (nI i &&& 31)) &&& 1
def allJ (P : Ps) : Nat → Nat → LSt → LSt
  | 0, _, S => S
  | k + 1, i, S => allJ P k (i + 1) (if ownBit P i = 0 then S else leapF P i 18 i 0 S)
def allS (P : Ps) : Nat → Nat → LSt → LSt
  | 0, _, S => S
  | k + 1, i, S => allS P k (i + 1) (if ownBit P i = 0 then S else stepsF P i S)
/-- all moves, in order -/
def movesF (P : Ps) (f : Nat → Int32) : LSt := if (allJ P 18 0 (f, 0)).2 = 0 then allS P 18 0 (allJ P 18 0 (f, 0)) else allJ P 18 0 (f, 0)
theorem step1_le {P : Ps} {s w : Nat} {S : LSt} (h : S.2 ≤ 72) : (step1 P s w S).2 ≤ 72 := by
  unfold step1
  split
  · exact h
  · split
    · exact enterF_le h
    · exact h
theorem stepL_le {P : Ps} {s : Nat} : ∀ (k w : Nat) (S : LSt), S.2 ≤ 72 → (stepL P s k w S).2 ≤ 72
  | 0, _, _, h => h
  | k + 1, w, S, h => by
    unfold stepL
    split
    · exact h
    · exact stepL_le k _ _ (step1_le h)
theorem stepsF_le {P : Ps} {s : Nat} {S : LSt} (h : S.2 ≤ 72) : (stepsF P s S).2 ≤ 72 := stepL_le _ _ _ h
theorem allJ_le {P : Ps} : ∀ (k i : Nat) (S : LSt), S.2 ≤ 72 → (allJ P k i S).2 ≤ 72
  | 0, _, _, h => h
  | k + 1, i, S, h => by
    unfold allJ
    apply allJ_le k
    split
    · exact h
    · exact leapF_le _ _ _ _ h
theorem allS_le {P : Ps} : ∀ (k i : Nat) (S : LSt), S.2 ≤ 72 → (allS P k i S).2 ≤ 72
  | 0, _, _, h => h
  | k + 1, i, S, h => by
    unfold allS
    apply allS_le k
    split
    · exact h
    · exact stepsF_le h
theorem movesF_le (P : Ps) (f : Nat → Int32) : (movesF P f).2 ≤ 72 := by
  unfold movesF
  split
  · exact allS_le _ _ _ (allJ_le _ _ _ (by simp))
  · exact allJ_le _ _ _ (by simp)
def tgtF (P : Ps) (s w : Nat) : Int32 := if nearT (4 * s + w) = -1 then nearT (4 * s + w) else if (othP P >>> (nearT (4 * s + w) &&& 31)) &&& 1 = 0 then nearT (4 * s + w) else behT (4 * s + w)
def canW (P : Ps) (s : Nat) : Nat → Nat → Int32
  | 0, _ => 0
  | k + 1, w => if lstN P s < w then 0 else if tgtF P s w = -1 then canW P s k (w + 1) else if (fulP P >>> (tgtF P s w &&& 31)) &&& 1 = 0 then 1 else canW P s k (w + 1)
def canL (P : Ps) (s : Nat) : Int32 := canW P s (4 - fstN P s) (fstN P s)
def canK (P : Ps) : Nat → Nat → Int32
  | 0, _ => 0
  | k + 1, i => if ownBit P i = 0 then canK P k (i + 1) else if canL P i = 0 then canK P k (i + 1) else 1
def canM (P : Ps) : Int32 := canK P 18 0
theorem canW_01 (P : Ps) (s : Nat) : ∀ k w, canW P s k w = 0 ∨ canW P s k w = 1
  | 0, _ => Or.inl rfl
  | k + 1, w => by
    unfold canW
    split
    · exact Or.inl rfl
    · split
      · exact canW_01 P s k _
      · split
        · exact Or.inr rfl
        · exact canW_01 P s k _

set_option maxHeartbeats 1000000 in
set_option maxRecDepth 100000 in
theorem c_canLeave (l : Launch) (D : va_G) (dA : Nat → ClassId) {L : List Nat} {M : mm_M} {r nr bh a : Nat} {P : Ps} {s0 : Nat} (sq : Int32) (hr : ruW dA L M r nr bh) (i_a : a ∈ L) (m_a : M a = oP P) (hs : sq = nI s0) (hs18 : s0 < 18) : mm_Cp l D dA yX3_canLeave wsX3_canLeave 2 [.ref r, .ref a, .int sq] L M (canL P s0) := by
  obtain ⟨i_r, i_nr, i_bh, m_r, m_nr, m_bh⟩ := hr
  have m_a : M a = .inr (2, [.int P.1, .int P.2.1, .int P.2.2.1, .int P.2.2.2.1, .int P.2.2.2.2]) := m_a
  refine mm_enter_z (cc := cX3_canLeave) (maxL := 8) (by decide) rfl (Nat.le_of_ble_eq_true rfl) ?_
  intro p e R s m args below meth c A ls H locs Q hR hx hb hml hin hown hts hK hV hl hret
  have hl : lv_has ls 8 [(0, .ref r), (1, .ref a), (2, .int sq)] := hl
  have hown : s.vm.findClass RX3 = some m.cls := hown
  have f_49 := hts (.fieldLink RX3 49 "JumpBoard$Position" "white" "I") (by decide +kernel)
  have in_X2 : ∀ w ∈ wsX20, w ∈ wsX3_canLeave := by decide +kernel
  have f_52 := hts (.fieldLink RX3 52 "JumpBoard$Position" "black" "I") (by decide +kernel)
  have f_9 := hts (.fieldLink RX3 9 "JumpBoard$Rules" "near" "[I") (by decide +kernel)
  have in_X3 : ∀ w ∈ wsX30, w ∈ wsX3_canLeave := by decide +kernel
  have f_15 := hts (.fieldLink RX3 15 "JumpBoard$Rules" "behind" "[I") (by decide +kernel)
  refine lv_aload_n hx hb dX3_canLeave_0 rfl (lv_at hl 1 rfl) ?_
  refine mm_Vp (v := (othP P)) (ci := 2) (As := []) (rest := []) ⟨hx, hb, hml, hown, hts⟩ hK hV (c_others l D dA (P := P)  i_a m_a) (cwV 0 hts gX3_canLeave_X2_others rfl rfl rfl (by decide +kernel) (mm_levR hR (by omega) (by decide))) i_a m_a rfl rfl hl.1 rfl (Nat.le_of_ble_eq_true rfl) dX3_canLeave_1 ⟨Nat.zero_le _, Nat.zero_le _⟩ (fun H locs hV => ?_)
  refine lv_topi (fun x3 ex3 => ?_)
  refine lv_istore_n (lv' := [(3, .int x3), (0, .ref r), (1, .ref a), (2, .int sq)]) hx hb dX3_canLeave_4 rfl hl (by decide) rfl (fun ls hl => ?_)
  refine lv_aload_n hx hb dX3_canLeave_5 rfl (lv_at hl 2 rfl) ?_
  refine mm_get (ci := 2) (C := RX2) (T := TX2) (N := 5) hx hb hts in_X2 hown hK hV i_a m_a rfl 0 (by decide) f_49 (fun _ h => h) rfl dX3_canLeave_6 ?_
  refine lv_aload_n hx hb dX3_canLeave_9 rfl (lv_at hl 2 rfl) ?_
  refine mm_get (ci := 2) (C := RX2) (T := TX2) (N := 5) hx hb hts in_X2 hown hK hV i_a m_a rfl 1 (by decide) f_52 (fun _ h => h) rfl dX3_canLeave_10 ?_
  refine lv_ior hx hb dX3_canLeave_13 ?_
  refine lv_topi (fun x4 ex4 => ?_)
  refine lv_istore (lv' := [(4, .int x4), (3, .int x3), (0, .ref r), (1, .ref a), (2, .int sq)]) hx hb dX3_canLeave_14 hl (by decide) rfl (fun ls hl => ?_)
  have hx4 : x4 = fulP P := ex4
  refine lv_aload_n hx hb dX3_canLeave_16 rfl (lv_at hl 3 rfl) ?_
  refine lv_iload_n hx hb dX3_canLeave_17 rfl (lv_at hl 4 rfl) ?_
  refine mm_Sp (v := (lstD P sq)) (As := [.ref a, .int sq]) (rest := []) ⟨hx, hb, hml, hown, hts⟩ hK hV (c_lastD l D dA (P := P) sq i_a m_a) (va_cwS 2 hts gX3_canLeave_X3_lastDirection rfl rfl rfl (by decide +kernel) (mm_levR hR (by omega) (by decide))) rfl hl.1 rfl (Nat.le_of_ble_eq_true rfl) dX3_canLeave_18 ⟨Nat.zero_le _, Nat.zero_le _⟩ (fun H locs hV => ?_)
  refine lv_topi (fun x5 ex5 => ?_)
  refine lv_istore (lv' := [(5, .int x5), (4, .int x4), (3, .int x3), (0, .ref r), (1, .ref a), (2, .int sq)]) hx hb dX3_canLeave_21 hl (by decide) rfl (fun ls hl => ?_)
  have hx5 : x5 = nI (lstN P s0) := by rw [ex5, hs]; exact lstN_eq P s0
  refine lv_aload_n hx hb dX3_canLeave_23 rfl (lv_at hl 4 rfl) ?_
  refine lv_iload_n hx hb dX3_canLeave_24 rfl (lv_at hl 5 rfl) ?_
  refine mm_Sp (v := (fstD P sq)) (As := [.ref a, .int sq]) (rest := []) ⟨hx, hb, hml, hown, hts⟩ hK hV (c_firstD l D dA (P := P) sq i_a m_a) (va_cwS 2 hts gX3_canLeave_X3_firstDirection rfl rfl rfl (by decide +kernel) (mm_levR hR (by omega) (by decide))) rfl hl.1 rfl (Nat.le_of_ble_eq_true rfl) dX3_canLeave_25 ⟨Nat.zero_le _, Nat.zero_le _⟩ (fun H locs hV => ?_)
  refine lv_topi (fun x6 ex6 => ?_)
  refine lv_istore (lv' := [(6, .int x6), (5, .int x5), (4, .int x4), (3, .int x3), (0, .ref r), (1, .ref a), (2, .int sq)]) hx hb dX3_canLeave_28 hl (by decide) rfl (fun ls hl => ?_)
  have hx6 : x6 = nI (fstN P s0) := by rw [ex6, hs]; exact fstN_eq P s0
  have hl3 := lstN_le P s0
  have hf2 := fstN_le P s0
  have LP : ∀ (k w : Nat) (x6 : Int32) (ls : Array Slot), w + k = 4 → x6 = nI w → canW P s0 k w = canL P s0 → lv_has ls 8 [(0, .ref r), (1, .ref a), (2, .int sq), (3, .int x3), (4, .int x4), (5, .int x5), (6, .int x6)] → W p l e R s m args below meth c H locs 0 0 Q (F0 m 30 ls []) := by
    intro k
    induction k with
    | zero =>
      intro w x6 ls hwk hx6 hres hl
      refine lv_iload hx hb dX3_canLeave_30 (lv_at hl 6 rfl) ?_
      refine lv_iload hx hb dX3_canLeave_32 (lv_at hl 5 rfl) ?_
      refine lv_icmp_gt (tgt := 102) hx hb dX3_canLeave_34 (by decide) (fun c34 => ?_) (fun c34 => ?_)
      · have hlw : lstN P s0 < w := (nI_ltI (by omega) (by omega)).mp (by rw [← hx5, ← hx6]; exact c34)
        have hres2 : (0 : Int32) = canL P s0 := by rw [← hres]; rfl
        refine lv_iconst (v := 0) hx hb dX3_canLeave_102 (by decide) ?_
        exact hret (v := 0) dX3_canLeave_103 hV (by decide) (by decide) (by subst_vars; (repeat' split) <;> first | exact Or.inl rfl | exact Or.inr rfl) ⟨hres2, rfl, rfl⟩
      · exact absurd (by rw [hx5, hx6]; exact nI_lt (by omega) (by omega)) c34
    | succ k ih =>
      intro w x6 ls hwk hx6 hres hl
      refine lv_iload hx hb dX3_canLeave_30 (lv_at hl 6 rfl) ?_
      refine lv_iload hx hb dX3_canLeave_32 (lv_at hl 5 rfl) ?_
      refine lv_icmp_gt (tgt := 102) hx hb dX3_canLeave_34 (by decide) (fun c34 => ?_) (fun c34 => ?_)
      · have hlw : lstN P s0 < w := (nI_ltI (by omega) (by omega)).mp (by rw [← hx5, ← hx6]; exact c34)
        have hres2 : (0 : Int32) = canL P s0 := by rw [← hres]; rw [canW, if_pos hlw]
        refine lv_iconst (v := 0) hx hb dX3_canLeave_102 (by decide) ?_
        exact hret (v := 0) dX3_canLeave_103 hV (by decide) (by decide) (by subst_vars; (repeat' split) <;> first | exact Or.inl rfl | exact Or.inr rfl) ⟨hres2, rfl, rfl⟩
      · have hlw : ¬ lstN P s0 < w := fun h => c34 (by rw [hx5, hx6]; exact nI_lt h (by omega))
        refine lv_aload_n hx hb dX3_canLeave_37 rfl (lv_at hl 0 rfl) ?_
        refine mm_get (ci := 3) (C := RX3) (T := TX3) (N := 2) hx hb hts in_X3 hown hK hV i_r m_r rfl 0 (by decide) f_9 (fun _ h => h) rfl dX3_canLeave_38 ?_
        refine lv_iload_n hx hb dX3_canLeave_41 rfl (lv_at hl 2 rfl) ?_
        refine lv_iconst (v := 4) hx hb dX3_canLeave_42 (by decide) ?_
        refine lv_imul hx hb dX3_canLeave_43 ?_
        refine lv_iload hx hb dX3_canLeave_44 (lv_at hl 6 rfl) ?_
        refine lv_iadd hx hb dX3_canLeave_46 ?_
        refine mm_ialdN (j := (4 * s0 + w)) hx hb hK hV i_nr m_nr (ixN hs hx6) (by omega) (by decide) dX3_canLeave_47 ?_
        refine lv_topi (fun x7 ex7 => ?_)
        refine lv_istore (lv' := [(7, .int x7), (0, .ref r), (1, .ref a), (2, .int sq), (3, .int x3), (4, .int x4), (5, .int x5), (6, .int x6)]) hx hb dX3_canLeave_48 hl (by decide) rfl (fun ls hl => ?_)
        refine lv_iload hx hb dX3_canLeave_50 (lv_at hl 0 rfl) ?_
        refine lv_iconst (v := (-1)) hx hb dX3_canLeave_52 (by decide) ?_
        have J78 : ∀ (x7_1 : Int32) (ls : Array Slot), x7_1 = (if x7 = (-1) then x7 else (if ((x3 >>> (x7 &&& 31)) &&& 1) = 0 then x7 else (behT (4 * s0 + w)))) → lv_has ls 8 [(0, .ref r), (1, .ref a), (2, .int sq), (3, .int x3), (4, .int x4), (5, .int x5), (6, .int x6), (7, .int x7_1)] → W p l e R s m args below meth c H locs 0 0 Q (F0 m 78 ls []) := by
          intro x7_1 ls ex7_1 hl
          have ht : x7_1 = tgtF P s0 w := by rw [ex7_1, tgtF, ← ex7, ← ex3]
          refine lv_iload hx hb dX3_canLeave_78 (lv_at hl 7 rfl) ?_
          refine lv_iconst (v := (-1)) hx hb dX3_canLeave_80 (by decide) ?_
          refine lv_icmp_eq (tgt := 96) hx hb dX3_canLeave_81 (by decide) (fun c81 => ?_) (fun c81 => ?_)
          · obtain ⟨x6_n, ex6_n⟩ : ∃ y : Int32, y = x6 + 1 := ⟨_, rfl⟩
            refine lv_iinc (v := x6_n) (lv' := [(6, .int x6_n), (0, .ref r), (1, .ref a), (2, .int sq), (3, .int x3), (4, .int x4), (5, .int x5), (7, .int x7_1)]) hx hb dX3_canLeave_96 hl (k := 6) rfl (by rw [ex6_n]; rfl) (by decide) rfl (fun ls hl => ?_)
            refine lv_goto (tgt := 30) hx hb dX3_canLeave_99 (by decide) ?_
            exact ih (w + 1) x6_n ls (by omega) (by rw [ex6_n, hx6]; exact nI_1 w) (by rw [← hres, canW, if_neg hlw, if_pos (by rw [← ht]; exact c81)]) (lv_sub hl [1, 2, 3, 4, 5, 6, 0] rfl)
          · refine lv_iload hx hb dX3_canLeave_84 (lv_at hl 4 rfl) ?_
            refine lv_iload hx hb dX3_canLeave_86 (lv_at hl 7 rfl) ?_
            refine lv_ishr hx hb dX3_canLeave_88 ?_
            refine lv_iconst (v := 1) hx hb dX3_canLeave_89 (by decide) ?_
            refine lv_iand hx hb dX3_canLeave_90 ?_
            refine lv_if_ne (tgt := 96) hx hb dX3_canLeave_91 (by decide) (fun c91 => ?_) (fun c91 => ?_)
            · obtain ⟨x6_n, ex6_n⟩ : ∃ y : Int32, y = x6 + 1 := ⟨_, rfl⟩
              refine lv_iinc (v := x6_n) (lv' := [(6, .int x6_n), (0, .ref r), (1, .ref a), (2, .int sq), (3, .int x3), (4, .int x4), (5, .int x5), (7, .int x7_1)]) hx hb dX3_canLeave_96 hl (k := 6) rfl (by rw [ex6_n]; rfl) (by decide) rfl (fun ls hl => ?_)
              refine lv_goto (tgt := 30) hx hb dX3_canLeave_99 (by decide) ?_
              exact ih (w + 1) x6_n ls (by omega) (by rw [ex6_n, hx6]; exact nI_1 w) (by rw [← hres, canW, if_neg hlw, if_neg (by rw [← ht]; exact c81), if_neg (by rw [← ht, ← hx4]; exact c91)]) (lv_sub hl [1, 2, 3, 4, 5, 6, 0] rfl)
            · refine lv_iconst (v := 1) hx hb dX3_canLeave_94 (by decide) ?_
              exact hret (v := 1) dX3_canLeave_95 hV (by decide) (by decide) (by subst_vars; (repeat' split) <;> first | exact Or.inl rfl | exact Or.inr rfl) ⟨by rw [← hres, canW, if_neg hlw, if_neg (by rw [← ht]; exact c81), if_pos (by rw [← ht, ← hx4]; exact c91)], rfl, rfl⟩
        refine lv_icmp_eq (tgt := 78) hx hb dX3_canLeave_53 (by decide) (fun c53 => ?_) (fun c53 => ?_)
        · exact J78 _ ls (by rw [if_pos c53]) (lv_sub hl [1, 2, 3, 4, 5, 6, 7, 0] rfl)
        · refine lv_iload_n hx hb dX3_canLeave_56 rfl (lv_at hl 4 rfl) ?_
          refine lv_iload hx hb dX3_canLeave_57 (lv_at hl 0 rfl) ?_
          refine lv_ishr hx hb dX3_canLeave_59 ?_
          refine lv_iconst (v := 1) hx hb dX3_canLeave_60 (by decide) ?_
          refine lv_iand hx hb dX3_canLeave_61 ?_
          refine lv_if_eq (tgt := 78) hx hb dX3_canLeave_62 (by decide) (fun c62 => ?_) (fun c62 => ?_)
          · exact J78 _ ls (by rw [if_neg c53, if_pos c62]) (lv_sub hl [1, 2, 3, 4, 5, 6, 7, 0] rfl)
          · refine lv_aload_n hx hb dX3_canLeave_65 rfl (lv_at hl 1 rfl) ?_
            refine mm_get (ci := 3) (C := RX3) (T := TX3) (N := 2) hx hb hts in_X3 hown hK hV i_r m_r rfl 1 (by decide) f_15 (fun _ h => h) rfl dX3_canLeave_66 ?_
            refine lv_iload_n hx hb dX3_canLeave_69 rfl (lv_at hl 3 rfl) ?_
            refine lv_iconst (v := 4) hx hb dX3_canLeave_70 (by decide) ?_
            refine lv_imul hx hb dX3_canLeave_71 ?_
            refine lv_iload hx hb dX3_canLeave_72 (lv_at hl 7 rfl) ?_
            refine lv_iadd hx hb dX3_canLeave_74 ?_
            refine mm_ialdN (j := (4 * s0 + w)) hx hb hK hV i_bh m_bh (ixN hs hx6) (by omega) (by decide) dX3_canLeave_75 ?_
            refine lv_topi (fun x7b ex7b => ?_)
            refine lv_istore (lv' := [(7, .int x7b), (0, .ref r), (1, .ref a), (2, .int sq), (3, .int x3), (4, .int x4), (5, .int x5), (6, .int x6)]) hx hb dX3_canLeave_76 hl (by decide) rfl (fun ls hl => ?_)
            exact J78 _ ls (by rw [if_neg c53, if_neg c62, ex7b]) (lv_sub hl [1, 2, 3, 4, 5, 6, 7, 0] rfl)
  exact LP (4 - fstN P s0) (fstN P s0) x6 ls (by omega) hx6 rfl (lv_sub hl [4, 5, 6, 3, 2, 1, 0] rfl)

set_option maxHeartbeats 1000000 in
set_option maxRecDepth 100000 in
theorem c_canMove (l : Launch) (D : va_G) (dA : Nat → ClassId) {L : List Nat} {M : mm_M} {r nr bh a : Nat} {P : Ps} (hr : ruW dA L M r nr bh) (i_a : a ∈ L) (m_a : M a = oP P) : mm_Cp l D dA yX3_canMove wsX3_canMove 3 [.ref r, .ref a] L M (canM P) := by
  obtain ⟨i_r, i_nr, i_bh, m_r, m_nr, m_bh⟩ := hr
  have m_a : M a = .inr (2, [.int P.1, .int P.2.1, .int P.2.2.1, .int P.2.2.2.1, .int P.2.2.2.2]) := m_a
  refine mm_enter_z (cc := cX3_canMove) (maxL := 4) (by decide) rfl (Nat.le_of_ble_eq_true rfl) ?_
  intro p e R s m args below meth c A ls H locs Q hR hx hb hml hin hown hts hK hV hl hret
  have hl : lv_has ls 4 [(0, .ref r), (1, .ref a)] := hl
  have hown : s.vm.findClass RX3 = some m.cls := hown
  refine lv_aload_n hx hb dX3_canMove_0 rfl (lv_at hl 1 rfl) ?_
  refine mm_Vp (v := (ownP P)) (ci := 2) (As := []) (rest := []) ⟨hx, hb, hml, hown, hts⟩ hK hV (c_own l D dA (P := P)  i_a m_a) (cwV 0 hts gX3_canMove_X2_own rfl rfl rfl (by decide +kernel) (mm_levR hR (by omega) (by decide))) i_a m_a rfl rfl hl.1 rfl (Nat.le_of_ble_eq_true rfl) dX3_canMove_1 ⟨Nat.zero_le _, Nat.zero_le _⟩ (fun H locs hV => ?_)
  refine lv_topi (fun x2 ex2 => ?_)
  refine lv_istore_n (lv' := [(2, .int x2), (0, .ref r), (1, .ref a)]) hx hb dX3_canMove_4 rfl hl (by decide) rfl (fun ls hl => ?_)
  refine lv_iconst (v := 0) hx hb dX3_canMove_5 (by decide) ?_
  refine lv_topi (fun x3 ex3 => ?_)
  refine lv_istore_n (lv' := [(3, .int x3), (2, .int x2), (0, .ref r), (1, .ref a)]) hx hb dX3_canMove_6 rfl hl (by decide) rfl (fun ls hl => ?_)
  have LP : ∀ (k i : Nat) (x3 : Int32) (H : Heap) (locs : List Loc) (ls : Array Slot), i + k = 18 → x3 = nI i → canK P k i = canM P → mm_V A D L M s H locs → lv_has ls 4 [(0, .ref r), (1, .ref a), (2, .int x2), (3, .int x3)] → W p l e R s m args below meth c H locs 0 0 Q (F0 m 7 ls []) := by
    intro k
    induction k with
    | zero =>
      intro i x3 H locs ls hwk hx3 hres hV hl
      refine lv_iload_n hx hb dX3_canMove_7 rfl (lv_at hl 3 rfl) ?_
      refine lv_bipush (v := 18) hx hb dX3_canMove_8 (by decide) ?_
      refine lv_icmp_ge (tgt := 38) hx hb dX3_canMove_10 (by decide) (fun c10 => ?_) (fun c10 => ?_)
      · have hres2 : (0 : Int32) = canM P := by rw [← hres]; rfl
        refine lv_iconst (v := 0) hx hb dX3_canMove_38 (by decide) ?_
        exact hret (v := 0) dX3_canMove_39 hV (by decide) (by decide) (by subst_vars; (repeat' split) <;> first | exact Or.inl rfl | exact Or.inr rfl) ⟨hres2, rfl, rfl⟩
      · exact absurd (by rw [hx3]; exact nI_le (a := 18) (by omega) (by omega)) c10
    | succ k ih =>
      intro i x3 H locs ls hwk hx3 hres hV hl
      refine lv_iload_n hx hb dX3_canMove_7 rfl (lv_at hl 3 rfl) ?_
      refine lv_bipush (v := 18) hx hb dX3_canMove_8 (by decide) ?_
      refine lv_icmp_ge (tgt := 38) hx hb dX3_canMove_10 (by decide) (fun c10 => ?_) (fun c10 => ?_)
      · exact absurd c10 (by rw [hx3]; exact nI_ge (b := 18) (by omega) (by decide))
      · have hi18 : i < 18 := by omega
        refine lv_iload_n hx hb dX3_canMove_13 rfl (lv_at hl 2 rfl) ?_
        refine lv_iload_n hx hb dX3_canMove_14 rfl (lv_at hl 3 rfl) ?_
        refine lv_ishr hx hb dX3_canMove_15 ?_
        refine lv_iconst (v := 1) hx hb dX3_canMove_16 (by decide) ?_
        refine lv_iand hx hb dX3_canMove_17 ?_
        refine lv_if_eq (tgt := 32) hx hb dX3_canMove_18 (by decide) (fun c18 => ?_) (fun c18 => ?_)
        · obtain ⟨x3_n, ex3_n⟩ : ∃ y : Int32, y = x3 + 1 := ⟨_, rfl⟩
          refine lv_iinc (v := x3_n) (lv' := [(3, .int x3_n), (0, .ref r), (1, .ref a), (2, .int x2)]) hx hb dX3_canMove_32 hl (k := 3) rfl (by rw [ex3_n]; rfl) (by decide) rfl (fun ls hl => ?_)
          refine lv_goto (tgt := 7) hx hb dX3_canMove_35 (by decide) ?_
          exact ih (i + 1) x3_n _ _ ls (by omega) (by rw [ex3_n, hx3]; exact nI_1 i) (by rw [← hres, canK, if_pos (by unfold ownBit; rw [← ex2, ← hx3]; exact c18)]) hV (lv_sub hl [1, 2, 3, 0] rfl)
        · refine lv_aload_n hx hb dX3_canMove_21 rfl (lv_at hl 0 rfl) ?_
          refine lv_aload_n hx hb dX3_canMove_22 rfl (lv_at hl 1 rfl) ?_
          refine lv_iload_n hx hb dX3_canMove_23 rfl (lv_at hl 3 rfl) ?_
          refine mm_Vp (v := (canL P i)) (ci := 3) (As := [.ref a, .int x3]) (rest := []) ⟨hx, hb, hml, hown, hts⟩ hK hV (c_canLeave l D dA (P := P) (s0 := i) x3 ⟨i_r, i_nr, i_bh, m_r, m_nr, m_bh⟩ i_a m_a hx3 hi18) (cwV 2 hts gX3_canMove_X3_canLeave rfl rfl rfl (by decide +kernel) (mm_levR hR (by omega) (by decide))) i_r m_r rfl rfl hl.1 rfl (Nat.le_of_ble_eq_true rfl) dX3_canMove_24 ⟨Nat.zero_le _, Nat.zero_le _⟩ (fun H locs hV => ?_)
          refine lv_if_eq (tgt := 32) hx hb dX3_canMove_27 (by decide) (fun c27 => ?_) (fun c27 => ?_)
          · obtain ⟨x3_n, ex3_n⟩ : ∃ y : Int32, y = x3 + 1 := ⟨_, rfl⟩
            refine lv_iinc (v := x3_n) (lv' := [(3, .int x3_n), (0, .ref r), (1, .ref a), (2, .int x2)]) hx hb dX3_canMove_32 hl (k := 3) rfl (by rw [ex3_n]; rfl) (by decide) rfl (fun ls hl => ?_)
            refine lv_goto (tgt := 7) hx hb dX3_canMove_35 (by decide) ?_
            exact ih (i + 1) x3_n _ _ ls (by omega) (by rw [ex3_n, hx3]; exact nI_1 i) (by rw [← hres, canK, if_neg (by unfold ownBit; rw [← ex2, ← hx3]; exact c18), if_pos c27]) hV (lv_sub hl [1, 2, 3, 0] rfl)
          · refine lv_iconst (v := 1) hx hb dX3_canMove_30 (by decide) ?_
            exact hret (v := 1) dX3_canMove_31 hV (by decide) (by decide) (by subst_vars; (repeat' split) <;> first | exact Or.inl rfl | exact Or.inr rfl) ⟨by rw [← hres, canK, if_neg (by unfold ownBit; rw [← ex2, ← hx3]; exact c18), if_neg c27], rfl, rfl⟩
  exact LP 18 0 x3 H locs ls rfl (by rw [ex3]; rfl) rfl hV (lv_sub hl [2, 3, 1, 0] rfl)

set_option maxHeartbeats 1000000 in
set_option maxRecDepth 100000 in
theorem c_listMoves (l : Launch) (D : va_G) (dA : Nat → ClassId) {L : List Nat} {M : mm_M} {r nr bh a t pk : Nat} {P : Ps} {f0 : Nat → Int32} {n0 : Nat} (hr : ruW dA L M r nr bh) (i_a : a ∈ L) (m_a : M a = oP P) (hli : liW dA L M t pk f0 n0) (hne1 : nr ≠ pk) (hne2 : bh ≠ pk) : mm_Cm l D dA yX3_listMoves wsX3_listMoves 21 [.ref r, .ref a, .ref t] L M (fun M1 => M1 = va_up (va_up M t (oL pk (nI (movesF P f0).2))) pk (.inl (dA 0, 72, .inl (movesF P f0).1))) := by
  obtain ⟨i_r, i_nr, i_bh, m_r, m_nr, m_bh⟩ := hr
  obtain ⟨i_t, i_pk, m_t, m_pk, hn0⟩ := hli
  have m_a : M a = .inr (2, [.int P.1, .int P.2.1, .int P.2.2.1, .int P.2.2.2.1, .int P.2.2.2.2]) := m_a
  have m_t : M t = .inr (1, [.ref pk, .int (nI n0)]) := m_t
  have hnt : t ≠ pk := mm_neq m_t m_pk (by intro h; cases h)
  refine mm_enter_v (cc := cX3_listMoves) (maxL := 5) (by decide) rfl (Nat.le_of_ble_eq_true rfl) ?_
  intro p e R s m args below meth c A ls H locs Q hR hx hb hml hin hown hts hK hV hl hret
  have hl : lv_has ls 5 [(0, .ref r), (1, .ref a), (2, .ref t)] := hl
  have hown : s.vm.findClass RX3 = some m.cls := hown
  have f_32 := hts (.fieldLink RX3 32 "JumpBoard$MoveList" "count" "I") (by decide +kernel)
  have in_X1 : ∀ w ∈ wsX10, w ∈ wsX3_listMoves := by decide +kernel
  refine lv_aload_n hx hb dX3_listMoves_0 rfl (lv_at hl 2 rfl) ?_
  refine lv_iconst (v := 0) hx hb dX3_listMoves_1 (by decide) ?_
  refine mm_put (ci := 1) (v := .int 0) (fs' := [.ref pk, .int 0]) (ty := .int) (C := RX1) (T := TX1) (N := 2) hx hb hts in_X1 tyX1 tyX1_ok nmX1 hown hK hV i_t m_t rfl 1 (by decide) f_32 (fun _ h => h) rfl (by decide +kernel) rfl rfl (Nat.le_of_ble_eq_true rfl) rfl dX3_listMoves_2 (fun M_1 H locs eM_1 hV => ?_)
  have m_r : M_1 r = _ := (congrFun eM_1 r).trans ((va_up_ne _ _ (mm_neq m_r m_t (by intro h; cases h))).trans m_r)
  have m_nr : M_1 nr = _ := (congrFun eM_1 nr).trans ((va_up_ne _ _ (mm_neq m_nr m_t (by intro h; cases h))).trans m_nr)
  have m_bh : M_1 bh = _ := (congrFun eM_1 bh).trans ((va_up_ne _ _ (mm_neq m_bh m_t (by intro h; cases h))).trans m_bh)
  have m_a : M_1 a = _ := (congrFun eM_1 a).trans ((va_up_ne _ _ (mm_neq m_a m_t (by intro h; cases h))).trans m_a)
  have m_pk : M_1 pk = _ := (congrFun eM_1 pk).trans ((va_up_ne _ _ (Ne.symm hnt)).trans m_pk)
  have m_t : M_1 t = .inr (1, [.ref pk, .int 0]) := by rw [eM_1]; exact va_up_self _ _ _
  have fr : ∀ q : Nat, q ≠ t → M_1 q = M q := fun q h0 => (congrFun eM_1 q).trans ((va_up_ne _ _ h0).trans rfl)
  have m_t : M_1 t = .inr (1, [.ref pk, .int (nI 0)]) := m_t
  refine lv_aload_n hx hb dX3_listMoves_5 rfl (lv_at hl 1 rfl) ?_
  refine mm_Vp (v := (ownP P)) (ci := 2) (As := []) (rest := []) ⟨hx, hb, hml, hown, hts⟩ hK hV (c_own l D dA (P := P)  i_a m_a) (cwV 0 hts gX3_listMoves_X2_own rfl rfl rfl (by decide +kernel) (mm_levR hR (by omega) (by decide))) i_a m_a rfl rfl hl.1 rfl (Nat.le_of_ble_eq_true rfl) dX3_listMoves_6 ⟨Nat.zero_le _, Nat.zero_le _⟩ (fun H locs hV => ?_)
  refine lv_topi (fun x3 ex3 => ?_)
  refine lv_istore_n (lv' := [(3, .int x3), (0, .ref r), (1, .ref a), (2, .ref t)]) hx hb dX3_listMoves_9 rfl hl (by decide) rfl (fun ls hl => ?_)
  refine lv_iconst (v := 0) hx hb dX3_listMoves_10 (by decide) ?_
  refine lv_topi (fun x4 ex4 => ?_)
  refine lv_istore (lv' := [(4, .int x4), (3, .int x3), (0, .ref r), (1, .ref a), (2, .ref t)]) hx hb dX3_listMoves_11 hl (by decide) rfl (fun ls hl => ?_)
  have LP13 : ∀ (k i : Nat) (x4 : Int32) (f : Nat → Int32) (n : Nat) (M1 : mm_M) (H : Heap) (locs : List Loc) (ls : Array Slot), i + k = 18 → x4 = nI i → n ≤ 72 → allJ P k i (f, n) = allJ P 18 0 (f0, 0) → mm_V A D L M1 s H locs → M1 r = .inr (3, [.ref nr, .ref bh]) → M1 nr = .inl (dA 0, 72, .inl nearT) → M1 bh = .inl (dA 0, 72, .inl behT) → M1 a = .inr (2, [.int P.1, .int P.2.1, .int P.2.2.1, .int P.2.2.2.1, .int P.2.2.2.2]) → M1 t = .inr (1, [.ref pk, .int (nI n)]) → M1 pk = .inl (dA 0, 72, .inl f) → (∀ q : Nat, q ≠ t → q ≠ pk → M1 q = M q) → lv_has ls 5 [(0, .ref r), (1, .ref a), (2, .ref t), (3, .int x3), (4, .int x4)] → W p l e R s m args below meth c H locs 0 0 Q (F0 m 13 ls []) := by
    intro k
    induction k with
    | zero =>
      intro i x4 f n M1 H locs ls hwk hx4 hn hres hV m_r m_nr m_bh m_a m_t m_pk fr hl
      refine lv_iload hx hb dX3_listMoves_13 (lv_at hl 4 rfl) ?_
      refine lv_bipush (v := 18) hx hb dX3_listMoves_15 (by decide) ?_
      refine lv_icmp_ge (tgt := 47) hx hb dX3_listMoves_17 (by decide) (fun c17 => ?_) (fun c17 => ?_)
      · have hJ : allJ P 18 0 (f0, 0) = (f, n) := hres.symm
        refine lv_aload_n hx hb dX3_listMoves_47 rfl (lv_at hl 2 rfl) ?_
        refine mm_get (ci := 1) (C := RX1) (T := TX1) (N := 2) hx hb hts in_X1 hown hK hV i_t m_t rfl 1 (by decide) f_32 (fun _ h => h) rfl dX3_listMoves_48 ?_
        refine lv_if_le (tgt := 55) hx hb dX3_listMoves_51 (by decide) (fun c51 => ?_) (fun c51 => ?_)
        · have hn0 : n = 0 := mm_zero (by omega) c51
          have hfin0 : movesF P f0 = allS P 18 0 (f, n) := by unfold movesF; rw [hJ, if_pos hn0]
          refine lv_iconst (v := 0) hx hb dX3_listMoves_55 (by decide) ?_
          refine lv_topi (fun x4z ex4z => ?_)
          refine lv_istore (lv' := [(4, .int x4z), (0, .ref r), (1, .ref a), (2, .ref t), (3, .int x3)]) hx hb dX3_listMoves_56 hl (by decide) rfl (fun ls hl => ?_)
          have LP58 : ∀ (k i : Nat) (x4 : Int32) (f : Nat → Int32) (n : Nat) (M1 : mm_M) (H : Heap) (locs : List Loc) (ls : Array Slot), i + k = 18 → x4 = nI i → n ≤ 72 → allS P k i (f, n) = movesF P f0 → mm_V A D L M1 s H locs → M1 r = .inr (3, [.ref nr, .ref bh]) → M1 nr = .inl (dA 0, 72, .inl nearT) → M1 bh = .inl (dA 0, 72, .inl behT) → M1 a = .inr (2, [.int P.1, .int P.2.1, .int P.2.2.1, .int P.2.2.2.1, .int P.2.2.2.2]) → M1 t = .inr (1, [.ref pk, .int (nI n)]) → M1 pk = .inl (dA 0, 72, .inl f) → (∀ q : Nat, q ≠ t → q ≠ pk → M1 q = M q) → lv_has ls 5 [(0, .ref r), (1, .ref a), (2, .ref t), (3, .int x3), (4, .int x4)] → W p l e R s m args below meth c H locs 0 0 Q (F0 m 58 ls []) := by
            intro k
            induction k with
            | zero =>
              intro i x4 f n M1 H locs ls hwk hx4 hn hres hV m_r m_nr m_bh m_a m_t m_pk fr hl
              refine lv_iload hx hb dX3_listMoves_58 (lv_at hl 4 rfl) ?_
              refine lv_bipush (v := 18) hx hb dX3_listMoves_60 (by decide) ?_
              refine lv_icmp_ge (tgt := 88) hx hb dX3_listMoves_62 (by decide) (fun c62 => ?_) (fun c62 => ?_)
              · have hfin : movesF P f0 = (f, n) := hres.symm
                exact hret dX3_listMoves_88 hV (by decide) (by decide) ⟨rfl, by rw [hfin]; exact mm_fin2 m_t m_pk hnt (fun q h0 h1 => fr q h0 h1)⟩
              · exact absurd (by rw [hx4]; exact nI_le (a := 18) (by omega) (by omega)) c62
            | succ k ih =>
              intro i x4 f n M1 H locs ls hwk hx4 hn hres hV m_r m_nr m_bh m_a m_t m_pk fr hl
              refine lv_iload hx hb dX3_listMoves_58 (lv_at hl 4 rfl) ?_
              refine lv_bipush (v := 18) hx hb dX3_listMoves_60 (by decide) ?_
              refine lv_icmp_ge (tgt := 88) hx hb dX3_listMoves_62 (by decide) (fun c62 => ?_) (fun c62 => ?_)
              · exact absurd c62 (by rw [hx4]; exact nI_ge (b := 18) (by omega) (by decide))
              · have hi18 : i < 18 := by omega
                refine lv_iload_n hx hb dX3_listMoves_65 rfl (lv_at hl 3 rfl) ?_
                refine lv_iload hx hb dX3_listMoves_66 (lv_at hl 4 rfl) ?_
                refine lv_ishr hx hb dX3_listMoves_68 ?_
                refine lv_iconst (v := 1) hx hb dX3_listMoves_69 (by decide) ?_
                refine lv_iand hx hb dX3_listMoves_70 ?_
                refine lv_if_eq (tgt := 82) hx hb dX3_listMoves_71 (by decide) (fun c71 => ?_) (fun c71 => ?_)
                · obtain ⟨x4_n, ex4_n⟩ : ∃ y : Int32, y = x4 + 1 := ⟨_, rfl⟩
                  refine lv_iinc (v := x4_n) (lv' := [(4, .int x4_n), (0, .ref r), (1, .ref a), (2, .ref t), (3, .int x3)]) hx hb dX3_listMoves_82 hl (k := 4) rfl (by rw [ex4_n]; rfl) (by decide) rfl (fun ls hl => ?_)
                  refine lv_goto (tgt := 58) hx hb dX3_listMoves_85 (by decide) ?_
                  exact ih (i + 1) x4_n f n M1 _ _ ls (by omega) (by rw [ex4_n, hx4]; exact nI_1 i) hn (by rw [← hres, allS, if_pos (by unfold ownBit; rw [← ex3, ← hx4]; exact c71)]) hV m_r m_nr m_bh m_a m_t m_pk fr (lv_sub hl [1, 2, 3, 4, 0] rfl)
                · refine lv_aload_n hx hb dX3_listMoves_74 rfl (lv_at hl 0 rfl) ?_
                  refine lv_aload_n hx hb dX3_listMoves_75 rfl (lv_at hl 1 rfl) ?_
                  refine lv_aload_n hx hb dX3_listMoves_76 rfl (lv_at hl 2 rfl) ?_
                  refine lv_iload hx hb dX3_listMoves_77 (lv_at hl 4 rfl) ?_
                  refine mm_Vm (ci := 3) (As := [.ref a, .ref t, .int x4]) (rest := []) ⟨hx, hb, hml, hown, hts⟩ hK hV (c_listSteps l D dA (s0 := i) x4 ⟨i_r, i_nr, i_bh, m_r, m_nr, m_bh⟩ i_a m_a ⟨i_t, i_pk, m_t, m_pk, hn⟩ hne1 hne2 hx4 hi18) (cwV 3 hts gX3_listMoves_X3_listSteps rfl rfl rfl (by decide +kernel) (mm_levR hR (by omega) (by decide))) i_r m_r rfl rfl hl.1 rfl (Nat.le_of_ble_eq_true rfl) dX3_listMoves_79 ⟨Nat.zero_le _, Nat.zero_le _⟩ (fun M_2 H locs eM_2 hV => ?_)
                  have m_r : M_2 r = _ := (congrFun eM_2 r).trans ((va_up_ne _ _ (mm_neq m_r m_pk (by intro h; cases h))).trans ((va_up_ne _ _ (mm_neq m_r m_t (by intro h; cases h))).trans m_r))
                  have m_nr : M_2 nr = _ := (congrFun eM_2 nr).trans ((va_up_ne _ _ hne1).trans ((va_up_ne _ _ (mm_neq m_nr m_t (by intro h; cases h))).trans m_nr))
                  have m_bh : M_2 bh = _ := (congrFun eM_2 bh).trans ((va_up_ne _ _ hne2).trans ((va_up_ne _ _ (mm_neq m_bh m_t (by intro h; cases h))).trans m_bh))
                  have m_a : M_2 a = _ := (congrFun eM_2 a).trans ((va_up_ne _ _ (mm_neq m_a m_pk (by intro h; cases h))).trans ((va_up_ne _ _ (mm_neq m_a m_t (by intro h; cases h))).trans m_a))
                  have m_t : M_2 t = .inr (1, [.ref pk, .int (nI (stepsF P i (f, n)).2)]) := (congrFun eM_2 t).trans ((va_up_ne _ _ hnt).trans (va_up_self _ _ _))
                  have m_pk : M_2 pk = .inl (dA 0, 72, .inl ((stepsF P i (f, n)).1)) := (congrFun eM_2 pk).trans (va_up_self _ _ _)
                  have fr : ∀ q : Nat, q ≠ t → q ≠ pk → M_2 q = M q := fun q h0 h1 => (congrFun eM_2 q).trans ((va_up_ne _ _ h1).trans ((va_up_ne _ _ h0).trans (fr q h0 h1)))
                  obtain ⟨x4_n, ex4_n⟩ : ∃ y : Int32, y = x4 + 1 := ⟨_, rfl⟩
                  refine lv_iinc (v := x4_n) (lv' := [(4, .int x4_n), (0, .ref r), (1, .ref a), (2, .ref t), (3, .int x3)]) hx hb dX3_listMoves_82 hl (k := 4) rfl (by rw [ex4_n]; rfl) (by decide) rfl (fun ls hl => ?_)
                  refine lv_goto (tgt := 58) hx hb dX3_listMoves_85 (by decide) ?_
                  exact ih (i + 1) x4_n ((stepsF P i (f, n)).1) ((stepsF P i (f, n)).2) M_2 _ _ ls (by omega) (by rw [ex4_n, hx4]; exact nI_1 i) (stepsF_le hn) (by rw [← hres, allS, if_neg (by unfold ownBit; rw [← ex3, ← hx4]; exact c71)]) hV m_r m_nr m_bh m_a m_t m_pk fr (lv_sub hl [1, 2, 3, 4, 0] rfl)
          exact LP58 18 0 x4z f n M1 H locs ls rfl (by rw [ex4z]; rfl) hn hfin0.symm hV m_r m_nr m_bh m_a m_t m_pk fr (lv_sub hl [1, 2, 3, 4, 0] rfl)
        · have hfin : movesF P f0 = (f, n) := by unfold movesF; rw [hJ, if_neg (Nat.ne_of_gt (mm_pos (by omega) c51))]
          exact hret dX3_listMoves_54 hV (by decide) (by decide) ⟨rfl, by rw [hfin]; exact mm_fin2 m_t m_pk hnt (fun q h0 h1 => fr q h0 h1)⟩
      · exact absurd (by rw [hx4]; exact nI_le (a := 18) (by omega) (by omega)) c17
    | succ k ih =>
      intro i x4 f n M1 H locs ls hwk hx4 hn hres hV m_r m_nr m_bh m_a m_t m_pk fr hl
      refine lv_iload hx hb dX3_listMoves_13 (lv_at hl 4 rfl) ?_
      refine lv_bipush (v := 18) hx hb dX3_listMoves_15 (by decide) ?_
      refine lv_icmp_ge (tgt := 47) hx hb dX3_listMoves_17 (by decide) (fun c17 => ?_) (fun c17 => ?_)
      · exact absurd c17 (by rw [hx4]; exact nI_ge (b := 18) (by omega) (by decide))
      · have hi18 : i < 18 := by omega
        refine lv_iload_n hx hb dX3_listMoves_20 rfl (lv_at hl 3 rfl) ?_
        refine lv_iload hx hb dX3_listMoves_21 (lv_at hl 4 rfl) ?_
        refine lv_ishr hx hb dX3_listMoves_23 ?_
        refine lv_iconst (v := 1) hx hb dX3_listMoves_24 (by decide) ?_
        refine lv_iand hx hb dX3_listMoves_25 ?_
        refine lv_if_eq (tgt := 41) hx hb dX3_listMoves_26 (by decide) (fun c26 => ?_) (fun c26 => ?_)
        · obtain ⟨x4_n, ex4_n⟩ : ∃ y : Int32, y = x4 + 1 := ⟨_, rfl⟩
          refine lv_iinc (v := x4_n) (lv' := [(4, .int x4_n), (0, .ref r), (1, .ref a), (2, .ref t), (3, .int x3)]) hx hb dX3_listMoves_41 hl (k := 4) rfl (by rw [ex4_n]; rfl) (by decide) rfl (fun ls hl => ?_)
          refine lv_goto (tgt := 13) hx hb dX3_listMoves_44 (by decide) ?_
          exact ih (i + 1) x4_n f n M1 _ _ ls (by omega) (by rw [ex4_n, hx4]; exact nI_1 i) hn (by rw [← hres, allJ, if_pos (by unfold ownBit; rw [← ex3, ← hx4]; exact c26)]) hV m_r m_nr m_bh m_a m_t m_pk fr (lv_sub hl [1, 2, 3, 4, 0] rfl)
        · refine lv_aload_n hx hb dX3_listMoves_29 rfl (lv_at hl 0 rfl) ?_
          refine lv_aload_n hx hb dX3_listMoves_30 rfl (lv_at hl 1 rfl) ?_
          refine lv_aload_n hx hb dX3_listMoves_31 rfl (lv_at hl 2 rfl) ?_
          refine lv_iload hx hb dX3_listMoves_32 (lv_at hl 4 rfl) ?_
          refine lv_iload hx hb dX3_listMoves_34 (lv_at hl 4 rfl) ?_
          refine lv_iconst (v := 0) hx hb dX3_listMoves_36 (by decide) ?_
          refine lv_iconst (v := 0) hx hb dX3_listMoves_37 (by decide) ?_
          refine mm_Vm (ci := 3) (As := [.ref a, .ref t, .int x4, .int x4, .int 0, .int 0]) (rest := []) ⟨hx, hb, hml, hown, hts⟩ hK hV (c_leapOn l D dA hne1 hne2 i_a 18 (Nat.le_refl 18) M1 i 0 x4 x4 0 f n hx4 hx4 hi18 rfl ⟨i_r, i_nr, i_bh, m_r, m_nr, m_bh⟩ m_a ⟨i_t, i_pk, m_t, m_pk, hn⟩) (cwV 6 hts gX3_listMoves_X3_leapOn rfl rfl rfl (by decide +kernel) (mm_levR hR (by omega) (by decide))) i_r m_r rfl rfl hl.1 rfl (Nat.le_of_ble_eq_true rfl) dX3_listMoves_38 ⟨Nat.zero_le _, Nat.zero_le _⟩ (fun M_3 H locs eM_3 hV => ?_)
          have m_r : M_3 r = _ := (congrFun eM_3 r).trans ((va_up_ne _ _ (mm_neq m_r m_pk (by intro h; cases h))).trans ((va_up_ne _ _ (mm_neq m_r m_t (by intro h; cases h))).trans m_r))
          have m_nr : M_3 nr = _ := (congrFun eM_3 nr).trans ((va_up_ne _ _ hne1).trans ((va_up_ne _ _ (mm_neq m_nr m_t (by intro h; cases h))).trans m_nr))
          have m_bh : M_3 bh = _ := (congrFun eM_3 bh).trans ((va_up_ne _ _ hne2).trans ((va_up_ne _ _ (mm_neq m_bh m_t (by intro h; cases h))).trans m_bh))
          have m_a : M_3 a = _ := (congrFun eM_3 a).trans ((va_up_ne _ _ (mm_neq m_a m_pk (by intro h; cases h))).trans ((va_up_ne _ _ (mm_neq m_a m_t (by intro h; cases h))).trans m_a))
          have m_t : M_3 t = .inr (1, [.ref pk, .int (nI (leapF P i 18 i 0 (f, n)).2)]) := (congrFun eM_3 t).trans ((va_up_ne _ _ hnt).trans (va_up_self _ _ _))
          have m_pk : M_3 pk = .inl (dA 0, 72, .inl ((leapF P i 18 i 0 (f, n)).1)) := (congrFun eM_3 pk).trans (va_up_self _ _ _)
          have fr : ∀ q : Nat, q ≠ t → q ≠ pk → M_3 q = M q := fun q h0 h1 => (congrFun eM_3 q).trans ((va_up_ne _ _ h1).trans ((va_up_ne _ _ h0).trans (fr q h0 h1)))
          obtain ⟨x4_n, ex4_n⟩ : ∃ y : Int32, y = x4 + 1 := ⟨_, rfl⟩
          refine lv_iinc (v := x4_n) (lv' := [(4, .int x4_n), (0, .ref r), (1, .ref a), (2, .ref t), (3, .int x3)]) hx hb dX3_listMoves_41 hl (k := 4) rfl (by rw [ex4_n]; rfl) (by decide) rfl (fun ls hl => ?_)
          refine lv_goto (tgt := 13) hx hb dX3_listMoves_44 (by decide) ?_
          exact ih (i + 1) x4_n ((leapF P i 18 i 0 (f, n)).1) ((leapF P i 18 i 0 (f, n)).2) M_3 _ _ ls (by omega) (by rw [ex4_n, hx4]; exact nI_1 i) (leapF_le _ _ _ _ hn) (by rw [← hres, allJ, if_neg (by unfold ownBit; rw [← ex3, ← hx4]; exact c26)]) hV m_r m_nr m_bh m_a m_t m_pk fr (lv_sub hl [1, 2, 3, 4, 0] rfl)
  exact LP13 18 0 x4 f0 0 M_1 H locs ls rfl (by rw [ex4]; rfl) (by decide) rfl hV m_r m_nr m_bh m_a m_t m_pk (fun q h0 h1 => fr q h0) (lv_sub hl [2, 3, 4, 1, 0] rfl)
