theorem lpW_le {P : Ps} {s d u : Nat} {T : Int32} {rc : Nat → Int32 → LSt → LSt} (hrc : ∀ u T S, S.2 ≤ 72 → (rc u T S).2 ≤ 72) : ∀ (k w : Nat) (en : Int32) (S : LSt), S.2 ≤ 72 → (lpW P s d u T rc k w en S).1.2 ≤ 72
  | 0, _, _, _, h => h
  | k + 1, w, en, S, h => by
    unfold lpW
    split
    · exact h
    · split
      · exact h
      · split
        · exact lpW_le hrc k _ _ _ (hrc _ _ _ h)
        · exact lpW_le hrc k _ _ _ h
theorem lpF_le {P : Ps} {s d u : Nat} {T : Int32} {rc : Nat → Int32 → LSt → LSt} (hrc : ∀ u T S, S.2 ≤ 72 → (rc u T S).2 ≤ 72) (S : LSt) (h : S.2 ≤ 72) : (lpF P s d u T rc S).2 ≤ 72 := by
  unfold lpF lpE
  have h1 := lpW_le (P := P) (s := s) (d := d) (u := u) (T := T) hrc (4 - fstN P s) (fstN P s) 1 S h
  split
  · exact h1
  · split
    · exact h1
    · exact enterF_le h1
theorem leapF_le {P : Ps} {s : Nat} : ∀ (d u : Nat) (T : Int32) (S : LSt), S.2 ≤ 72 → (leapF P s d u T S).2 ≤ 72
  | 0, u, T, S, h => lpF_le (fun _ _ _ h => h) S h
  | d + 1, u, T, S, h => lpF_le (fun u T S h => leapF_le d u T S h) S h

set_option maxHeartbeats 4000000 in
set_option maxRecDepth 100000 in
theorem c_leapOn_step (l : Launch) (D : va_G) (dA : Nat → ClassId) {L : List Nat} {M : mm_M} {r nr bh a t pk : Nat} {P : Ps} {f : Nat → Int32} {n : Nat} {s0 d u : Nat} {rc : Nat → Int32 → LSt → LSt} (x3 x4 x5 x6 : Int32) (hs : x3 = nI s0) (hu : x4 = nI u) (hu18 : u < 18) (hl6 : x6 = nI (18 - d)) (hd : d ≤ 18) (hrc : ∀ u T S, S.2 ≤ 72 → (rc u T S).2 ≤ 72) (ih : 0 < d → ∀ (M : mm_M) (u : Nat) (T xs xu xl : Int32) (f : Nat → Int32) (n : Nat), xs = nI s0 → xu = nI u → u < 18 → xl = nI (18 - (d - 1)) → ruW dA L M r nr bh → M a = oP P → liW dA L M t pk f n → mm_Cm l D dA yX3_leapOn wsX3_leapOn ((d - 1) + 2) [.ref r, .ref a, .ref t, .int xs, .int xu, .int T, .int xl] L M (fun M1 => M1 = va_up (va_up M t (oL pk (nI (rc u T (f, n)).2))) pk (.inl (dA 0, 72, .inl (rc u T (f, n)).1)))) (hr : ruW dA L M r nr bh) (i_a : a ∈ L) (m_a : M a = oP P) (hli : liW dA L M t pk f n) (hne1 : nr ≠ pk) (hne2 : bh ≠ pk) : mm_Cm l D dA yX3_leapOn wsX3_leapOn (d + 2) [.ref r, .ref a, .ref t, .int x3, .int x4, .int x5, .int x6] L M (fun M1 => M1 = va_up (va_up M t (oL pk (nI (lpF P s0 d u x5 rc (f, n)).2))) pk (.inl (dA 0, 72, .inl (lpF P s0 d u x5 rc (f, n)).1))) := by
  obtain ⟨i_r, i_nr, i_bh, m_r, m_nr, m_bh⟩ := hr
  obtain ⟨i_t, i_pk, m_t, m_pk, hn⟩ := hli
  have m_a : M a = .inr (2, [.int P.1, .int P.2.1, .int P.2.2.1, .int P.2.2.2.1, .int P.2.2.2.2]) := m_a
  have m_t : M t = .inr (1, [.ref pk, .int (nI n)]) := m_t
  have hnt : t ≠ pk := mm_neq m_t m_pk (by intro h; cases h)
  obtain ⟨RES, eRES⟩ : ∃ z, z = lpF P s0 d u x5 rc (f, n) := ⟨_, rfl⟩
  rw [← eRES]
  obtain ⟨RESW, eRESW⟩ : ∃ z, z = lpW P s0 d u x5 rc (4 - fstN P s0) (fstN P s0) 1 (f, n) := ⟨_, rfl⟩
  refine mm_enter_v (cc := cX3_leapOn) (maxL := 14) (by decide) rfl (Nat.le_of_ble_eq_true rfl) ?_
  intro p e R s m args below meth c A ls H locs Q hR hx hb hml hin hown hts hK hV hl hret
  have hl : lv_has ls 14 [(0, .ref r), (1, .ref a), (2, .ref t), (3, .int x3), (4, .int x4), (5, .int x5), (6, .int x6)] := hl
  have hown : s.vm.findClass RX3 = some m.cls := hown
  have f_49 := hts (.fieldLink RX3 49 "JumpBoard$Position" "white" "I") (by decide +kernel)
  have in_X2 : ∀ w ∈ wsX20, w ∈ wsX3_leapOn := by decide +kernel
  have f_52 := hts (.fieldLink RX3 52 "JumpBoard$Position" "black" "I") (by decide +kernel)
  have f_9 := hts (.fieldLink RX3 9 "JumpBoard$Rules" "near" "[I") (by decide +kernel)
  have in_X3 : ∀ w ∈ wsX30, w ∈ wsX3_leapOn := by decide +kernel
  have f_15 := hts (.fieldLink RX3 15 "JumpBoard$Rules" "behind" "[I") (by decide +kernel)
  refine lv_aload_n hx hb dX3_leapOn_0 rfl (lv_at hl 1 rfl) ?_
  refine mm_Vp (v := (othP P)) (ci := 2) (As := []) (rest := []) ⟨hx, hb, hml, hown, hts⟩ hK hV (c_others l D dA (P := P)  i_a m_a) (cwV 0 hts gX3_leapOn_X2_others rfl rfl rfl (by decide +kernel) (mm_levR hR (by omega) (by decide))) i_a m_a rfl rfl hl.1 rfl (Nat.le_of_ble_eq_true rfl) dX3_leapOn_1 ⟨Nat.zero_le _, Nat.zero_le _⟩ (fun H locs hV => ?_)
  refine lv_iload hx hb dX3_leapOn_4 (lv_at hl 5 rfl) ?_
  refine lv_iconst (v := (-1)) hx hb dX3_leapOn_6 (by decide) ?_
  refine lv_ixor hx hb dX3_leapOn_7 ?_
  refine lv_iand hx hb dX3_leapOn_8 ?_
  refine lv_topi (fun x7 ex7 => ?_)
  refine lv_istore (lv' := [(7, .int x7), (0, .ref r), (1, .ref a), (2, .ref t), (3, .int x3), (4, .int x4), (5, .int x5), (6, .int x6)]) hx hb dX3_leapOn_9 hl (by decide) rfl (fun ls hl => ?_)
  refine lv_aload_n hx hb dX3_leapOn_11 rfl (lv_at hl 2 rfl) ?_
  refine mm_get (ci := 2) (C := RX2) (T := TX2) (N := 5) hx hb hts in_X2 hown hK hV i_a m_a rfl 0 (by decide) f_49 (fun _ h => h) rfl dX3_leapOn_12 ?_
  refine lv_aload_n hx hb dX3_leapOn_15 rfl (lv_at hl 2 rfl) ?_
  refine mm_get (ci := 2) (C := RX2) (T := TX2) (N := 5) hx hb hts in_X2 hown hK hV i_a m_a rfl 1 (by decide) f_52 (fun _ h => h) rfl dX3_leapOn_16 ?_
  refine lv_ior hx hb dX3_leapOn_19 ?_
  refine lv_iconst (v := 1) hx hb dX3_leapOn_20 (by decide) ?_
  refine lv_iload_n hx hb dX3_leapOn_21 rfl (lv_at hl 4 rfl) ?_
  refine lv_ishl hx hb dX3_leapOn_22 ?_
  refine lv_iconst (v := (-1)) hx hb dX3_leapOn_23 (by decide) ?_
  refine lv_ixor hx hb dX3_leapOn_24 ?_
  refine lv_iand hx hb dX3_leapOn_25 ?_
  refine lv_topi (fun x8 ex8 => ?_)
  refine lv_istore (lv' := [(8, .int x8), (7, .int x7), (0, .ref r), (1, .ref a), (2, .ref t), (3, .int x3), (4, .int x4), (5, .int x5), (6, .int x6)]) hx hb dX3_leapOn_26 hl (by decide) rfl (fun ls hl => ?_)
  have hx8 : x8 = fulP P &&& (((1 : Int32) <<< (nI s0 &&& 31)) ^^^ (-1)) := by rw [ex8, hs]; rfl
  refine lv_aload_n hx hb dX3_leapOn_28 rfl (lv_at hl 3 rfl) ?_
  refine lv_iload_n hx hb dX3_leapOn_29 rfl (lv_at hl 5 rfl) ?_
  refine mm_Sp (v := (lstD P x3)) (As := [.ref a, .int x3]) (rest := []) ⟨hx, hb, hml, hown, hts⟩ hK hV (c_lastD l D dA (P := P) x3 i_a m_a) (va_cwS 2 hts gX3_leapOn_X3_lastDirection rfl rfl rfl (by decide +kernel) (mm_levR hR (by omega) (by decide))) rfl hl.1 rfl (Nat.le_of_ble_eq_true rfl) dX3_leapOn_30 ⟨Nat.zero_le _, Nat.zero_le _⟩ (fun H locs hV => ?_)
  refine lv_topi (fun x9 ex9 => ?_)
  refine lv_istore (lv' := [(9, .int x9), (8, .int x8), (7, .int x7), (0, .ref r), (1, .ref a), (2, .ref t), (3, .int x3), (4, .int x4), (5, .int x5), (6, .int x6)]) hx hb dX3_leapOn_33 hl (by decide) rfl (fun ls hl => ?_)
  have hx9 : x9 = nI (lstN P s0) := by rw [ex9, hs]; exact lstN_eq P s0
  refine lv_iconst (v := 1) hx hb dX3_leapOn_35 (by decide) ?_
  refine lv_topi (fun x10 ex10 => ?_)
  refine lv_istore (lv' := [(10, .int x10), (9, .int x9), (8, .int x8), (7, .int x7), (0, .ref r), (1, .ref a), (2, .ref t), (3, .int x3), (4, .int x4), (5, .int x5), (6, .int x6)]) hx hb dX3_leapOn_36 hl (by decide) rfl (fun ls hl => ?_)
  refine lv_aload_n hx hb dX3_leapOn_38 rfl (lv_at hl 5 rfl) ?_
  refine lv_iload_n hx hb dX3_leapOn_39 rfl (lv_at hl 7 rfl) ?_
  refine mm_Sp (v := (fstD P x3)) (As := [.ref a, .int x3]) (rest := []) ⟨hx, hb, hml, hown, hts⟩ hK hV (c_firstD l D dA (P := P) x3 i_a m_a) (va_cwS 2 hts gX3_leapOn_X3_firstDirection rfl rfl rfl (by decide +kernel) (mm_levR hR (by omega) (by decide))) rfl hl.1 rfl (Nat.le_of_ble_eq_true rfl) dX3_leapOn_40 ⟨Nat.zero_le _, Nat.zero_le _⟩ (fun H locs hV => ?_)
  refine lv_topi (fun x11 ex11 => ?_)
  refine lv_istore (lv' := [(11, .int x11), (10, .int x10), (9, .int x9), (8, .int x8), (7, .int x7), (0, .ref r), (1, .ref a), (2, .ref t), (3, .int x3), (4, .int x4), (5, .int x5), (6, .int x6)]) hx hb dX3_leapOn_43 hl (by decide) rfl (fun ls hl => ?_)
  have hx11 : x11 = nI (fstN P s0) := by rw [ex11, hs]; exact fstN_eq P s0
  have hl3 := lstN_le P s0
  have hf2 := fstN_le P s0
  have K142 : ∀ (x10 : Int32) (f : Nat → Int32) (n : Nat) (M1 : mm_M) (H : Heap) (locs : List Loc) (ls : Array Slot), n ≤ 72 → RESW = ((f, n), x10) → mm_V A D L M1 s H locs → M1 r = .inr (3, [.ref nr, .ref bh]) → M1 nr = .inl (dA 0, 72, .inl nearT) → M1 bh = .inl (dA 0, 72, .inl behT) → M1 a = .inr (2, [.int P.1, .int P.2.1, .int P.2.2.1, .int P.2.2.2.1, .int P.2.2.2.2]) → M1 t = .inr (1, [.ref pk, .int (nI n)]) → M1 pk = .inl (dA 0, 72, .inl f) → (∀ q : Nat, q ≠ t → q ≠ pk → M1 q = M q) → lv_has ls 14 [(0, .ref r), (1, .ref a), (2, .ref t), (3, .int x3), (4, .int x4), (5, .int x5), (10, .int x10)] → W p l e R s m args below meth c H locs 0 0 Q (F0 m 142 ls []) := by
    intro x10 f n M1 H locs ls hn hRW hV m_r m_nr m_bh m_a m_t m_pk fr hl
    refine lv_iload hx hb dX3_leapOn_142 (lv_at hl 6 rfl) ?_
    refine lv_if_eq (tgt := 161) hx hb dX3_leapOn_144 (by decide) (fun c144 => ?_) (fun c144 => ?_)
    · have hfin : RES = (f, n) := by rw [eRES, lpF, ← eRESW, hRW, lpE, if_pos c144]
      exact hret dX3_leapOn_161 hV (by decide) (by decide) ⟨rfl, by rw [hfin]; exact mm_fin2 m_t m_pk hnt (fun q h0 h1 => fr q h0 h1)⟩
    · refine lv_iload hx hb dX3_leapOn_147 (lv_at hl 5 rfl) ?_
      refine lv_if_eq (tgt := 161) hx hb dX3_leapOn_149 (by decide) (fun c149 => ?_) (fun c149 => ?_)
      · have hfin : RES = (f, n) := by rw [eRES, lpF, ← eRESW, hRW, lpE, if_neg c144, if_pos c149]
        exact hret dX3_leapOn_161 hV (by decide) (by decide) ⟨rfl, by rw [hfin]; exact mm_fin2 m_t m_pk hnt (fun q h0 h1 => fr q h0 h1)⟩
      · have hfin : RES = enterF f n (packF x3 x4 x5) := by rw [eRES, lpF, ← eRESW, hRW, lpE, if_neg c144, if_neg c149, ← hs, ← hu]
        refine lv_aload_n hx hb dX3_leapOn_152 rfl (lv_at hl 2 rfl) ?_
        refine lv_iload_n hx hb dX3_leapOn_153 rfl (lv_at hl 3 rfl) ?_
        refine lv_iload hx hb dX3_leapOn_154 (lv_at hl 4 rfl) ?_
        refine lv_iload hx hb dX3_leapOn_156 (lv_at hl 5 rfl) ?_
        refine mm_Vm (ci := 1) (As := [.int x3, .int x4, .int x5]) (rest := []) ⟨hx, hb, hml, hown, hts⟩ hK hV (c_enter l D dA x3 x4 x5 hn i_t i_pk m_t m_pk) (cwV 3 hts gX3_leapOn_X1_enter rfl rfl rfl (by decide +kernel) (mm_levR hR (by omega) (by decide))) i_t m_t rfl rfl hl.1 rfl (Nat.le_of_ble_eq_true rfl) dX3_leapOn_158 ⟨Nat.zero_le _, Nat.zero_le _⟩ (fun M_1 H locs eM_1 hV => ?_)
        have m_r : M_1 r = _ := (congrFun eM_1 r).trans ((va_up_ne _ _ (mm_neq m_r m_pk (by intro h; cases h))).trans ((va_up_ne _ _ (mm_neq m_r m_t (by intro h; cases h))).trans m_r))
        have m_nr : M_1 nr = _ := (congrFun eM_1 nr).trans ((va_up_ne _ _ hne1).trans ((va_up_ne _ _ (mm_neq m_nr m_t (by intro h; cases h))).trans m_nr))
        have m_bh : M_1 bh = _ := (congrFun eM_1 bh).trans ((va_up_ne _ _ hne2).trans ((va_up_ne _ _ (mm_neq m_bh m_t (by intro h; cases h))).trans m_bh))
        have m_a : M_1 a = _ := (congrFun eM_1 a).trans ((va_up_ne _ _ (mm_neq m_a m_pk (by intro h; cases h))).trans ((va_up_ne _ _ (mm_neq m_a m_t (by intro h; cases h))).trans m_a))
        have m_t : M_1 t = .inr (1, [.ref pk, .int (nI (enterF f n (packF x3 x4 x5)).2)]) := (congrFun eM_1 t).trans ((va_up_ne _ _ hnt).trans (va_up_self _ _ _))
        have m_pk : M_1 pk = .inl (dA 0, 72, .inl ((enterF f n (packF x3 x4 x5)).1)) := (congrFun eM_1 pk).trans (va_up_self _ _ _)
        have fr : ∀ q : Nat, q ≠ t → q ≠ pk → M_1 q = M q := fun q h0 h1 => (congrFun eM_1 q).trans ((va_up_ne _ _ h1).trans ((va_up_ne _ _ h0).trans (fr q h0 h1)))
        exact hret dX3_leapOn_161 hV (by decide) (by decide) ⟨rfl, by rw [hfin]; exact mm_fin2 m_t m_pk hnt (fun q h0 h1 => fr q h0 h1)⟩
  have LP : ∀ (k w : Nat) (x10 x11 : Int32) (f : Nat → Int32) (n : Nat) (M1 : mm_M) (H : Heap) (locs : List Loc) (ls : Array Slot), w + k = 4 → x11 = nI w → n ≤ 72 → lpW P s0 d u x5 rc k w x10 (f, n) = RESW → mm_V A D L M1 s H locs → M1 r = .inr (3, [.ref nr, .ref bh]) → M1 nr = .inl (dA 0, 72, .inl nearT) → M1 bh = .inl (dA 0, 72, .inl behT) → M1 a = .inr (2, [.int P.1, .int P.2.1, .int P.2.2.1, .int P.2.2.2.1, .int P.2.2.2.2]) → M1 t = .inr (1, [.ref pk, .int (nI n)]) → M1 pk = .inl (dA 0, 72, .inl f) → (∀ q : Nat, q ≠ t → q ≠ pk → M1 q = M q) → lv_has ls 14 [(0, .ref r), (1, .ref a), (2, .ref t), (3, .int x3), (4, .int x4), (5, .int x5), (6, .int x6), (7, .int x7), (8, .int x8), (9, .int x9), (10, .int x10), (11, .int x11)] → W p l e R s m args below meth c H locs 0 0 Q (F0 m 45 ls []) := by
    intro k
    induction k with
    | zero =>
      intro w x10 x11 f n M1 H locs ls hwk hx11 hn hres hV m_r m_nr m_bh m_a m_t m_pk fr hl
      refine lv_iload hx hb dX3_leapOn_45 (lv_at hl 11 rfl) ?_
      refine lv_iload hx hb dX3_leapOn_47 (lv_at hl 9 rfl) ?_
      refine lv_icmp_gt (tgt := 142) hx hb dX3_leapOn_49 (by decide) (fun c49 => ?_) (fun c49 => ?_)
      · have hlw : lstN P s0 < w := (nI_ltI (by omega) (by omega)).mp (by rw [← hx9, ← hx11]; exact c49)
        exact K142 x10 f n M1 _ _ ls hn (by rw [← hres]; rfl) hV m_r m_nr m_bh m_a m_t m_pk fr (lv_sub hl [0, 1, 2, 3, 4, 5, 10] rfl)
      · exact absurd (by rw [hx9, hx11]; exact nI_lt (by omega) (by omega)) c49
    | succ k ih2 =>
      intro w x10 x11 f n M1 H locs ls hwk hx11 hn hres hV m_r m_nr m_bh m_a m_t m_pk fr hl
      refine lv_iload hx hb dX3_leapOn_45 (lv_at hl 11 rfl) ?_
      refine lv_iload hx hb dX3_leapOn_47 (lv_at hl 9 rfl) ?_
      refine lv_icmp_gt (tgt := 142) hx hb dX3_leapOn_49 (by decide) (fun c49 => ?_) (fun c49 => ?_)
      · have hlw : lstN P s0 < w := (nI_ltI (by omega) (by omega)).mp (by rw [← hx9, ← hx11]; exact c49)
        exact K142 x10 f n M1 _ _ ls hn (by rw [← hres, lpW, if_pos hlw]) hV m_r m_nr m_bh m_a m_t m_pk fr (lv_sub hl [0, 1, 2, 3, 4, 5, 10] rfl)
      · have hlw : ¬ lstN P s0 < w := fun h => c49 (by rw [hx9, hx11]; exact nI_lt h (by omega))
        refine lv_iload hx hb dX3_leapOn_52 (lv_at hl 6 rfl) ?_
        refine lv_bipush (v := 18) hx hb dX3_leapOn_54 (by decide) ?_
        refine lv_icmp_ge (tgt := 142) hx hb dX3_leapOn_56 (by decide) (fun c56 => ?_) (fun c56 => ?_)
        · have hd0 : d = 0 := Nat.eq_zero_of_not_pos (fun hp => absurd c56 (by rw [hl6]; exact nI_ge (b := 18) (by omega) (by decide)))
          exact K142 x10 f n M1 _ _ ls hn (by rw [← hres, lpW, if_neg hlw, if_pos hd0]) hV m_r m_nr m_bh m_a m_t m_pk fr (lv_sub hl [0, 1, 2, 3, 4, 5, 10] rfl)
        · have hd0 : 0 < d := Nat.pos_of_ne_zero (fun hz => c56 (by rw [hl6, hz]; exact Int32.le_refl _))
          refine lv_aload_n hx hb dX3_leapOn_59 rfl (lv_at hl 0 rfl) ?_
          refine mm_get (ci := 3) (C := RX3) (T := TX3) (N := 2) hx hb hts in_X3 hown hK hV i_r m_r rfl 0 (by decide) f_9 (fun _ h => h) rfl dX3_leapOn_60 ?_
          refine lv_iload hx hb dX3_leapOn_63 (lv_at hl 4 rfl) ?_
          refine lv_iconst (v := 4) hx hb dX3_leapOn_65 (by decide) ?_
          refine lv_imul hx hb dX3_leapOn_66 ?_
          refine lv_iload hx hb dX3_leapOn_67 (lv_at hl 11 rfl) ?_
          refine lv_iadd hx hb dX3_leapOn_69 ?_
          refine mm_ialdN (j := (4 * u + w)) hx hb hK hV i_nr m_nr (ixN hu hx11) (by omega) (by decide) dX3_leapOn_70 ?_
          refine lv_topi (fun x12 ex12 => ?_)
          refine lv_istore (lv' := [(12, .int x12), (0, .ref r), (1, .ref a), (2, .ref t), (3, .int x3), (4, .int x4), (5, .int x5), (6, .int x6), (7, .int x7), (8, .int x8), (9, .int x9), (10, .int x10), (11, .int x11)]) hx hb dX3_leapOn_71 hl (by decide) rfl (fun ls hl => ?_)
          refine lv_aload_n hx hb dX3_leapOn_73 rfl (lv_at hl 1 rfl) ?_
          refine mm_get (ci := 3) (C := RX3) (T := TX3) (N := 2) hx hb hts in_X3 hown hK hV i_r m_r rfl 1 (by decide) f_15 (fun _ h => h) rfl dX3_leapOn_74 ?_
          refine lv_iload hx hb dX3_leapOn_77 (lv_at hl 5 rfl) ?_
          refine lv_iconst (v := 4) hx hb dX3_leapOn_79 (by decide) ?_
          refine lv_imul hx hb dX3_leapOn_80 ?_
          refine lv_iload hx hb dX3_leapOn_81 (lv_at hl 12 rfl) ?_
          refine lv_iadd hx hb dX3_leapOn_83 ?_
          refine mm_ialdN (j := (4 * u + w)) hx hb hK hV i_bh m_bh (ixN hu hx11) (by omega) (by decide) dX3_leapOn_84 ?_
          refine lv_topi (fun x13 ex13 => ?_)
          refine lv_istore (lv' := [(13, .int x13), (12, .int x12), (0, .ref r), (1, .ref a), (2, .ref t), (3, .int x3), (4, .int x4), (5, .int x5), (6, .int x6), (7, .int x7), (8, .int x8), (9, .int x9), (10, .int x10), (11, .int x11)]) hx hb dX3_leapOn_85 hl (by decide) rfl (fun ls hl => ?_)
          refine lv_iload hx hb dX3_leapOn_87 (lv_at hl 0 rfl) ?_
          refine lv_iconst (v := (-1)) hx hb dX3_leapOn_89 (by decide) ?_
          refine lv_icmp_eq (tgt := 136) hx hb dX3_leapOn_90 (by decide) (fun c90 => ?_) (fun c90 => ?_)
          · obtain ⟨x11_n, ex11_n⟩ : ∃ y : Int32, y = x11 + 1 := ⟨_, rfl⟩
            refine lv_iinc (v := x11_n) (lv' := [(11, .int x11_n), (13, .int x13), (12, .int x12), (0, .ref r), (1, .ref a), (2, .ref t), (3, .int x3), (4, .int x4), (5, .int x5), (6, .int x6), (7, .int x7), (8, .int x8), (9, .int x9), (10, .int x10)]) hx hb dX3_leapOn_136 hl (k := 13) rfl (by rw [ex11_n]; rfl) (by decide) rfl (fun ls hl => ?_)
            refine lv_goto (tgt := 45) hx hb dX3_leapOn_139 (by decide) ?_
            exact ih2 (w + 1) x10 x11_n f n M1 _ _ ls (by omega) (by rw [ex11_n, hx11]; exact nI_1 w) hn (by rw [← hres, lpW, if_neg hlw, if_neg (Nat.ne_of_gt hd0), if_neg (fun h => h.1 (by rw [← ex13]; exact c90))]) hV m_r m_nr m_bh m_a m_t m_pk fr (lv_sub hl [3, 4, 5, 6, 7, 8, 9, 10, 11, 12, 13, 0] rfl)
          · have hg := (beh_ok (4 * u + w) (by omega)).resolve_left (by rw [← ex13]; exact c90)
            have hx13 : x13 = nI (behT (4 * u + w)).toNatClampNeg := by rw [ex13]; exact hg.2
            refine lv_iload hx hb dX3_leapOn_93 (lv_at hl 9 rfl) ?_
            refine lv_iload hx hb dX3_leapOn_95 (lv_at hl 1 rfl) ?_
            refine lv_ishr hx hb dX3_leapOn_97 ?_
            refine lv_iconst (v := 1) hx hb dX3_leapOn_98 (by decide) ?_
            refine lv_iand hx hb dX3_leapOn_99 ?_
            refine lv_if_eq (tgt := 136) hx hb dX3_leapOn_100 (by decide) (fun c100 => ?_) (fun c100 => ?_)
            · obtain ⟨x11_n, ex11_n⟩ : ∃ y : Int32, y = x11 + 1 := ⟨_, rfl⟩
              refine lv_iinc (v := x11_n) (lv' := [(11, .int x11_n), (13, .int x13), (12, .int x12), (0, .ref r), (1, .ref a), (2, .ref t), (3, .int x3), (4, .int x4), (5, .int x5), (6, .int x6), (7, .int x7), (8, .int x8), (9, .int x9), (10, .int x10)]) hx hb dX3_leapOn_136 hl (k := 13) rfl (by rw [ex11_n]; rfl) (by decide) rfl (fun ls hl => ?_)
              refine lv_goto (tgt := 45) hx hb dX3_leapOn_139 (by decide) ?_
              exact ih2 (w + 1) x10 x11_n f n M1 _ _ ls (by omega) (by rw [ex11_n, hx11]; exact nI_1 w) hn (by rw [← hres, lpW, if_neg hlw, if_neg (Nat.ne_of_gt hd0), if_neg (fun h => h.2.1 (by rw [← ex7, ← ex12]; exact c100))]) hV m_r m_nr m_bh m_a m_t m_pk fr (lv_sub hl [3, 4, 5, 6, 7, 8, 9, 10, 11, 12, 13, 0] rfl)
            · refine lv_iload hx hb dX3_leapOn_103 (lv_at hl 10 rfl) ?_
              refine lv_iload hx hb dX3_leapOn_105 (lv_at hl 0 rfl) ?_
              refine lv_ishr hx hb dX3_leapOn_107 ?_
              refine lv_iconst (v := 1) hx hb dX3_leapOn_108 (by decide) ?_
              refine lv_iand hx hb dX3_leapOn_109 ?_
              refine lv_if_ne (tgt := 136) hx hb dX3_leapOn_110 (by decide) (fun c110 => ?_) (fun c110 => ?_)
              · obtain ⟨x11_n, ex11_n⟩ : ∃ y : Int32, y = x11 + 1 := ⟨_, rfl⟩
                refine lv_iinc (v := x11_n) (lv' := [(11, .int x11_n), (13, .int x13), (12, .int x12), (0, .ref r), (1, .ref a), (2, .ref t), (3, .int x3), (4, .int x4), (5, .int x5), (6, .int x6), (7, .int x7), (8, .int x8), (9, .int x9), (10, .int x10)]) hx hb dX3_leapOn_136 hl (k := 13) rfl (by rw [ex11_n]; rfl) (by decide) rfl (fun ls hl => ?_)
                refine lv_goto (tgt := 45) hx hb dX3_leapOn_139 (by decide) ?_
                exact ih2 (w + 1) x10 x11_n f n M1 _ _ ls (by omega) (by rw [ex11_n, hx11]; exact nI_1 w) hn (by rw [← hres, lpW, if_neg hlw, if_neg (Nat.ne_of_gt hd0), if_neg (fun h => c110 (by rw [hx8, ex13]; exact h.2.2))]) hV m_r m_nr m_bh m_a m_t m_pk fr (lv_sub hl [3, 4, 5, 6, 7, 8, 9, 10, 11, 12, 13, 0] rfl)
              · refine lv_iconst (v := 0) hx hb dX3_leapOn_113 (by decide) ?_
                refine lv_topi (fun x10_n ex10_n => ?_)
                refine lv_istore (lv' := [(10, .int x10_n), (13, .int x13), (12, .int x12), (0, .ref r), (1, .ref a), (2, .ref t), (3, .int x3), (4, .int x4), (5, .int x5), (6, .int x6), (7, .int x7), (8, .int x8), (9, .int x9), (11, .int x11)]) hx hb dX3_leapOn_114 hl (by decide) rfl (fun ls hl => ?_)
                refine lv_aload_n hx hb dX3_leapOn_116 rfl (lv_at hl 3 rfl) ?_
                refine lv_aload_n hx hb dX3_leapOn_117 rfl (lv_at hl 4 rfl) ?_
                refine lv_aload_n hx hb dX3_leapOn_118 rfl (lv_at hl 5 rfl) ?_
                refine lv_iload_n hx hb dX3_leapOn_119 rfl (lv_at hl 6 rfl) ?_
                refine lv_iload hx hb dX3_leapOn_120 (lv_at hl 1 rfl) ?_
                refine lv_iload hx hb dX3_leapOn_122 (lv_at hl 8 rfl) ?_
                refine lv_iconst (v := 1) hx hb dX3_leapOn_124 (by decide) ?_
                refine lv_iload hx hb dX3_leapOn_125 (lv_at hl 2 rfl) ?_
                refine lv_ishl hx hb dX3_leapOn_127 ?_
                refine lv_ior hx hb dX3_leapOn_128 ?_
                refine lv_iload hx hb dX3_leapOn_129 (lv_at hl 9 rfl) ?_
                refine lv_iconst (v := 1) hx hb dX3_leapOn_131 (by decide) ?_
                refine lv_iadd hx hb dX3_leapOn_132 ?_
                refine mm_Vm (ci := 3) (As := [.ref a, .ref t, .int x3, .int x13, .int (x5 ||| (1 <<< (x12 &&& 31))), .int (x6 + 1)]) (rest := []) ⟨hx, hb, hml, hown, hts⟩ hK hV (ih hd0 M1 ((behT (4 * u + w)).toNatClampNeg) (x5 ||| (1 <<< (x12 &&& 31))) x3 x13 (x6 + 1) f n hs hx13 hg.1 (by rw [hl6]; exact (nI_1 _).trans (congrArg nI (by omega))) ⟨i_r, i_nr, i_bh, m_r, m_nr, m_bh⟩ m_a ⟨i_t, i_pk, m_t, m_pk, hn⟩) (cwV 6 hts gX3_leapOn_X3_leapOn rfl rfl rfl (by decide +kernel) (mm_levR hR (by omega) (by decide))) i_r m_r rfl rfl hl.1 rfl (Nat.le_of_ble_eq_true rfl) dX3_leapOn_133 ⟨Nat.zero_le _, Nat.zero_le _⟩ (fun M_2 H locs eM_2 hV => ?_)
                have m_r : M_2 r = _ := (congrFun eM_2 r).trans ((va_up_ne _ _ (mm_neq m_r m_pk (by intro h; cases h))).trans ((va_up_ne _ _ (mm_neq m_r m_t (by intro h; cases h))).trans m_r))
                have m_nr : M_2 nr = _ := (congrFun eM_2 nr).trans ((va_up_ne _ _ hne1).trans ((va_up_ne _ _ (mm_neq m_nr m_t (by intro h; cases h))).trans m_nr))
                have m_bh : M_2 bh = _ := (congrFun eM_2 bh).trans ((va_up_ne _ _ hne2).trans ((va_up_ne _ _ (mm_neq m_bh m_t (by intro h; cases h))).trans m_bh))
                have m_a : M_2 a = _ := (congrFun eM_2 a).trans ((va_up_ne _ _ (mm_neq m_a m_pk (by intro h; cases h))).trans ((va_up_ne _ _ (mm_neq m_a m_t (by intro h; cases h))).trans m_a))
                have m_t : M_2 t = .inr (1, [.ref pk, .int (nI (rc (behT (4 * u + w)).toNatClampNeg (x5 ||| (1 <<< (x12 &&& 31))) (f, n)).2)]) := (congrFun eM_2 t).trans ((va_up_ne _ _ hnt).trans (va_up_self _ _ _))
                have m_pk : M_2 pk = .inl (dA 0, 72, .inl ((rc (behT (4 * u + w)).toNatClampNeg (x5 ||| (1 <<< (x12 &&& 31))) (f, n)).1)) := (congrFun eM_2 pk).trans (va_up_self _ _ _)
                have fr : ∀ q : Nat, q ≠ t → q ≠ pk → M_2 q = M q := fun q h0 h1 => (congrFun eM_2 q).trans ((va_up_ne _ _ h1).trans ((va_up_ne _ _ h0).trans (fr q h0 h1)))
                obtain ⟨x11_n, ex11_n⟩ : ∃ y : Int32, y = x11 + 1 := ⟨_, rfl⟩
                refine lv_iinc (v := x11_n) (lv' := [(11, .int x11_n), (10, .int x10_n), (13, .int x13), (12, .int x12), (0, .ref r), (1, .ref a), (2, .ref t), (3, .int x3), (4, .int x4), (5, .int x5), (6, .int x6), (7, .int x7), (8, .int x8), (9, .int x9)]) hx hb dX3_leapOn_136 hl (k := 13) rfl (by rw [ex11_n]; rfl) (by decide) rfl (fun ls hl => ?_)
                refine lv_goto (tgt := 45) hx hb dX3_leapOn_139 (by decide) ?_
                exact ih2 (w + 1) x10_n x11_n ((rc (behT (4 * u + w)).toNatClampNeg (x5 ||| (1 <<< (x12 &&& 31))) (f, n)).1) ((rc (behT (4 * u + w)).toNatClampNeg (x5 ||| (1 <<< (x12 &&& 31))) (f, n)).2) M_2 _ _ ls (by omega) (by rw [ex11_n, hx11]; exact nI_1 w) (hrc _ _ _ hn) (by rw [← hres, lpW, if_neg hlw, if_neg (Nat.ne_of_gt hd0), if_pos ⟨by rw [← ex13]; exact c90, by rw [← ex7, ← ex12]; exact c100, by rw [← hx8, ← ex13]; exact c110⟩, ← ex12, ← ex10_n]) hV m_r m_nr m_bh m_a m_t m_pk fr (lv_sub hl [4, 5, 6, 7, 8, 9, 10, 11, 12, 13, 1, 0] rfl)
  exact LP (4 - fstN P s0) (fstN P s0) x10 x11 f n M H locs ls (by omega) hx11 hn (by rw [ex10]; exact eRESW.symm) hV m_r m_nr m_bh m_a m_t m_pk (fun q _ _ => rfl) (lv_sub hl [5, 6, 7, 8, 9, 10, 11, 4, 3, 2, 1, 0] rfl)

/-- leapOn: the jumps of the piece on s0 -/
theorem c_leapOn (l : Launch) (D : va_G) (dA : Nat → ClassId) {L : List Nat} {r nr bh a t pk : Nat} {P : Ps} {s0 : Nat} (hne1 : nr ≠ pk) (hne2 : bh ≠ pk) (i_a : a ∈ L) : ∀ (d : Nat), d ≤ 18 → ∀ (M : mm_M) (u : Nat) (T xs xu xl : Int32) (f : Nat → Int32) (n : Nat), xs = nI s0 → xu = nI u → u < 18 → xl = nI (18 - d) → ruW dA L M r nr bh → M a = oP P → liW dA L M t pk f n → mm_Cm l D dA yX3_leapOn wsX3_leapOn (d + 2) [.ref r, .ref a, .ref t, .int xs, .int xu, .int T, .int xl] L M (fun M1 => M1 = va_up (va_up M t (oL pk (nI (leapF P s0 d u T (f, n)).2))) pk (.inl (dA 0, 72, .inl (leapF P s0 d u T (f, n)).1))) := by
  intro d
  induction d with
  | zero =>
    intro hd M u T xs xu xl f n hs hu hu18 hl hr hm hli
    exact c_leapOn_step l D dA (d := 0) (rc := fun _ _ S => S) xs xu T xl hs hu hu18 hl hd (fun _ _ _ h => h) (fun h => absurd h (by omega)) hr i_a hm hli hne1 hne2
  | succ d ih =>
    intro hd M u T xs xu xl f n hs hu hu18 hl hr hm hli
    exact c_leapOn_step l D dA (d := d + 1) (rc := leapF P s0 d) xs xu T xl hs hu hu18 hl hd (fun u T S h => leapF_le d u T S h) (fun _ M u T xs xu xl f n h1 h2 h3 h4 h5 h6 h7 => ih (by omega) M u T xs xu xl f n h1 h2 h3 h4 h5 h6 h7) hr i_a hm hli hne1 hne2
