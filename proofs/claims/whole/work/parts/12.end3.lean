set_option maxHeartbeats 1000000 in
set_option maxRecDepth 100000 in
theorem c_settle (l : Launch) (D : va_G) (dA : Nat → ClassId) {L : List Nat} {M : mm_M} {en vd ct nz : Nat} {vf0 cf nf : Nat → Int32} {CN : Nat → Nat} {NX : Nat → Nat → Nat} (he : enW dA L M en vd ct nz vf0 cf nf) (hc : enC cf nf CN NX) : mm_Cm l D dA yX0_settle wsX0_settle 2 [.ref en] L M (fun M1 => M1 = va_up M vd (.inl (dA 1, 1297, .inl (stK CN NX 1295 1 1 vf0)))) := by
  obtain ⟨i_en, i_vd, i_ct, i_nz, m_en, m_vd, m_ct, m_nz⟩ := he
  obtain ⟨RES, eRES⟩ : ∃ z, z = stK CN NX 1295 1 1 vf0 := ⟨_, rfl⟩
  rw [← eRES]
  refine mm_enter_v (cc := cX0_settle) (maxL := 3) (by decide) rfl (Nat.le_of_ble_eq_true rfl) ?_
  intro p e R s m args below meth c A ls H locs Q hR hx hb hml hin hown hts hK hV hl hret
  have hl : lv_has ls 3 [(0, .ref en)] := hl
  have hown : s.vm.findClass RX0 = some m.cls := hown
  refine lv_iconst (v := 1) hx hb dX0_settle_0 (by decide) ?_
  refine lv_topi (fun x1 ex1 => ?_)
  refine lv_istore_n (lv' := [(1, .int x1), (0, .ref en)]) hx hb dX0_settle_1 rfl hl (by decide) rfl (fun ls hl => ?_)
  refine lv_iconst (v := 1) hx hb dX0_settle_2 (by decide) ?_
  refine lv_topi (fun x2 ex2 => ?_)
  refine lv_istore_n (lv' := [(2, .int x2), (1, .int x1), (0, .ref en)]) hx hb dX0_settle_3 rfl hl (by decide) rfl (fun ls hl => ?_)
  have LP : ∀ (k n : Nat) (x1 x2 : Int32) (vf : Nat → Int32) (M1 : mm_M) (H : Heap) (locs : List Loc) (ls : Array Slot), n + k = 1296 → x2 = nI n → stK CN NX k n x1 vf = RES → mm_V A D L M1 s H locs → M1 en = .inr (0, [.ref vd, .ref ct, .ref nz]) → M1 vd = .inl (dA 1, 1297, .inl vf) → M1 ct = .inl (dA 1, 1296, .inl cf) → M1 nz = .inl (dA 2, 5184, .inl nf) → (∀ q : Nat, q ≠ vd → M1 q = M q) → lv_has ls 3 [(0, .ref en), (1, .int x1), (2, .int x2)] → W p l e R s m args below meth c H locs 0 0 Q (F0 m 4 ls []) := by
    intro k
    induction k with
    | zero =>
      intro n x1 x2 vf M1 H locs ls hnk hx2 hres hV m_en m_vd m_ct m_nz fr hl
      refine lv_iload_n hx hb dX0_settle_4 rfl (lv_at hl 2 rfl) ?_
      refine lv_sipush (v := 1296) hx hb dX0_settle_5 (by decide) ?_
      refine lv_icmp_ge (tgt := 42) hx hb dX0_settle_8 (by decide) (fun c8 => ?_) (fun c8 => ?_)
      · have hres2 : RES = vf := hres.symm
        exact hret dX0_settle_42 hV (by decide) (by decide) ⟨rfl, by rw [hres2]; exact mm_fin1 m_vd fr⟩
      · exact absurd (by rw [hx2]; exact nI_le (a := 1296) (by omega) (by omega)) c8
    | succ k ih =>
      intro n x1 x2 vf M1 H locs ls hnk hx2 hres hV m_en m_vd m_ct m_nz fr hl
      refine lv_iload_n hx hb dX0_settle_4 rfl (lv_at hl 2 rfl) ?_
      refine lv_sipush (v := 1296) hx hb dX0_settle_5 (by decide) ?_
      refine lv_icmp_ge (tgt := 42) hx hb dX0_settle_8 (by decide) (fun c8 => ?_) (fun c8 => ?_)
      · exact absurd c8 (by rw [hx2]; exact nI_ge (b := 1296) (by omega) (by decide))
      · refine lv_iload_n hx hb dX0_settle_11 rfl (lv_at hl 1 rfl) ?_
        refine lv_if_eq (tgt := 42) hx hb dX0_settle_12 (by decide) (fun c12 => ?_) (fun c12 => ?_)
        · have hres2 : RES = vf := by rw [← hres, stK, if_pos c12]
          exact hret dX0_settle_42 hV (by decide) (by decide) ⟨rfl, by rw [hres2]; exact mm_fin1 m_vd fr⟩
        · refine lv_iload_n hx hb dX0_settle_15 rfl (lv_at hl 2 rfl) ?_
          refine lv_iconst (v := 2) hx hb dX0_settle_16 (by decide) ?_
          refine lv_irem hx hb dX0_settle_17 (by decide) ?_
          refine lv_iconst (v := 1) hx hb dX0_settle_18 (by decide) ?_
          refine lv_icmp_ne (tgt := 30) hx hb dX0_settle_19 (by decide) (fun c19 => ?_) (fun c19 => ?_)
          · have hodd : ¬ n % 2 = 1 := fun h => c19 (by rw [hx2]; exact (pk_rem (d := 2) (by omega) (by decide) (by decide)).trans (congrArg nI h))
            refine lv_aload_n hx hb dX0_settle_30 rfl (lv_at hl 0 rfl) ?_
            refine lv_iload_n hx hb dX0_settle_31 rfl (lv_at hl 2 rfl) ?_
            refine mm_Vn (ci := 0) (As := [.int x2]) (rest := []) ⟨hx, hb, hml, hown, hts⟩ hK hV (c_fl l D dA (CN := CN) (NX := NX) x2 ⟨i_en, i_vd, i_ct, i_nz, m_en, m_vd, m_ct, m_nz⟩ hc) (cwV 1 hts gX0_settle_X0_findLosses rfl rfl rfl (by decide +kernel) (mm_levR hR (by omega) (by decide))) i_en m_en rfl rfl hl.1 rfl (Nat.le_of_ble_eq_true rfl) dX0_settle_32 ⟨Nat.zero_le _, Nat.zero_le _⟩ (fun r_2 M_1 H locs hp hV => ?_)
            obtain ⟨er_2, eM_1⟩ := hp
            have m_en : M_1 en = _ := (congrFun eM_1 en).trans ((va_up_ne _ _ (mm_neq m_en m_vd (by intro h; cases h))).trans m_en)
            have m_ct : M_1 ct = _ := (congrFun eM_1 ct).trans ((va_up_ne _ _ (mm_neq m_ct m_vd (mm_nelen (by decide)))).trans m_ct)
            have m_nz : M_1 nz = _ := (congrFun eM_1 nz).trans ((va_up_ne _ _ (mm_neq m_nz m_vd (mm_nelen (by decide)))).trans m_nz)
            have m_vd : M_1 vd = .inl (dA 1, 1297, .inl ((flK x2 CN NX 1296 0 vf 0).1)) := by rw [eM_1]; exact va_up_self _ _ _
            have fr : ∀ q : Nat, q ≠ vd → M_1 q = M q := fun q h0 => (congrFun eM_1 q).trans ((va_up_ne _ _ h0).trans (fr q h0))
            refine lv_istore_n (lv' := [(1, .int r_2), (0, .ref en), (2, .int x2)]) hx hb dX0_settle_35 rfl hl (by decide) rfl (fun ls hl => ?_)
            obtain ⟨x2_n, ex2_n⟩ : ∃ y : Int32, y = x2 + 1 := ⟨_, rfl⟩
            refine lv_iinc (v := x2_n) (lv' := [(2, .int x2_n), (1, .int r_2), (0, .ref en)]) hx hb dX0_settle_36 hl (k := 2) rfl (by rw [ex2_n]; rfl) (by decide) rfl (fun ls hl => ?_)
            refine lv_goto (tgt := 4) hx hb dX0_settle_39 (by decide) ?_
            exact ih (n + 1) r_2 x2_n (flK x2 CN NX 1296 0 vf 0).1 M_1 _ _ ls (by omega) (by rw [ex2_n, hx2]; exact nI_1 n) (by rw [← hres, stK, if_neg c12, if_neg hodd, er_2, hx2]) hV m_en m_vd m_ct m_nz fr (lv_sub hl [2, 1, 0] rfl)
          · have hodd : n % 2 = 1 := by
              rw [hx2] at c19
              exact (nI_eq (by omega) (by decide)).mp ((pk_rem (d := 2) (by omega) (by decide) (by decide)).symm.trans c19)
            refine lv_aload_n hx hb dX0_settle_22 rfl (lv_at hl 0 rfl) ?_
            refine lv_iload_n hx hb dX0_settle_23 rfl (lv_at hl 2 rfl) ?_
            refine mm_Vn (ci := 0) (As := [.int x2]) (rest := []) ⟨hx, hb, hml, hown, hts⟩ hK hV (c_fw l D dA (CN := CN) (NX := NX) x2 ⟨i_en, i_vd, i_ct, i_nz, m_en, m_vd, m_ct, m_nz⟩ hc) (cwV 1 hts gX0_settle_X0_findWins rfl rfl rfl (by decide +kernel) (mm_levR hR (by omega) (by decide))) i_en m_en rfl rfl hl.1 rfl (Nat.le_of_ble_eq_true rfl) dX0_settle_24 ⟨Nat.zero_le _, Nat.zero_le _⟩ (fun r_4 M_3 H locs hp hV => ?_)
            obtain ⟨er_4, eM_3⟩ := hp
            have m_en : M_3 en = _ := (congrFun eM_3 en).trans ((va_up_ne _ _ (mm_neq m_en m_vd (by intro h; cases h))).trans m_en)
            have m_ct : M_3 ct = _ := (congrFun eM_3 ct).trans ((va_up_ne _ _ (mm_neq m_ct m_vd (mm_nelen (by decide)))).trans m_ct)
            have m_nz : M_3 nz = _ := (congrFun eM_3 nz).trans ((va_up_ne _ _ (mm_neq m_nz m_vd (mm_nelen (by decide)))).trans m_nz)
            have m_vd : M_3 vd = .inl (dA 1, 1297, .inl ((fwK x2 CN NX 1296 0 vf 0).1)) := by rw [eM_3]; exact va_up_self _ _ _
            have fr : ∀ q : Nat, q ≠ vd → M_3 q = M q := fun q h0 => (congrFun eM_3 q).trans ((va_up_ne _ _ h0).trans (fr q h0))
            refine lv_goto (tgt := 35) hx hb dX0_settle_27 (by decide) ?_
            refine lv_istore_n (lv' := [(1, .int r_4), (0, .ref en), (2, .int x2)]) hx hb dX0_settle_35 rfl hl (by decide) rfl (fun ls hl => ?_)
            obtain ⟨x2_n, ex2_n⟩ : ∃ y : Int32, y = x2 + 1 := ⟨_, rfl⟩
            refine lv_iinc (v := x2_n) (lv' := [(2, .int x2_n), (1, .int r_4), (0, .ref en)]) hx hb dX0_settle_36 hl (k := 2) rfl (by rw [ex2_n]; rfl) (by decide) rfl (fun ls hl => ?_)
            refine lv_goto (tgt := 4) hx hb dX0_settle_39 (by decide) ?_
            exact ih (n + 1) r_4 x2_n (fwK x2 CN NX 1296 0 vf 0).1 M_3 _ _ ls (by omega) (by rw [ex2_n, hx2]; exact nI_1 n) (by rw [← hres, stK, if_neg c12, if_pos hodd, er_4, hx2]) hV m_en m_vd m_ct m_nz fr (lv_sub hl [2, 1, 0] rfl)
  exact LP 1295 1 x1 x2 vf0 M H locs ls rfl (by rw [ex2]; rfl) (by rw [ex1]; exact eRES.symm) hV m_en m_vd m_ct m_nz (fun q _ => rfl) (lv_sub hl [2, 1, 0] rfl)

set_option maxHeartbeats 1000000 in
set_option maxRecDepth 100000 in
theorem c_look (l : Launch) (D : va_G) (dA : Nat → ClassId) {L : List Nat} {M : mm_M} {en vd ct nz a : Nat} {vf cf nf : Nat → Int32} {P : Ps} {q0 : Nat} (he : enW dA L M en vd ct nz vf cf nf) (i_a : a ∈ L) (m_a : M a = oP P) (hq : numF P = nI q0) (hq2 : q0 ≤ 1296) : mm_Cp l D dA yX0_look wsX0_look 3 [.ref en, .ref a] L M (vf q0) := by
  obtain ⟨i_en, i_vd, i_ct, i_nz, m_en, m_vd, m_ct, m_nz⟩ := he
  have m_a : M a = .inr (2, [.int P.1, .int P.2.1, .int P.2.2.1, .int P.2.2.2.1, .int P.2.2.2.2]) := m_a
  refine mm_enter_i (cc := cX0_look) (maxL := 2) (by decide) rfl (Nat.le_of_ble_eq_true rfl) ?_
  intro p e R s m args below meth c A ls H locs Q hR hx hb hml hin hown hts hK hV hl hret
  have hl : lv_has ls 2 [(0, .ref en), (1, .ref a)] := hl
  have hown : s.vm.findClass RX0 = some m.cls := hown
  have f_11 := hts (.fieldLink RX0 11 "JumpBoard$Endings" "verdicts" "[B") (by decide +kernel)
  have in_X0 : ∀ w ∈ wsX00, w ∈ wsX0_look := by decide +kernel
  refine lv_aload_n hx hb dX0_look_0 rfl (lv_at hl 0 rfl) ?_
  refine mm_get (ci := 0) (C := RX0) (T := TX0) (N := 3) hx hb hts in_X0 hown hK hV i_en m_en rfl 0 (by decide) f_11 (fun _ h => h) rfl dX0_look_1 ?_
  refine lv_aload_n hx hb dX0_look_4 rfl (lv_at hl 1 rfl) ?_
  refine mm_Sp (v := (numF P)) (As := [.ref a]) (rest := [.ref vd]) ⟨hx, hb, hml, hown, hts⟩ hK hV (c_number l D dA (P := P) i_a m_a) (va_cwS 1 hts gX0_look_X0_number rfl rfl rfl (by decide +kernel) (mm_levR hR (by omega) (by decide))) rfl hl.1 rfl (Nat.le_of_ble_eq_true rfl) dX0_look_5 ⟨Nat.zero_le _, Nat.zero_le _⟩ (fun H locs hV => ?_)
  refine mm_baldN (j := q0) hx hb hK hV i_vd m_vd hq (by omega) (by decide) dX0_look_8 ?_
  exact hret (v := vf q0) dX0_look_9 hV (by decide) (by decide) ⟨rfl, rfl, rfl⟩

/-- how many moves are noted; what stands in the row then -/
def mnF (n : Nat) : Nat := if n < 4 then n else 4
def ntF (g : Nat → Int32) (e : Nat) (P : Ps) (f : Nat → Int32) (c : Nat) : Nat → Int32 := fun q => if 4 * e ≤ q ∧ q < 4 * e + c then (numF (followP P (f (q - 4 * e)))).toInt16.toInt32 else g q
theorem ntF_0 (g : Nat → Int32) (e : Nat) (P : Ps) (f : Nat → Int32) : ntF g e P f 0 = g := by
  funext q; unfold ntF; rw [if_neg (by omega)]
theorem ntF_s (g : Nat → Int32) (e : Nat) (P : Ps) (f : Nat → Int32) (c : Nat) : upd (ntF g e P f c) (4 * e + c) ((numF (followP P (f c))).toInt16.toInt32) = ntF g e P f (c + 1) := by
  funext q
  by_cases hq : q = 4 * e + c
  · subst hq
    rw [pk_us]; unfold ntF
    rw [if_pos (by omega), show 4 * e + c - 4 * e = c by omega]
  · rw [pk_un hq]; unfold ntF
    by_cases h : 4 * e ≤ q ∧ q < 4 * e + c
    · rw [if_pos h, if_pos (by omega)]
    · rw [if_neg h, if_neg (by omega)]
theorem mn_eq {n : Nat} (h : n ≤ 72) : (if (4 : Int32) < nI n then (4 : Int32) else nI n) = nI (mnF n) := by
  unfold mnF
  rw [show (4 : Int32) = nI 4 from rfl]
  by_cases h4 : 4 < n
  · rw [if_pos (nI_lt (a := 4) h4 (by omega)), if_neg (by omega)]
  · rw [if_neg (nI_nlt (a := 4) (b := n) (by omega) (by decide))]
    by_cases h5 : n < 4
    · rw [if_pos h5]
    · rw [if_neg h5, show n = 4 by omega]

theorem bt_small {c : Nat} (h : c ≤ 4) : (nI c).toInt8.toInt32 = nI c := by
  rcases (show c = 0 ∨ c = 1 ∨ c = 2 ∨ c = 3 ∨ c = 4 by omega) with rfl | rfl | rfl | rfl | rfl <;> decide +kernel

set_option maxHeartbeats 1000000 in
set_option maxRecDepth 100000 in
theorem c_note (l : Launch) (D : va_G) (dA : Nat → ClassId) {L : List Nat} {M : mm_M} {en vd ct nz a b t pk : Nat} {vf cf nf f : Nat → Int32} {n e0 : Nat} {P P2 : Ps} (x : Int32) (hxe : x = nI e0) (he0 : e0 < 1296) (hab : a ≠ b) (he : enW dA L M en vd ct nz vf cf nf) (i_a : a ∈ L) (m_a : M a = oP P) (i_b : b ∈ L) (m_b : M b = oP P2) (hli : liW dA L M t pk f n) : mm_Cm l D dA yX0_note wsX0_note 3 [.ref en, .int x, .ref a, .ref t, .ref b] L M (fun M1 => (∃ Q, M1 b = oP Q) ∧ M1 nz = .inl (dA 2, 5184, .inl (ntF nf e0 P f (mnF n))) ∧ M1 ct = .inl (dA 1, 1296, .inl (upd cf e0 (nI (mnF n)))) ∧ M1 vd = .inl (dA 1, 1297, .inl (if mnF n = 0 then upd vf e0 (-100) else vf)) ∧ ∀ q : Nat, q ≠ b → q ≠ nz → q ≠ ct → q ≠ vd → M1 q = M q) := by
  obtain ⟨i_en, i_vd, i_ct, i_nz, m_en, m_vd, m_ct, m_nz⟩ := he
  obtain ⟨i_t, i_pk, m_t, m_pk, hn⟩ := hli
  have m_a : M a = .inr (2, [.int P.1, .int P.2.1, .int P.2.2.1, .int P.2.2.2.1, .int P.2.2.2.2]) := m_a
  have m_b : M b = .inr (2, [.int P2.1, .int P2.2.1, .int P2.2.2.1, .int P2.2.2.2.1, .int P2.2.2.2.2]) := m_b
  have m_t : M t = .inr (1, [.ref pk, .int (nI n)]) := m_t
  refine mm_enter_v (cc := cX0_note) (maxL := 7) (by decide) rfl (Nat.le_of_ble_eq_true rfl) ?_
  intro p e R s m args below meth c A ls H locs Q hR hx hb hml hin hown hts hK hV hl hret
  have hl : lv_has ls 7 [(0, .ref en), (1, .int x), (2, .ref a), (3, .ref t), (4, .ref b)] := hl
  have hown : s.vm.findClass RX0 = some m.cls := hown
  have f_82 := hts (.fieldLink RX0 82 "JumpBoard$MoveList" "count" "I") (by decide +kernel)
  have in_X1 : ∀ w ∈ wsX10, w ∈ wsX0_note := by decide +kernel
  have f_15 := hts (.fieldLink RX0 15 "JumpBoard$Endings" "counts" "[B") (by decide +kernel)
  have in_X0 : ∀ w ∈ wsX00, w ∈ wsX0_note := by decide +kernel
  have f_11 := hts (.fieldLink RX0 11 "JumpBoard$Endings" "verdicts" "[B") (by decide +kernel)
  have f_91 := hts (.fieldLink RX0 91 "JumpBoard$MoveList" "packed" "[I") (by decide +kernel)
  have f_18 := hts (.fieldLink RX0 18 "JumpBoard$Endings" "nexts" "[S") (by decide +kernel)
  refine lv_aload_n hx hb dX0_note_0 rfl (lv_at hl 3 rfl) ?_
  refine mm_get (ci := 1) (C := RX1) (T := TX1) (N := 2) hx hb hts in_X1 hown hK hV i_t m_t rfl 1 (by decide) f_82 (fun _ h => h) rfl dX0_note_1 ?_
  refine lv_iconst (v := 4) hx hb dX0_note_4 (by decide) ?_
  refine va_mmin hx hb (hml.trans hl.1.symm) hown (hts (.methodLink RX0 85 Lib.Math.min.name) (by decide +kernel)) (hts (.static Lib.Math.min.name) (by decide +kernel)) (hts (.initialized "java/lang/Math") (by decide +kernel)) (hts (.code Lib.Math.min.name Lib.Math.min.code 2 (some .int)) (by decide +kernel)) (by rw [hR]; decide) (by rw [hR]; exact Nat.le_of_ble_eq_true rfl) (by rw [hR]; exact Nat.le_refl _) (by rw [hR]; exact Nat.le_refl _) dX0_note_5 ?_
  refine lv_topi (fun x5 ex5 => ?_)
  refine lv_istore (lv' := [(5, .int x5), (0, .ref en), (1, .int x), (2, .ref a), (3, .ref t), (4, .ref b)]) hx hb dX0_note_8 hl (by decide) rfl (fun ls hl => ?_)
  have hx5 : x5 = nI (mnF n) := by rw [ex5]; exact mn_eq hn
  have hmn : mnF n ≤ 4 ∧ mnF n ≤ n := by unfold mnF; split <;> omega
  refine lv_iconst (v := 0) hx hb dX0_note_10 (by decide) ?_
  refine lv_topi (fun x6 ex6 => ?_)
  refine lv_istore (lv' := [(6, .int x6), (5, .int x5), (0, .ref en), (1, .int x), (2, .ref a), (3, .ref t), (4, .ref b)]) hx hb dX0_note_11 hl (by decide) rfl (fun ls hl => ?_)
  have LP : ∀ (k c0 : Nat) (x6 : Int32) (P2 : Ps) (M1 : mm_M) (H : Heap) (locs : List Loc) (ls : Array Slot), c0 + k = mnF n → x6 = nI c0 → mm_V A D L M1 s H locs → M1 en = .inr (0, [.ref vd, .ref ct, .ref nz]) → M1 vd = .inl (dA 1, 1297, .inl vf) → M1 ct = .inl (dA 1, 1296, .inl cf) → M1 nz = .inl (dA 2, 5184, .inl (ntF nf e0 P f c0)) → M1 a = .inr (2, [.int P.1, .int P.2.1, .int P.2.2.1, .int P.2.2.2.1, .int P.2.2.2.2]) → M1 b = .inr (2, [.int P2.1, .int P2.2.1, .int P2.2.2.1, .int P2.2.2.2.1, .int P2.2.2.2.2]) → M1 t = .inr (1, [.ref pk, .int (nI n)]) → M1 pk = .inl (dA 0, 72, .inl f) → (∀ q : Nat, q ≠ b → q ≠ nz → M1 q = M q) → lv_has ls 7 [(0, .ref en), (1, .int x), (2, .ref a), (3, .ref t), (4, .ref b), (5, .int x5), (6, .int x6)] → W p l e R s m args below meth c H locs 0 0 Q (F0 m 13 ls []) := by
    intro k
    induction k with
    | zero =>
      intro c0 x6 P2 M1 H locs ls hck hx6 hV m_en m_vd m_ct m_nz m_a m_b m_t m_pk fr hl
      refine lv_iload hx hb dX0_note_13 (lv_at hl 6 rfl) ?_
      refine lv_iload hx hb dX0_note_15 (lv_at hl 5 rfl) ?_
      refine lv_icmp_ge (tgt := 56) hx hb dX0_note_17 (by decide) (fun c17 => ?_) (fun c17 => ?_)
      · have hc0 : c0 = mnF n := by omega
        subst hc0
        refine lv_aload_n hx hb dX0_note_56 rfl (lv_at hl 0 rfl) ?_
        refine mm_get (ci := 0) (C := RX0) (T := TX0) (N := 3) hx hb hts in_X0 hown hK hV i_en m_en rfl 1 (by decide) f_15 (fun _ h => h) rfl dX0_note_57 ?_
        refine lv_iload_n hx hb dX0_note_60 rfl (lv_at hl 1 rfl) ?_
        refine lv_iload hx hb dX0_note_61 (lv_at hl 5 rfl) ?_
        refine lv_i2b hx hb dX0_note_63 rfl ?_
        refine lv_topi (fun vb evb => ?_)
        refine mm_bastN (j := e0) (x := vb) hx hb hK hV i_ct m_ct hxe (by omega) (by decide) dX0_note_64 (fun M_1 H locs eM_1 hV => ?_)
        have m_en : M_1 en = _ := (congrFun eM_1 en).trans ((va_up_ne _ _ (mm_neq m_en m_ct (by intro h; cases h))).trans m_en)
        have m_vd : M_1 vd = _ := (congrFun eM_1 vd).trans ((va_up_ne _ _ (mm_neq m_vd m_ct (mm_nelen (by decide)))).trans m_vd)
        have m_nz : M_1 nz = _ := (congrFun eM_1 nz).trans ((va_up_ne _ _ (mm_neq m_nz m_ct (mm_nelen (by decide)))).trans m_nz)
        have m_a : M_1 a = _ := (congrFun eM_1 a).trans ((va_up_ne _ _ (mm_neq m_a m_ct (by intro h; cases h))).trans m_a)
        have m_b : M_1 b = _ := (congrFun eM_1 b).trans ((va_up_ne _ _ (mm_neq m_b m_ct (by intro h; cases h))).trans m_b)
        have m_t : M_1 t = _ := (congrFun eM_1 t).trans ((va_up_ne _ _ (mm_neq m_t m_ct (by intro h; cases h))).trans m_t)
        have m_pk : M_1 pk = _ := (congrFun eM_1 pk).trans ((va_up_ne _ _ (mm_neq m_pk m_ct (mm_nelen (by decide)))).trans m_pk)
        have m_ct : M_1 ct = .inl (dA 1, 1296, .inl (upd cf e0 (vp_nar .byte vb))) := by rw [eM_1]; exact va_up_self _ _ _
        have fr : ∀ q : Nat, q ≠ b → q ≠ nz → q ≠ ct → M_1 q = M q := fun q h0 h1 h2 => (congrFun eM_1 q).trans ((va_up_ne _ _ h2).trans (fr q h0 h1))
        have hvb : vp_nar .byte vb = nI (mnF n) := by rw [evb, pk_vb, hx5]; exact bt_small hmn.1
        refine lv_iload hx hb dX0_note_65 (lv_at hl 5 rfl) ?_
        refine lv_if_ne (tgt := 78) hx hb dX0_note_67 (by decide) (fun c67 => ?_) (fun c67 => ?_)
        · have hm0 : ¬ mnF n = 0 := fun h => c67 (by rw [hx5, h]; rfl)
          exact hret dX0_note_78 hV (by decide) (by decide) ⟨rfl, ⟨_, m_b⟩, by rw [m_nz], by rw [m_ct, hvb], by rw [m_vd, if_neg hm0], fun q h0 h1 h2 h3 => fr q h0 h1 h2⟩
        · have hm0 : mnF n = 0 := (nI_eq (b := 0) (by omega) (by decide)).mp (by rw [← hx5]; exact c67)
          refine lv_aload_n hx hb dX0_note_70 rfl (lv_at hl 0 rfl) ?_
          refine mm_get (ci := 0) (C := RX0) (T := TX0) (N := 3) hx hb hts in_X0 hown hK hV i_en m_en rfl 0 (by decide) f_11 (fun _ h => h) rfl dX0_note_71 ?_
          refine lv_iload_n hx hb dX0_note_74 rfl (lv_at hl 1 rfl) ?_
          refine lv_bipush (v := (-100)) hx hb dX0_note_75 (by decide) ?_
          refine mm_bastN (j := e0) (x := (-100)) hx hb hK hV i_vd m_vd hxe (by omega) (by decide) dX0_note_77 (fun M_2 H locs eM_2 hV => ?_)
          have m_en : M_2 en = _ := (congrFun eM_2 en).trans ((va_up_ne _ _ (mm_neq m_en m_vd (by intro h; cases h))).trans m_en)
          have m_ct : M_2 ct = _ := (congrFun eM_2 ct).trans ((va_up_ne _ _ (mm_neq m_ct m_vd (mm_nelen (by decide)))).trans m_ct)
          have m_nz : M_2 nz = _ := (congrFun eM_2 nz).trans ((va_up_ne _ _ (mm_neq m_nz m_vd (mm_nelen (by decide)))).trans m_nz)
          have m_a : M_2 a = _ := (congrFun eM_2 a).trans ((va_up_ne _ _ (mm_neq m_a m_vd (by intro h; cases h))).trans m_a)
          have m_b : M_2 b = _ := (congrFun eM_2 b).trans ((va_up_ne _ _ (mm_neq m_b m_vd (by intro h; cases h))).trans m_b)
          have m_t : M_2 t = _ := (congrFun eM_2 t).trans ((va_up_ne _ _ (mm_neq m_t m_vd (by intro h; cases h))).trans m_t)
          have m_pk : M_2 pk = _ := (congrFun eM_2 pk).trans ((va_up_ne _ _ (mm_neq m_pk m_vd (mm_nelen (by decide)))).trans m_pk)
          have m_vd : M_2 vd = .inl (dA 1, 1297, .inl (upd vf e0 (vp_nar .byte (-100)))) := by rw [eM_2]; exact va_up_self _ _ _
          have fr : ∀ q : Nat, q ≠ b → q ≠ nz → q ≠ ct → q ≠ vd → M_2 q = M q := fun q h0 h1 h2 h3 => (congrFun eM_2 q).trans ((va_up_ne _ _ h3).trans (fr q h0 h1 h2))
          exact hret dX0_note_78 hV (by decide) (by decide) ⟨rfl, ⟨_, m_b⟩, by rw [m_nz], by rw [m_ct, hvb], by rw [m_vd, if_pos hm0]; rfl, fun q h0 h1 h2 h3 => fr q h0 h1 h2 h3⟩
      · exact absurd (by rw [hx6, hx5]; exact nI_le (by omega) (by omega)) c17
    | succ k ih =>
      intro c0 x6 P2 M1 H locs ls hck hx6 hV m_en m_vd m_ct m_nz m_a m_b m_t m_pk fr hl
      refine lv_iload hx hb dX0_note_13 (lv_at hl 6 rfl) ?_
      refine lv_iload hx hb dX0_note_15 (lv_at hl 5 rfl) ?_
      refine lv_icmp_ge (tgt := 56) hx hb dX0_note_17 (by decide) (fun c17 => ?_) (fun c17 => ?_)
      · exact absurd c17 (by rw [hx6, hx5]; exact nI_ge (by omega) (by omega))
      · refine lv_aload hx hb dX0_note_20 (lv_at hl 4 rfl) ?_
        refine lv_aload_n hx hb dX0_note_22 rfl (lv_at hl 2 rfl) ?_
        refine lv_aload_n hx hb dX0_note_23 rfl (lv_at hl 3 rfl) ?_
        refine mm_get (ci := 1) (C := RX1) (T := TX1) (N := 2) hx hb hts in_X1 hown hK hV i_t m_t rfl 0 (by decide) f_91 (fun _ h => h) rfl dX0_note_24 ?_
        refine lv_iload hx hb dX0_note_27 (lv_at hl 6 rfl) ?_
        refine mm_ialdN (j := c0) hx hb hK hV i_pk m_pk hx6 (by omega) (by decide) dX0_note_29 ?_
        refine mm_Vm (ci := 2) (As := [.ref a, .int (f c0)]) (rest := []) ⟨hx, hb, hml, hown, hts⟩ hK hV (c_follow l D dA (P0 := P2) (P := P) (f c0) (Ne.symm hab) i_b i_a m_b m_a) (cwV 2 hts gX0_note_X2_follow rfl rfl rfl (by decide +kernel) (mm_levR hR (by omega) (by decide))) i_b m_b rfl rfl hl.1 rfl (Nat.le_of_ble_eq_true rfl) dX0_note_30 ⟨Nat.zero_le _, Nat.zero_le _⟩ (fun M_3 H locs eM_3 hV => ?_)
        have m_en : M_3 en = _ := (congrFun eM_3 en).trans ((va_up_ne _ _ (mm_neq m_en m_b (by intro h; cases h))).trans m_en)
        have m_vd : M_3 vd = _ := (congrFun eM_3 vd).trans ((va_up_ne _ _ (mm_neq m_vd m_b (by intro h; cases h))).trans m_vd)
        have m_ct : M_3 ct = _ := (congrFun eM_3 ct).trans ((va_up_ne _ _ (mm_neq m_ct m_b (by intro h; cases h))).trans m_ct)
        have m_nz : M_3 nz = _ := (congrFun eM_3 nz).trans ((va_up_ne _ _ (mm_neq m_nz m_b (by intro h; cases h))).trans m_nz)
        have m_a : M_3 a = _ := (congrFun eM_3 a).trans ((va_up_ne _ _ hab).trans m_a)
        have m_t : M_3 t = _ := (congrFun eM_3 t).trans ((va_up_ne _ _ (mm_neq m_t m_b (by intro h; cases h))).trans m_t)
        have m_pk : M_3 pk = _ := (congrFun eM_3 pk).trans ((va_up_ne _ _ (mm_neq m_pk m_b (by intro h; cases h))).trans m_pk)
        have m_b : M_3 b = .inr (2, [.int ((followP P (f c0)).1), .int ((followP P (f c0)).2.1), .int ((followP P (f c0)).2.2.1), .int ((followP P (f c0)).2.2.2.1), .int ((followP P (f c0)).2.2.2.2)]) := by rw [eM_3]; exact va_up_self _ _ _
        have fr : ∀ q : Nat, q ≠ b → q ≠ nz → M_3 q = M q := fun q h0 h1 => (congrFun eM_3 q).trans ((va_up_ne _ _ h0).trans (fr q h0 h1))
        refine lv_aload_n hx hb dX0_note_33 rfl (lv_at hl 0 rfl) ?_
        refine mm_get (ci := 0) (C := RX0) (T := TX0) (N := 3) hx hb hts in_X0 hown hK hV i_en m_en rfl 2 (by decide) f_18 (fun _ h => h) rfl dX0_note_34 ?_
        refine lv_iload_n hx hb dX0_note_37 rfl (lv_at hl 1 rfl) ?_
        refine lv_iconst (v := 4) hx hb dX0_note_38 (by decide) ?_
        refine lv_imul hx hb dX0_note_39 ?_
        refine lv_iload hx hb dX0_note_40 (lv_at hl 6 rfl) ?_
        refine lv_iadd hx hb dX0_note_42 ?_
        refine lv_aload hx hb dX0_note_43 (lv_at hl 4 rfl) ?_
        refine mm_Sp (v := (numF (followP P (f c0)))) (As := [.ref b]) (rest := [.int ((x * 4) + x6), .ref nz]) ⟨hx, hb, hml, hown, hts⟩ hK hV (c_number l D dA (P := (followP P (f c0))) i_b m_b) (va_cwS 1 hts gX0_note_X0_number rfl rfl rfl (by decide +kernel) (mm_levR hR (by omega) (by decide))) rfl hl.1 rfl (Nat.le_of_ble_eq_true rfl) dX0_note_45 ⟨Nat.zero_le _, Nat.zero_le _⟩ (fun H locs hV => ?_)
        refine lv_i2s hx hb dX0_note_48 rfl ?_
        refine lv_topi (fun vs evs => ?_)
        refine mm_sastN (j := (4 * e0 + c0)) (x := vs) hx hb hK hV i_nz m_nz (ixN hxe hx6) (by omega) (by decide) dX0_note_49 (fun M_4 H locs eM_4 hV => ?_)
        have m_en : M_4 en = _ := (congrFun eM_4 en).trans ((va_up_ne _ _ (mm_neq m_en m_nz (by intro h; cases h))).trans m_en)
        have m_vd : M_4 vd = _ := (congrFun eM_4 vd).trans ((va_up_ne _ _ (mm_neq m_vd m_nz (mm_nelen (by decide)))).trans m_vd)
        have m_ct : M_4 ct = _ := (congrFun eM_4 ct).trans ((va_up_ne _ _ (mm_neq m_ct m_nz (mm_nelen (by decide)))).trans m_ct)
        have m_a : M_4 a = _ := (congrFun eM_4 a).trans ((va_up_ne _ _ (mm_neq m_a m_nz (by intro h; cases h))).trans m_a)
        have m_b : M_4 b = _ := (congrFun eM_4 b).trans ((va_up_ne _ _ (mm_neq m_b m_nz (by intro h; cases h))).trans m_b)
        have m_t : M_4 t = _ := (congrFun eM_4 t).trans ((va_up_ne _ _ (mm_neq m_t m_nz (by intro h; cases h))).trans m_t)
        have m_pk : M_4 pk = _ := (congrFun eM_4 pk).trans ((va_up_ne _ _ (mm_neq m_pk m_nz (mm_nelen (by decide)))).trans m_pk)
        have m_nz : M_4 nz = .inl (dA 2, 5184, .inl (upd (ntF nf e0 P f c0) (4 * e0 + c0) (vp_nar .short vs))) := by rw [eM_4]; exact va_up_self _ _ _
        have fr : ∀ q : Nat, q ≠ b → q ≠ nz → M_4 q = M q := fun q h0 h1 => (congrFun eM_4 q).trans ((va_up_ne _ _ h1).trans (fr q h0 h1))
        obtain ⟨x6_n, ex6_n⟩ : ∃ y : Int32, y = x6 + 1 := ⟨_, rfl⟩
        refine lv_iinc (v := x6_n) (lv' := [(6, .int x6_n), (0, .ref en), (1, .int x), (2, .ref a), (3, .ref t), (4, .ref b), (5, .int x5)]) hx hb dX0_note_50 hl (k := 6) rfl (by rw [ex6_n]; rfl) (by decide) rfl (fun ls hl => ?_)
        refine lv_goto (tgt := 13) hx hb dX0_note_53 (by decide) ?_
        exact ih (c0 + 1) x6_n (followP P (f c0)) M_4 _ _ ls (by omega) (by rw [ex6_n, hx6]; exact nI_1 c0) hV m_en m_vd m_ct (by rw [m_nz, evs, pk_vs, ntF_s]) m_a m_b m_t m_pk fr (lv_sub hl [1, 2, 3, 4, 5, 6, 0] rfl)
  exact LP (mnF n) 0 x6 P2 M H locs ls (by omega) (by rw [ex6]; rfl) hV m_en m_vd m_ct (by rw [m_nz, ntF_0]) m_a m_b m_t m_pk (fun q _ _ => rfl) (lv_sub hl [2, 3, 4, 5, 6, 1, 0] rfl)
