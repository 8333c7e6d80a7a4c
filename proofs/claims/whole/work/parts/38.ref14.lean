def bsRL (d : Nat) (P : Ps) : Nat → Nat → Int32 → Int32 → Int32
  | 0, _, fo, _ => fo
  | k + 1, i, fo, le => if fo < 0 then bsRL d P k (i + 1) (nI i) (ng d (followP P (mvA P i))) else if le ≤ ng d (followP P (mvA P i)) then bsRL d P k (i + 1) fo le else bsRL d P k (i + 1) (nI i) (ng d (followP P (mvA P i)))
def bestVR (P : Ps) (x : Int32) : Int32 := if x < 1 then -1 else if 4 < x then -1 else if mvN P = 0 then -1 else bsRL (x.toNatClampNeg - 1) P (mvN P) 0 (-1) 0

set_option maxHeartbeats 1000000 in
set_option maxRecDepth 100000 in
theorem c_bestR (l : Launch) (D : va_G) (dA : Nat → ClassId) {L : List Nat} {M : mm_M} {ob : Nat} {ad : Nat → Nat} {S : Nat → Nat → Int32} {pl qu so : Int32} {P : Ps} {WF : Ps → Prop} {KT : Nat → Int32} {fu : Nat} (x1 : Int32) (i_ob : ob ∈ L) (m_ob : M ob = rO ad pl qu so) (hA : rA dA L M ad S) (h7 : S 7 = nearR) (h8 : S 8 = farR) (hko : kOK KT so S) (hFT : rgR (FTi 2592)) (hslv : slvR (FTi 2592) fu 1 (K0i 2592) = some KT) (GS : GenSem WF) (hrow : rowOK S 0 P) (hwf : WF P) (ES : EndSem WF KT) (MT : MatSem WF) (MS : MakeSem WF) (wf2 : ∀ P, WF P → ∀ i, i < mvN P → WF (followP P (mvA P i))) (NG : NgSem WF) : mm_Cn l D dA yX5_best wsX5_best 7 [.ref ob, .int x1] L M (fun r M1 => r = bestVR P x1 ∧ ∃ S1 so1, EqB 0 S1 S ∧ kOK KT so1 S1 ∧ rA dA L M1 ad S1 ∧ M1 ob = rO ad pl qu so1 ∧ rF L ad ob M M1) := by
  have hA0 := hA
  have m_ob0 := m_ob
  have fR : rF L ad ob M M := rF.rf
  refine mm_enter_i (cc := cX5_best) (maxL := 6) (by decide) rfl (Nat.le_of_ble_eq_true rfl) ?_
  intro p e R s m args below meth c A ls H locs Q hR hx hb hml hin hown hts hK hV hl hret
  have hl : lv_has ls 6 [(0, .ref ob), (1, .int x1)] := hl
  have hown : s.vm.findClass RX5 = some m.cls := hown
  have f_19 := hts (.fieldLink RX5 19 "JumpBoardModel" "count" "[I") (by decide +kernel)
  have in_X5 : ∀ w ∈ wsX50, w ∈ wsX5_best := by decide +kernel
  refine lv_aload_n hx hb dX5_best_0 rfl (lv_at hl 0 rfl) ?_
  refine lv_iconst (v := 0) hx hb dX5_best_1 (by decide) ?_
  obtain ⟨R9, hR9, hG9⟩ := GS S 0 P (by decide) hrow hwf h7 h8
  refine mm_Vm (ci := 5) (As := [.int 0]) (rest := []) ⟨hx, hb, hml, hown, hts⟩ hK hV (c_genR l D dA (p0 := 0) (RG := R9) 0 i_ob m_ob hA h7 h8 rfl (by decide) hR9) (cwV 1 hts gX5_best_X5_generate rfl rfl rfl (by decide +kernel) (mm_levR hR (by omega) (by decide))) i_ob m_ob rfl rfl hl.1 rfl (Nat.le_of_ble_eq_true rfl) dX5_best_2 ⟨Nat.zero_le _, Nat.zero_le _⟩ (fun M_1 H locs hp9 hV => ?_)
  obtain ⟨S2, hE9, hA, m_ob, fR9⟩ := hp9
  have fR : rF L ad ob M M_1 := fR.tr fR9
  have hG2 : GenP S2 S 0 P := hE9.G hG9
  have hkG : kOK KT so S2 := hko.eq hG2.2.2.2.1 hG2.2.2.2.2
  have hn72 := mvN_le P
  refine lv_iload_n hx hb dX5_best_5 rfl (lv_at hl 1 rfl) ?_
  refine lv_iconst (v := 1) hx hb dX5_best_6 (by decide) ?_
  refine lv_icmp_lt (tgt := 24) hx hb dX5_best_7 (by decide) (fun c7 => ?_) (fun c7 => ?_)
  · refine lv_iconst (v := (-1)) hx hb dX5_best_24 (by decide) ?_
    exact hret (v := (-1)) dX5_best_25 hV (by decide) (by decide) ⟨rfl, by unfold bestVR; rw [if_pos c7], S2, so, hG2.2.1, hkG, hA, m_ob, fR⟩
  · refine lv_iload_n hx hb dX5_best_10 rfl (lv_at hl 1 rfl) ?_
    refine lv_iconst (v := 4) hx hb dX5_best_11 (by decide) ?_
    refine lv_icmp_gt (tgt := 24) hx hb dX5_best_12 (by decide) (fun c12 => ?_) (fun c12 => ?_)
    · refine lv_iconst (v := (-1)) hx hb dX5_best_24 (by decide) ?_
      exact hret (v := (-1)) dX5_best_25 hV (by decide) (by decide) ⟨rfl, by unfold bestVR; rw [if_neg c7, if_pos c12], S2, so, hG2.2.1, hkG, hA, m_ob, fR⟩
    · refine lv_aload_n hx hb dX5_best_15 rfl (lv_at hl 0 rfl) ?_
      refine mm_get (ci := 5) (C := RX5) (T := TX5) (N := 20) hx hb hts in_X5 hown hK hV i_ob m_ob rfl 3 (by decide) f_19 (fun _ h => h) rfl dX5_best_16 ?_
      refine lv_iconst (v := 0) hx hb dX5_best_19 (by decide) ?_
      refine mm_ialdN (j := 0) hx hb hK hV (hA.i 3 rfl) (show M_1 (ad 3) = .inl (dA 0, 6, .inl (S2 3)) from hA.m 3 rfl) rfl (by decide) (by decide) dX5_best_20 ?_
      refine lv_if_ne (tgt := 26) hx hb dX5_best_21 (by decide) (fun c21 => ?_) (fun c21 => ?_)
      · have hn0 : ¬ mvN P = 0 := fun h => c21 (by rw [hG2.1.1, h]; rfl)
        obtain ⟨dd, hd31, hxd⟩ := nI_of (x := x1) (fun h => c7 (Int32.lt_trans h (by decide)))
        have hd4 : dd ≤ 4 := (nI_leI hd31 (by decide)).mp (by rw [← hxd]; exact Int32.not_lt.mp c12)
        have hd1 : 1 ≤ dd := (nI_leI (by decide) hd31).mp (by rw [← hxd]; exact Int32.not_lt.mp c7)
        refine lv_iconst (v := (-1)) hx hb dX5_best_26 (by decide) ?_
        refine lv_topi (fun x2 ex2 => ?_)
        refine lv_istore_n (lv' := [(2, .int x2), (0, .ref ob), (1, .int x1)]) hx hb dX5_best_27 rfl hl (by decide) rfl (fun ls hl => ?_)
        refine lv_iconst (v := 0) hx hb dX5_best_28 (by decide) ?_
        refine lv_topi (fun x3 ex3 => ?_)
        refine lv_istore_n (lv' := [(3, .int x3), (2, .int x2), (0, .ref ob), (1, .int x1)]) hx hb dX5_best_29 rfl hl (by decide) rfl (fun ls hl => ?_)
        refine lv_iconst (v := 0) hx hb dX5_best_30 (by decide) ?_
        refine lv_topi (fun x4 ex4 => ?_)
        refine lv_istore (lv' := [(4, .int x4), (3, .int x3), (2, .int x2), (0, .ref ob), (1, .int x1)]) hx hb dX5_best_31 hl (by decide) rfl (fun ls hl => ?_)
        have LP : ∀ (k : Nat) (i : Nat) (x2 x3 x4 : Int32) (so1 : Int32) (S1 : Nat → Nat → Int32) (M1 : mm_M) (H : Heap) (locs : List Loc) (ls : Array Slot), i + k = mvN P → x4 = nI i → bsRL (dd - 1) P k i x2 x3 = bestVR P x1 → rowOK S1 0 P → lstOK S1 0 P → S1 7 = nearR → S1 8 = farR → kOK KT so1 S1 → EqB 0 S1 S → mm_V A D L M1 s H locs → rA dA L M1 ad S1 → M1 ob = rO ad pl qu so1 → rF L ad ob M M1 → lv_has ls 6 [(0, .ref ob), (1, .int x1), (2, .int x2), (3, .int x3), (4, .int x4)] → W p l e R s m args below meth c H locs 0 0 Q (F0 m 33 ls []) := by
          intro k
          induction k with
          | zero =>
            intro i x2 x3 x4 so1 S1 M1 H locs ls hik hx4 hres hrs hls h71 h81 hk1 hB hV hA m_ob fR hl
            refine lv_iload hx hb dX5_best_33 (lv_at hl 4 rfl) ?_
            refine lv_aload_n hx hb dX5_best_35 rfl (lv_at hl 0 rfl) ?_
            refine mm_get (ci := 5) (C := RX5) (T := TX5) (N := 20) hx hb hts in_X5 hown hK hV i_ob m_ob rfl 3 (by decide) f_19 (fun _ h => h) rfl dX5_best_36 ?_
            refine lv_iconst (v := 0) hx hb dX5_best_39 (by decide) ?_
            refine mm_ialdN (j := 0) hx hb hK hV (hA.i 3 rfl) (show M1 (ad 3) = .inl (dA 0, 6, .inl (S1 3)) from hA.m 3 rfl) rfl (by decide) (by decide) dX5_best_40 ?_
            refine lv_icmp_ge (tgt := 83) hx hb dX5_best_41 (by decide) (fun c41 => ?_) (fun c41 => ?_)
            · refine lv_iload_n hx hb dX5_best_83 rfl (lv_at hl 2 rfl) ?_
              exact hret (v := x2) dX5_best_84 hV (by decide) (by decide) ⟨rfl, by rw [show x2 = bestVR P x1 from hres], S1, so1, hB, hk1, hA, m_ob, fR⟩
            · exact absurd (by rw [hx4, hls.1]; exact nI_le (by omega) (by omega)) c41
          | succ k ih =>
            intro i x2 x3 x4 so1 S1 M1 H locs ls hik hx4 hres hrs hls h71 h81 hk1 hB hV hA m_ob fR hl
            refine lv_iload hx hb dX5_best_33 (lv_at hl 4 rfl) ?_
            refine lv_aload_n hx hb dX5_best_35 rfl (lv_at hl 0 rfl) ?_
            refine mm_get (ci := 5) (C := RX5) (T := TX5) (N := 20) hx hb hts in_X5 hown hK hV i_ob m_ob rfl 3 (by decide) f_19 (fun _ h => h) rfl dX5_best_36 ?_
            refine lv_iconst (v := 0) hx hb dX5_best_39 (by decide) ?_
            refine mm_ialdN (j := 0) hx hb hK hV (hA.i 3 rfl) (show M1 (ad 3) = .inl (dA 0, 6, .inl (S1 3)) from hA.m 3 rfl) rfl (by decide) (by decide) dX5_best_40 ?_
            refine lv_icmp_ge (tgt := 83) hx hb dX5_best_41 (by decide) (fun c41 => ?_) (fun c41 => ?_)
            · exact absurd c41 (by rw [hx4, hls.1]; exact nI_ge (by omega) (by omega))
            · have hi : i < mvN P := by omega
              refine lv_aload_n hx hb dX5_best_44 rfl (lv_at hl 0 rfl) ?_
              refine lv_iconst (v := 0) hx hb dX5_best_45 (by decide) ?_
              refine lv_iload hx hb dX5_best_46 (lv_at hl 4 rfl) ?_
              obtain ⟨f8, t8, hf1, hf2, ht1, ht2, hrm⟩ := MS S1 0 P i hrs hwf hi
              have hk8 := hls.2 i hi
              refine mm_Vm (ci := 5) (As := [.int 0, .int x4]) (rest := []) ⟨hx, hb, hml, hown, hts⟩ hK hV (c_makeR l D dA (p0 := 0) (i0 := i) (f0 := f8) (t0 := t8) 0 x4 i_ob m_ob hA rfl (by decide) hx4 (by omega) (by rw [hk8]; exact hf1) hf2 (by rw [hk8]; exact ht1) ht2) (cwV 2 hts gX5_best_X5_make rfl rfl rfl (by decide +kernel) (mm_levR hR (by omega) (by decide))) i_ob m_ob rfl rfl hl.1 rfl (Nat.le_of_ble_eq_true rfl) dX5_best_48 ⟨Nat.zero_le _, Nat.zero_le _⟩ (fun M_2 H locs hp hV => ?_)
              obtain ⟨hA, m_ob, fR9⟩ := hp
              have fR : rF L ad ob M M_2 := fR.tr fR9
              obtain ⟨Sm, eSm⟩ : ∃ z, z = makeR S1 0 (S1 2 (80 * 0 + i)) f8 t8 := ⟨_, rfl⟩
              rw [← eSm] at hA
              rw [hk8] at eSm
              rw [← eSm] at hrm
              have hBm : EqB 0 Sm S1 := by rw [eSm]; exact mk_EqB
              have hmn : ∀ q, q ≠ 0 → q ≠ 1 → Sm q = S1 q := fun q a b => by rw [eSm]; exact makeR_ne a b
              have hwl : WF (followP P (mvA P i)) := wf2 P hwf i hi
              have hkm : kOK KT so1 Sm := hk1.eq (hmn 18 (by decide) (by decide)) (hmn 19 (by decide) (by decide))
              have h7m : Sm 7 = nearR := by rw [hmn 7 (by decide) (by decide)]; exact h71
              have h8m : Sm 8 = farR := by rw [hmn 8 (by decide) (by decide)]; exact h81
              refine lv_aload_n hx hb dX5_best_51 rfl (lv_at hl 0 rfl) ?_
              refine lv_iconst (v := 1) hx hb dX5_best_52 (by decide) ?_
              refine lv_iload_n hx hb dX5_best_53 rfl (lv_at hl 1 rfl) ?_
              refine lv_iconst (v := 1) hx hb dX5_best_54 (by decide) ?_
              refine lv_isub hx hb dX5_best_55 ?_
              refine mm_Vn (ci := 5) (As := [.int 1, .int (x1 - 1)]) (rest := []) ⟨hx, hb, hml, hown, hts⟩ hK hV (c_searchR l D dA (p0 := 1) (d0 := dd - 1) (P := followP P (mvA P i)) 1 (x1 - 1) i_ob m_ob hA h7m h8m hkm hFT hslv rfl (by decide) GS hrm hwl ES MT MS wf2 NG (by rw [hxd]; exact mm_pred (by omega)) (by omega)) (cwV 2 hts gX5_best_X5_search rfl rfl rfl (by decide +kernel) (mm_levR hR (by omega) (by decide))) i_ob m_ob rfl rfl hl.1 rfl (Nat.le_of_ble_eq_true rfl) dX5_best_56 ⟨Nat.zero_le _, Nat.zero_le _⟩ (fun r9 M_3 H locs hp9 hV => ?_)
              obtain ⟨er9, S3, so3, hB3, hk3, hA, m_ob, fR9⟩ := hp9
              have fR : rF L ad ob M M_3 := fR.tr fR9
              refine lv_istore (lv' := [(5, .int r9), (0, .ref ob), (1, .int x1), (2, .int x2), (3, .int x3), (4, .int x4)]) hx hb dX5_best_59 hl (by decide) rfl (fun ls hl => ?_)
              refine lv_iload_n hx hb dX5_best_61 rfl (lv_at hl 3 rfl) ?_
              refine lv_if_lt (tgt := 71) hx hb dX5_best_62 (by decide) (fun c62 => ?_) (fun c62 => ?_)
              · refine lv_iload hx hb dX5_best_71 (lv_at hl 5 rfl) ?_
                refine lv_istore_n (lv' := [(2, .int x4), (5, .int r9), (0, .ref ob), (1, .int x1), (3, .int x3), (4, .int x4)]) hx hb dX5_best_73 rfl hl (by decide) rfl (fun ls hl => ?_)
                refine lv_iload hx hb dX5_best_74 (lv_at hl 1 rfl) ?_
                refine lv_istore_n (lv' := [(3, .int r9), (2, .int x4), (5, .int r9), (0, .ref ob), (1, .int x1), (4, .int x4)]) hx hb dX5_best_76 rfl hl (by decide) rfl (fun ls hl => ?_)
                obtain ⟨x4_n, ex4_n⟩ : ∃ y : Int32, y = x4 + 1 := ⟨_, rfl⟩
                refine lv_iinc (v := x4_n) (lv' := [(4, .int x4_n), (3, .int r9), (2, .int x4), (5, .int r9), (0, .ref ob), (1, .int x1)]) hx hb dX5_best_77 hl (k := 5) rfl (by rw [ex4_n]; rfl) (by decide) rfl (fun ls hl => ?_)
                refine lv_goto (tgt := 33) hx hb dX5_best_80 (by decide) ?_
                exact ih (i + 1) x4 r9 x4_n so3 S3 M_3 _ _ ls (by omega) (by rw [ex4_n, hx4]; exact nI_1 i) (by rw [← hres]; conv => rhs; rw [bsRL, if_pos c62, ← er9, ← hx4]) ((hB3.le (by decide)).row (Nat.le_refl _) (hBm.row (Nat.le_refl _) hrs)) (hB3.lst (by decide) ⟨by rw [hmn 3 (by decide) (by decide)]; exact hls.1, fun q hq => by rw [hmn 2 (by decide) (by decide)]; exact hls.2 q hq⟩) (by rw [hB3.2.2.2.2.1]; exact h7m) (by rw [hB3.2.2.2.2.2.1]; exact h8m) hk3 (((hB3.le (by decide)).tr hBm).tr hB) hV hA m_ob fR (lv_sub hl [4, 5, 2, 1, 0] rfl)
              · refine lv_iload hx hb dX5_best_65 (lv_at hl 0 rfl) ?_
                refine lv_iload_n hx hb dX5_best_67 rfl (lv_at hl 4 rfl) ?_
                refine lv_icmp_ge (tgt := 77) hx hb dX5_best_68 (by decide) (fun c68 => ?_) (fun c68 => ?_)
                · obtain ⟨x4_n, ex4_n⟩ : ∃ y : Int32, y = x4 + 1 := ⟨_, rfl⟩
                  refine lv_iinc (v := x4_n) (lv' := [(4, .int x4_n), (5, .int r9), (0, .ref ob), (1, .int x1), (2, .int x2), (3, .int x3)]) hx hb dX5_best_77 hl (k := 5) rfl (by rw [ex4_n]; rfl) (by decide) rfl (fun ls hl => ?_)
                  refine lv_goto (tgt := 33) hx hb dX5_best_80 (by decide) ?_
                  exact ih (i + 1) x2 x3 x4_n so3 S3 M_3 _ _ ls (by omega) (by rw [ex4_n, hx4]; exact nI_1 i) (by rw [← hres]; conv => rhs; rw [bsRL, if_neg c62, if_pos (by rw [← er9]; exact c68)]) ((hB3.le (by decide)).row (Nat.le_refl _) (hBm.row (Nat.le_refl _) hrs)) (hB3.lst (by decide) ⟨by rw [hmn 3 (by decide) (by decide)]; exact hls.1, fun q hq => by rw [hmn 2 (by decide) (by decide)]; exact hls.2 q hq⟩) (by rw [hB3.2.2.2.2.1]; exact h7m) (by rw [hB3.2.2.2.2.2.1]; exact h8m) hk3 (((hB3.le (by decide)).tr hBm).tr hB) hV hA m_ob fR (lv_sub hl [2, 3, 4, 5, 0] rfl)
                · refine lv_iload hx hb dX5_best_71 (lv_at hl 5 rfl) ?_
                  refine lv_istore_n (lv' := [(2, .int x4), (5, .int r9), (0, .ref ob), (1, .int x1), (3, .int x3), (4, .int x4)]) hx hb dX5_best_73 rfl hl (by decide) rfl (fun ls hl => ?_)
                  refine lv_iload hx hb dX5_best_74 (lv_at hl 1 rfl) ?_
                  refine lv_istore_n (lv' := [(3, .int r9), (2, .int x4), (5, .int r9), (0, .ref ob), (1, .int x1), (4, .int x4)]) hx hb dX5_best_76 rfl hl (by decide) rfl (fun ls hl => ?_)
                  obtain ⟨x4_n, ex4_n⟩ : ∃ y : Int32, y = x4 + 1 := ⟨_, rfl⟩
                  refine lv_iinc (v := x4_n) (lv' := [(4, .int x4_n), (3, .int r9), (2, .int x4), (5, .int r9), (0, .ref ob), (1, .int x1)]) hx hb dX5_best_77 hl (k := 5) rfl (by rw [ex4_n]; rfl) (by decide) rfl (fun ls hl => ?_)
                  refine lv_goto (tgt := 33) hx hb dX5_best_80 (by decide) ?_
                  exact ih (i + 1) x4 r9 x4_n so3 S3 M_3 _ _ ls (by omega) (by rw [ex4_n, hx4]; exact nI_1 i) (by rw [← hres]; conv => rhs; rw [bsRL, if_neg c62, if_neg (by rw [← er9]; exact c68), ← er9, ← hx4]) ((hB3.le (by decide)).row (Nat.le_refl _) (hBm.row (Nat.le_refl _) hrs)) (hB3.lst (by decide) ⟨by rw [hmn 3 (by decide) (by decide)]; exact hls.1, fun q hq => by rw [hmn 2 (by decide) (by decide)]; exact hls.2 q hq⟩) (by rw [hB3.2.2.2.2.1]; exact h7m) (by rw [hB3.2.2.2.2.2.1]; exact h8m) hk3 (((hB3.le (by decide)).tr hBm).tr hB) hV hA m_ob fR (lv_sub hl [4, 5, 2, 1, 0] rfl)
        exact LP (mvN P) 0 x2 x3 x4 so S2 M_1 H locs ls (Nat.zero_add _) (by rw [ex4]; rfl) (by unfold bestVR; rw [if_neg c7, if_neg c12, if_neg hn0, hxd, nI_clamp hd31, ex2, ex3]) (hG2.2.1.row (Nat.le_refl _) hrow) hG2.1 (by rw [hG2.2.1.2.2.2.2.1]; exact h7) (by rw [hG2.2.1.2.2.2.2.2.1]; exact h8) hkG hG2.2.1 hV hA m_ob fR (lv_sub hl [3, 4, 2, 1, 0] rfl)
      · have hn0 : mvN P = 0 := mm_zr (by omega) (by rw [← hG2.1.1]; exact c21)
        refine lv_iconst (v := (-1)) hx hb dX5_best_24 (by decide) ?_
        exact hret (v := (-1)) dX5_best_25 hV (by decide) (by decide) ⟨rfl, by unfold bestVR; rw [if_neg c7, if_neg c12, if_pos hn0], S2, so, hG2.2.1, hkG, hA, m_ob, fR⟩

def waysVR (P : Ps) (x : Int32) : Int32 := if x < 0 then -1 else if x ≤ 4 then waysF x.toNatClampNeg P else -1
theorem sumK_add (g : Nat → Int32) : ∀ (k i : Nat) (a b : Int32), sumK g k i (a + b) = a + sumK g k i b
  | 0, _, _, _ => rfl
  | k + 1, i, a, b => by rw [sumK, sumK, Int32.add_assoc, sumK_add g k]
/-- behind generate: nothing but lists -/
def WyP (S1 S : Nat → Nat → Int32) (p : Nat) : Prop := EqB p S1 S ∧ S1 18 = S 18 ∧ S1 19 = S 19
theorem WyP.rf {S : Nat → Nat → Int32} {p : Nat} : WyP S S p := ⟨EqB.rf, rfl, rfl⟩
theorem WyP.tr {A B C : Nat → Nat → Int32} {p : Nat} (h : WyP A B p) (h2 : WyP B C p) : WyP A C p := ⟨h.1.tr h2.1, h.2.1.trans h2.2.1, h.2.2.trans h2.2.2⟩
theorem WyP.le {A B : Nat → Nat → Int32} {p q : Nat} (h : WyP A B q) (hp : p ≤ q) : WyP A B p := ⟨h.1.le hp, h.2⟩

set_option maxHeartbeats 1000000 in
set_option maxRecDepth 100000 in
theorem c_waysR (l : Launch) (D : va_G) (dA : Nat → ClassId) {L : List Nat} {M : mm_M} {ob : Nat} {ad : Nat → Nat} {S : Nat → Nat → Int32} {pl qu so : Int32} {P : Ps} {WF : Ps → Prop} (x1 : Int32) (i_ob : ob ∈ L) (m_ob : M ob = rO ad pl qu so) (hA : rA dA L M ad S) (h7 : S 7 = nearR) (h8 : S 8 = farR) (GS : GenSem WF) (hrow : rowOK S 0 P) (hwf : WF P) (MS : MakeSem WF) (wf2 : ∀ P, WF P → ∀ i, i < mvN P → WF (followP P (mvA P i))) : mm_Cn l D dA yX5_ways wsX5_ways 5 [.ref ob, .int x1] L M (fun r M1 => r = waysVR P x1 ∧ ∃ S1, WyP S1 S 0 ∧ rA dA L M1 ad S1 ∧ M1 ob = rO ad pl qu so ∧ rF L ad ob M M1) := by
  have hA0 := hA
  have m_ob0 := m_ob
  have fR : rF L ad ob M M := rF.rf
  refine mm_enter_i (cc := cX5_ways) (maxL := 4) (by decide) rfl (Nat.le_of_ble_eq_true rfl) ?_
  intro p e R s m args below meth c A ls H locs Q hR hx hb hml hin hown hts hK hV hl hret
  have hl : lv_has ls 4 [(0, .ref ob), (1, .int x1)] := hl
  have hown : s.vm.findClass RX5 = some m.cls := hown
  have f_25 := hts (.fieldLink RX5 25 "JumpBoardModel" "index" "[I") (by decide +kernel)
  have in_X5 : ∀ w ∈ wsX50, w ∈ wsX5_ways := by decide +kernel
  have f_19 := hts (.fieldLink RX5 19 "JumpBoardModel" "count" "[I") (by decide +kernel)
  refine lv_iload_n hx hb dX5_ways_0 rfl (lv_at hl 1 rfl) ?_
  refine lv_if_lt (tgt := 9) hx hb dX5_ways_1 (by decide) (fun c1 => ?_) (fun c1 => ?_)
  · refine lv_iconst (v := (-1)) hx hb dX5_ways_9 (by decide) ?_
    exact hret (v := (-1)) dX5_ways_10 hV (by decide) (by decide) ⟨rfl, by unfold waysVR; rw [if_pos c1], S, WyP.rf, hA, m_ob, fR⟩
  · obtain ⟨dd, hd31, hxd⟩ := nI_of c1
    refine lv_iload_n hx hb dX5_ways_4 rfl (lv_at hl 1 rfl) ?_
    refine lv_iconst (v := 4) hx hb dX5_ways_5 (by decide) ?_
    refine lv_icmp_le (tgt := 11) hx hb dX5_ways_6 (by decide) (fun c6 => ?_) (fun c6 => ?_)
    · have hd4 : dd ≤ 4 := (nI_leI hd31 (by decide)).mp (by rw [← hxd]; exact c6)
      refine lv_iload_n hx hb dX5_ways_11 rfl (lv_at hl 1 rfl) ?_
      refine lv_if_ne (tgt := 17) hx hb dX5_ways_12 (by decide) (fun c12 => ?_) (fun c12 => ?_)
      · have hd0 : ¬ dd = 0 := fun h => c12 (by rw [hxd, h]; rfl)
        refine lv_iconst (v := 0) hx hb dX5_ways_17 (by decide) ?_
        refine lv_topi (fun x2 ex2 => ?_)
        refine lv_istore_n (lv' := [(2, .int x2), (0, .ref ob), (1, .int x1)]) hx hb dX5_ways_18 rfl hl (by decide) rfl (fun ls hl => ?_)
        refine lv_iconst (v := 0) hx hb dX5_ways_19 (by decide) ?_
        refine lv_topi (fun x3 ex3 => ?_)
        refine lv_istore_n (lv' := [(3, .int x3), (2, .int x2), (0, .ref ob), (1, .int x1)]) hx hb dX5_ways_20 rfl hl (by decide) rfl (fun ls hl => ?_)
        refine lv_aload_n hx hb dX5_ways_21 rfl (lv_at hl 2 rfl) ?_
        refine lv_iconst (v := 0) hx hb dX5_ways_22 (by decide) ?_
        obtain ⟨R9, hR9, hG9⟩ := GS S 0 P (by decide) hrow hwf h7 h8
        refine mm_Vm (ci := 5) (As := [.int 0]) (rest := []) ⟨hx, hb, hml, hown, hts⟩ hK hV (c_genR l D dA (p0 := 0) (RG := R9) 0 i_ob m_ob hA h7 h8 rfl (by decide) hR9) (cwV 1 hts gX5_ways_X5_generate rfl rfl rfl (by decide +kernel) (mm_levR hR (by omega) (by decide))) i_ob m_ob rfl rfl hl.1 rfl (Nat.le_of_ble_eq_true rfl) dX5_ways_23 ⟨Nat.zero_le _, Nat.zero_le _⟩ (fun M_1 H locs hp9 hV => ?_)
        obtain ⟨S2, hE9, hA, m_ob, fR9⟩ := hp9
        have fR : rF L ad ob M M_1 := fR.tr fR9
        have hG2 : GenP S2 S 0 P := hE9.G hG9
        refine lv_aload_n hx hb dX5_ways_26 rfl (lv_at hl 2 rfl) ?_
        refine mm_get (ci := 5) (C := RX5) (T := TX5) (N := 20) hx hb hts in_X5 hown hK hV i_ob m_ob rfl 5 (by decide) f_25 (fun _ h => h) rfl dX5_ways_27 ?_
        refine lv_iconst (v := 0) hx hb dX5_ways_30 (by decide) ?_
        refine lv_iconst (v := 0) hx hb dX5_ways_31 (by decide) ?_
        refine mm_iastN (j := 0) (x := 0) hx hb hK hV (hA.i 5 rfl) (show M_1 (ad 5) = .inl (dA 0, 6, .inl (S2 5)) from hA.m 5 rfl) rfl (by decide) (by decide) dX5_ways_32 (fun M_2 H locs eM_2 hV => ?_)
        obtain ⟨Sa, eSa⟩ : ∃ z, z = va_up S2 5 (upd (S2 5) 0 0) := ⟨_, rfl⟩
        have hA : rA dA L M_2 ad Sa := by rw [eSa]; exact hA.up 5 rfl eM_2
        have m_ob : M_2 ob = rO ad pl qu so := (congrFun eM_2 ob).trans ((va_up_ne _ _ (fun h => hA0.nob 5 rfl m_ob0 h)).trans m_ob)
        have fR : rF L ad ob M M_2 := fR.up 5 rfl eM_2
        have hBa : EqB 0 Sa S2 := up_EqB (by decide) (by decide) (Nat.le_refl _) eSa
        have han : ∀ q, q ≠ 5 → Sa q = S2 q := fun q a => by rw [eSa, va_up_ne _ _ a]
        have CH : ∀ (rr pp : Nat) (Pn : Ps) (x2 x3 : Int32) (S1 : Nat → Nat → Int32) (M1 : mm_M) (H : Heap) (locs : List Loc) (ls : Array Slot), pp + (rr + 1) = dd → x3 = nI pp → WF Pn → rowOK S1 pp Pn → lstOK S1 pp Pn → S1 5 pp = 0 → S1 7 = nearR → S1 8 = farR → mm_V A D L M1 s H locs → rA dA L M1 ad S1 → M1 ob = rO ad pl qu so → rF L ad ob M M1 → lv_has ls 4 [(0, .ref ob), (1, .int x1), (2, .int x2), (3, .int x3)] → (∀ (S2 : Nat → Nat → Int32) (M2 : mm_M) (H : Heap) (locs : List Loc) (ls : Array Slot) (y2 y3 : Int32), y3 = nI pp + (-1) → y2 = x2 + waysF (rr + 1) Pn → WyP S2 S1 pp → mm_V A D L M2 s H locs → rA dA L M2 ad S2 → M2 ob = rO ad pl qu so → rF L ad ob M M2 → lv_has ls 4 [(0, .ref ob), (1, .int x1), (2, .int y2), (3, .int y3)] → W p l e R s m args below meth c H locs 0 0 Q (F0 m 33 ls [])) → W p l e R s m args below meth c H locs 0 0 Q (F0 m 33 ls []) := by
          intro rr
          induction rr with
          | zero =>
            intro pp Pn x2 x3 S1 M1 H locs ls hpd hx3 hwn hrn hln h5 h7n h8n hV hA m_ob fR hl kont
            refine lv_iload_n hx hb dX5_ways_33 rfl (lv_at hl 3 rfl) ?_
            refine lv_if_lt (tgt := 119) hx hb dX5_ways_34 (by decide) (fun c34 => ?_) (fun c34 => ?_)
            · exact absurd c34 (by rw [hx3]; exact nI_pos (by omega))
            · refine lv_iload_n hx hb dX5_ways_37 rfl (lv_at hl 3 rfl) ?_
              refine lv_iload_n hx hb dX5_ways_38 rfl (lv_at hl 1 rfl) ?_
              refine lv_iconst (v := 1) hx hb dX5_ways_39 (by decide) ?_
              refine lv_isub hx hb dX5_ways_40 ?_
              refine lv_icmp_ne (tgt := 59) hx hb dX5_ways_41 (by decide) (fun c41 => ?_) (fun c41 => ?_)
              · exact absurd (show x3 = x1 - 1 by rw [hx3, hxd, show pp = dd - 1 by omega]; exact (mm_pred (by omega)).symm) c41
              · refine lv_iload_n hx hb dX5_ways_44 rfl (lv_at hl 2 rfl) ?_
                refine lv_aload_n hx hb dX5_ways_45 rfl (lv_at hl 0 rfl) ?_
                refine mm_get (ci := 5) (C := RX5) (T := TX5) (N := 20) hx hb hts in_X5 hown hK hV i_ob m_ob rfl 3 (by decide) f_19 (fun _ h => h) rfl dX5_ways_46 ?_
                refine lv_iload_n hx hb dX5_ways_49 rfl (lv_at hl 3 rfl) ?_
                refine mm_ialdN (j := pp) hx hb hK hV (hA.i 3 rfl) (show M1 (ad 3) = .inl (dA 0, 6, .inl (S1 3)) from hA.m 3 rfl) hx3 (by omega) (by decide) dX5_ways_50 ?_
                refine lv_iadd hx hb dX5_ways_51 ?_
                refine lv_topi (fun y2 ey2 => ?_)
                refine lv_istore_n (lv' := [(2, .int y2), (0, .ref ob), (1, .int x1), (3, .int x3)]) hx hb dX5_ways_52 rfl hl (by decide) rfl (fun ls hl => ?_)
                obtain ⟨y3, ey3⟩ : ∃ y : Int32, y = x3 + (-1) := ⟨_, rfl⟩
                refine lv_iinc (v := y3) (lv' := [(3, .int y3), (2, .int y2), (0, .ref ob), (1, .int x1)]) hx hb dX5_ways_53 hl (k := 3) rfl (by rw [ey3]; rfl) (by decide) rfl (fun ls hl => ?_)
                refine lv_goto (tgt := 33) hx hb dX5_ways_56 (by decide) ?_
                exact kont S1 M1 _ _ ls y2 y3 (by rw [ey3, hx3]) (by rw [ey2, hln.1]; rfl) WyP.rf hV hA m_ob fR (lv_sub hl [2, 3, 1, 0] rfl)
          | succ rr ihr =>
            intro pp Pn x20 x3 S0 M0 H locs ls hpd hx3 hwn hrn hln h5 h7n h8n hV hA m_ob fR hl kont
            have hn72 := mvN_le Pn
            have hsum : sumK (fun i => waysF (rr + 1) (followP Pn (mvA Pn i))) (mvN Pn) 0 x20 = x20 + waysF (rr + 1 + 1) Pn := by rw [waysF, if_neg (by omega), ← sumK_add, Int32.add_zero]
            have LP : ∀ (k i : Nat) (x2 : Int32) (S1 : Nat → Nat → Int32) (M1 : mm_M) (H : Heap) (locs : List Loc) (ls : Array Slot), i + k = mvN Pn → rowOK S1 pp Pn → lstOK S1 pp Pn → S1 5 pp = nI i → S1 7 = nearR → S1 8 = farR → sumK (fun i => waysF (rr + 1) (followP Pn (mvA Pn i))) k i x2 = x20 + waysF (rr + 1 + 1) Pn → WyP S1 S0 pp → mm_V A D L M1 s H locs → rA dA L M1 ad S1 → M1 ob = rO ad pl qu so → rF L ad ob M M1 → lv_has ls 4 [(0, .ref ob), (1, .int x1), (2, .int x2), (3, .int x3)] → W p l e R s m args below meth c H locs 0 0 Q (F0 m 33 ls []) := by
              intro k
              induction k with
              | zero =>
                intro i x2 S1 M1 H locs ls hik hrn hln h5 h7n h8n hres hW hV hA m_ob fR hl
                refine lv_iload_n hx hb dX5_ways_33 rfl (lv_at hl 3 rfl) ?_
                refine lv_if_lt (tgt := 119) hx hb dX5_ways_34 (by decide) (fun c34 => ?_) (fun c34 => ?_)
                · exact absurd c34 (by rw [hx3]; exact nI_pos (by omega))
                · refine lv_iload_n hx hb dX5_ways_37 rfl (lv_at hl 3 rfl) ?_
                  refine lv_iload_n hx hb dX5_ways_38 rfl (lv_at hl 1 rfl) ?_
                  refine lv_iconst (v := 1) hx hb dX5_ways_39 (by decide) ?_
                  refine lv_isub hx hb dX5_ways_40 ?_
                  refine lv_icmp_ne (tgt := 59) hx hb dX5_ways_41 (by decide) (fun c41 => ?_) (fun c41 => ?_)
                  · refine lv_aload_n hx hb dX5_ways_59 rfl (lv_at hl 0 rfl) ?_
                    refine mm_get (ci := 5) (C := RX5) (T := TX5) (N := 20) hx hb hts in_X5 hown hK hV i_ob m_ob rfl 5 (by decide) f_25 (fun _ h => h) rfl dX5_ways_60 ?_
                    refine lv_iload_n hx hb dX5_ways_63 rfl (lv_at hl 3 rfl) ?_
                    refine mm_ialdN (j := pp) hx hb hK hV (hA.i 5 rfl) (show M1 (ad 5) = .inl (dA 0, 6, .inl (S1 5)) from hA.m 5 rfl) hx3 (by omega) (by decide) dX5_ways_64 ?_
                    refine lv_aload_n hx hb dX5_ways_65 rfl (lv_at hl 0 rfl) ?_
                    refine mm_get (ci := 5) (C := RX5) (T := TX5) (N := 20) hx hb hts in_X5 hown hK hV i_ob m_ob rfl 3 (by decide) f_19 (fun _ h => h) rfl dX5_ways_66 ?_
                    refine lv_iload_n hx hb dX5_ways_69 rfl (lv_at hl 3 rfl) ?_
                    refine mm_ialdN (j := pp) hx hb hK hV (hA.i 3 rfl) (show M1 (ad 3) = .inl (dA 0, 6, .inl (S1 3)) from hA.m 3 rfl) hx3 (by omega) (by decide) dX5_ways_70 ?_
                    refine lv_icmp_ge (tgt := 113) hx hb dX5_ways_71 (by decide) (fun c71 => ?_) (fun c71 => ?_)
                    · obtain ⟨y3, ey3⟩ : ∃ y : Int32, y = x3 + (-1) := ⟨_, rfl⟩
                      refine lv_iinc (v := y3) (lv' := [(3, .int y3), (0, .ref ob), (1, .int x1), (2, .int x2)]) hx hb dX5_ways_113 hl (k := 3) rfl (by rw [ey3]; rfl) (by decide) rfl (fun ls hl => ?_)
                      refine lv_goto (tgt := 33) hx hb dX5_ways_116 (by decide) ?_
                      exact kont S1 M1 _ _ ls x2 y3 (by rw [ey3, hx3]) hres hW hV hA m_ob fR (lv_sub hl [1, 2, 3, 0] rfl)
                    · exact absurd (by rw [hln.1, h5]; exact nI_le (by omega) (by omega)) c71
                  · exact absurd c41 (by rw [hx3, hxd, mm_pred (by omega)]; exact fun h => by have := (nI_eq (by omega) (by omega)).mp h; omega)
              | succ k ihk =>
                intro i x2 S1 M1 H locs ls hik hrn hln h5 h7n h8n hres hW hV hA m_ob fR hl
                refine lv_iload_n hx hb dX5_ways_33 rfl (lv_at hl 3 rfl) ?_
                refine lv_if_lt (tgt := 119) hx hb dX5_ways_34 (by decide) (fun c34 => ?_) (fun c34 => ?_)
                · exact absurd c34 (by rw [hx3]; exact nI_pos (by omega))
                · refine lv_iload_n hx hb dX5_ways_37 rfl (lv_at hl 3 rfl) ?_
                  refine lv_iload_n hx hb dX5_ways_38 rfl (lv_at hl 1 rfl) ?_
                  refine lv_iconst (v := 1) hx hb dX5_ways_39 (by decide) ?_
                  refine lv_isub hx hb dX5_ways_40 ?_
                  refine lv_icmp_ne (tgt := 59) hx hb dX5_ways_41 (by decide) (fun c41 => ?_) (fun c41 => ?_)
                  · refine lv_aload_n hx hb dX5_ways_59 rfl (lv_at hl 0 rfl) ?_
                    refine mm_get (ci := 5) (C := RX5) (T := TX5) (N := 20) hx hb hts in_X5 hown hK hV i_ob m_ob rfl 5 (by decide) f_25 (fun _ h => h) rfl dX5_ways_60 ?_
                    refine lv_iload_n hx hb dX5_ways_63 rfl (lv_at hl 3 rfl) ?_
                    refine mm_ialdN (j := pp) hx hb hK hV (hA.i 5 rfl) (show M1 (ad 5) = .inl (dA 0, 6, .inl (S1 5)) from hA.m 5 rfl) hx3 (by omega) (by decide) dX5_ways_64 ?_
                    refine lv_aload_n hx hb dX5_ways_65 rfl (lv_at hl 0 rfl) ?_
                    refine mm_get (ci := 5) (C := RX5) (T := TX5) (N := 20) hx hb hts in_X5 hown hK hV i_ob m_ob rfl 3 (by decide) f_19 (fun _ h => h) rfl dX5_ways_66 ?_
                    refine lv_iload_n hx hb dX5_ways_69 rfl (lv_at hl 3 rfl) ?_
                    refine mm_ialdN (j := pp) hx hb hK hV (hA.i 3 rfl) (show M1 (ad 3) = .inl (dA 0, 6, .inl (S1 3)) from hA.m 3 rfl) hx3 (by omega) (by decide) dX5_ways_70 ?_
                    refine lv_icmp_ge (tgt := 113) hx hb dX5_ways_71 (by decide) (fun c71 => ?_) (fun c71 => ?_)
                    · exact absurd c71 (by rw [hln.1, h5]; exact nI_ge (by omega) (by omega))
                    · have hi : i < mvN Pn := by omega
                      refine lv_aload_n hx hb dX5_ways_74 rfl (lv_at hl 0 rfl) ?_
                      refine lv_iload_n hx hb dX5_ways_75 rfl (lv_at hl 3 rfl) ?_
                      refine lv_aload_n hx hb dX5_ways_76 rfl (lv_at hl 0 rfl) ?_
                      refine mm_get (ci := 5) (C := RX5) (T := TX5) (N := 20) hx hb hts in_X5 hown hK hV i_ob m_ob rfl 5 (by decide) f_25 (fun _ h => h) rfl dX5_ways_77 ?_
                      refine lv_iload_n hx hb dX5_ways_80 rfl (lv_at hl 3 rfl) ?_
                      refine mm_ialdN (j := pp) hx hb hK hV (hA.i 5 rfl) (show M1 (ad 5) = .inl (dA 0, 6, .inl (S1 5)) from hA.m 5 rfl) hx3 (by omega) (by decide) dX5_ways_81 ?_
                      obtain ⟨f8, t8, hf1, hf2, ht1, ht2, hrm⟩ := MS S1 pp Pn i hrn hwn hi
                      have hk8 := hln.2 i hi
                      refine mm_Vm (ci := 5) (As := [.int x3, .int ((S1 5) pp)]) (rest := []) ⟨hx, hb, hml, hown, hts⟩ hK hV (c_makeR l D dA (p0 := pp) (i0 := i) (f0 := f8) (t0 := t8) x3 (S1 5 pp) i_ob m_ob hA hx3 (by omega) h5 (by omega) (by rw [hk8]; exact hf1) hf2 (by rw [hk8]; exact ht1) ht2) (cwV 2 hts gX5_ways_X5_make rfl rfl rfl (by decide +kernel) (mm_levR hR (by omega) (by decide))) i_ob m_ob rfl rfl hl.1 rfl (Nat.le_of_ble_eq_true rfl) dX5_ways_82 ⟨Nat.zero_le _, Nat.zero_le _⟩ (fun M_3 H locs hp hV => ?_)
                      obtain ⟨hA, m_ob, fR9⟩ := hp
                      have fR : rF L ad ob M M_3 := fR.tr fR9
                      obtain ⟨Sm, eSm⟩ : ∃ z, z = makeR S1 pp (S1 2 (80 * pp + i)) f8 t8 := ⟨_, rfl⟩
                      rw [← eSm] at hA
                      rw [hk8] at eSm
                      rw [← eSm] at hrm
                      have hBm : EqB pp Sm S1 := by rw [eSm]; exact mk_EqB
                      have hmn : ∀ q, q ≠ 0 → q ≠ 1 → Sm q = S1 q := fun q a b => by rw [eSm]; exact makeR_ne a b
                      refine lv_aload_n hx hb dX5_ways_85 rfl (lv_at hl 0 rfl) ?_
                      refine mm_get (ci := 5) (C := RX5) (T := TX5) (N := 20) hx hb hts in_X5 hown hK hV i_ob m_ob rfl 5 (by decide) f_25 (fun _ h => h) rfl dX5_ways_86 ?_
                      refine lv_iload_n hx hb dX5_ways_89 rfl (lv_at hl 3 rfl) ?_
                      refine lv_dup2_11 hx hb dX5_ways_90 rfl rfl ?_
                      refine mm_ialdN (j := pp) hx hb hK hV (hA.i 5 rfl) (show M_3 (ad 5) = .inl (dA 0, 6, .inl (Sm 5)) from hA.m 5 rfl) hx3 (by omega) (by decide) dX5_ways_91 ?_
                      refine lv_iconst (v := 1) hx hb dX5_ways_92 (by decide) ?_
                      refine lv_iadd hx hb dX5_ways_93 ?_
                      refine lv_topi (fun vi evi => ?_)
                      refine mm_iastN (j := pp) (x := vi) hx hb hK hV (hA.i 5 rfl) (show M_3 (ad 5) = .inl (dA 0, 6, .inl (Sm 5)) from hA.m 5 rfl) hx3 (by omega) (by decide) dX5_ways_94 (fun M_4 H locs eM_4 hV => ?_)
                      obtain ⟨Si, eSi⟩ : ∃ z, z = va_up Sm 5 (upd (Sm 5) pp vi) := ⟨_, rfl⟩
                      have hA : rA dA L M_4 ad Si := by rw [eSi]; exact hA.up 5 rfl eM_4
                      have m_ob : M_4 ob = rO ad pl qu so := (congrFun eM_4 ob).trans ((va_up_ne _ _ (fun h => hA0.nob 5 rfl m_ob0 h)).trans m_ob)
                      have fR : rF L ad ob M M_4 := fR.up 5 rfl eM_4
                      have hvi : vi = nI (i + 1) := by rw [evi, hmn 5 (by decide) (by decide), h5]; exact nI_1 i
                      have hin : ∀ q, q ≠ 5 → Si q = Sm q := fun q a => by rw [eSi, va_up_ne _ _ a]
                      have hri : rowOK Si (pp + 1) (followP Pn (mvA Pn i)) := ⟨fun q hq => by rw [hin 0 (by decide)]; exact hrm.1 q hq, by rw [hin 1 (by decide)]; exact hrm.2⟩
                      have hwl : WF (followP Pn (mvA Pn i)) := wf2 Pn hwn i hi
                      have h7i : Si 7 = nearR := by rw [hin 7 (by decide), hmn 7 (by decide) (by decide)]; exact h7n
                      have h8i : Si 8 = farR := by rw [hin 8 (by decide), hmn 8 (by decide) (by decide)]; exact h8n
                      obtain ⟨x3_n, ex3_n⟩ : ∃ y : Int32, y = x3 + 1 := ⟨_, rfl⟩
                      refine lv_iinc (v := x3_n) (lv' := [(3, .int x3_n), (0, .ref ob), (1, .int x1), (2, .int x2)]) hx hb dX5_ways_95 hl (k := 3) rfl (by rw [ex3_n]; rfl) (by decide) rfl (fun ls hl => ?_)
                      have hx3n : x3_n = nI (pp + 1) := by rw [ex3_n, hx3]; exact nI_1 pp
                      refine lv_aload_n hx hb dX5_ways_98 rfl (lv_at hl 1 rfl) ?_
                      refine lv_iload_n hx hb dX5_ways_99 rfl (lv_at hl 0 rfl) ?_
                      obtain ⟨R9, hR9, hG9⟩ := GS Si (pp + 1) (followP Pn (mvA Pn i)) (by omega) hri hwl h7i h8i
                      refine mm_Vm (ci := 5) (As := [.int x3_n]) (rest := []) ⟨hx, hb, hml, hown, hts⟩ hK hV (c_genR l D dA (p0 := (pp + 1)) (RG := R9) x3_n i_ob m_ob hA h7i h8i hx3n (by omega) hR9) (cwV 1 hts gX5_ways_X5_generate rfl rfl rfl (by decide +kernel) (mm_levR hR (by omega) (by decide))) i_ob m_ob rfl rfl hl.1 rfl (Nat.le_of_ble_eq_true rfl) dX5_ways_100 ⟨Nat.zero_le _, Nat.zero_le _⟩ (fun M_5 H locs hp9 hV => ?_)
                      obtain ⟨Sg, hE9, hA, m_ob, fR9⟩ := hp9
                      have fR : rF L ad ob M M_5 := fR.tr fR9
                      have hGg : GenP Sg Si (pp + 1) (followP Pn (mvA Pn i)) := hE9.G hG9
                      refine lv_aload_n hx hb dX5_ways_103 rfl (lv_at hl 1 rfl) ?_
                      refine mm_get (ci := 5) (C := RX5) (T := TX5) (N := 20) hx hb hts in_X5 hown hK hV i_ob m_ob rfl 5 (by decide) f_25 (fun _ h => h) rfl dX5_ways_104 ?_
                      refine lv_iload_n hx hb dX5_ways_107 rfl (lv_at hl 0 rfl) ?_
                      refine lv_iconst (v := 0) hx hb dX5_ways_108 (by decide) ?_
                      refine mm_iastN (j := (pp + 1)) (x := 0) hx hb hK hV (hA.i 5 rfl) (show M_5 (ad 5) = .inl (dA 0, 6, .inl (Sg 5)) from hA.m 5 rfl) hx3n (by omega) (by decide) dX5_ways_109 (fun M_6 H locs eM_6 hV => ?_)
                      obtain ⟨Sj, eSj⟩ : ∃ z, z = va_up Sg 5 (upd (Sg 5) (pp + 1) 0) := ⟨_, rfl⟩
                      have hA : rA dA L M_6 ad Sj := by rw [eSj]; exact hA.up 5 rfl eM_6
                      have m_ob : M_6 ob = rO ad pl qu so := (congrFun eM_6 ob).trans ((va_up_ne _ _ (fun h => hA0.nob 5 rfl m_ob0 h)).trans m_ob)
                      have fR : rF L ad ob M M_6 := fR.up 5 rfl eM_6
                      have hjn : ∀ q, q ≠ 5 → Sj q = Sg q := fun q a => by rw [eSj, va_up_ne _ _ a]
                      have hBj : EqB (pp + 1) Sj Sg := up_EqB (by decide) (by decide) (Nat.le_refl _) eSj
                      refine lv_goto (tgt := 33) hx hb dX5_ways_110 (by decide) ?_
                      refine ihr (pp + 1) (followP Pn (mvA Pn i)) x2 x3_n Sj M_6 _ _ ls (by omega) hx3n hwl (hBj.row (Nat.le_refl _) (hGg.2.1.row (Nat.le_refl _) hri)) ⟨by rw [hjn 3 (by decide)]; exact hGg.1.1, fun q hq => by rw [hjn 2 (by decide)]; exact hGg.1.2 q hq⟩ (by rw [eSj, va_up_self, pk_us]) (by rw [hjn 7 (by decide), hGg.2.1.2.2.2.2.1]; exact h7i) (by rw [hjn 8 (by decide), hGg.2.1.2.2.2.2.2.1]; exact h8i) hV hA m_ob fR (lv_sub hl [1, 2, 3, 0] rfl) (fun S3 M3 H locs ls y2 y3 e1 e2 hW3 hV hA m_ob fR hl => ?_)
                      have hBi : EqB (pp + 1) S3 Si := (hW3.1.tr hBj).tr hGg.2.1
                      have hp3 : ∀ q, 3 ≤ q → q ≤ 6 → S3 q pp = Si q pp := fun q a b => hBi.2.2.2.1 q a b pp (by omega)
                      have hBii : EqB pp Si Sm := up_EqB (by decide) (by decide) (Nat.le_refl _) eSi
                      have hy3 : y3 = x3 := by rw [e1, hx3]; exact pk_m1 pp
                      rw [hy3] at hl
                      exact ihk (i + 1) y2 S3 M3 H locs ls (by omega) ((hBi.le (by omega)).row (Nat.le_refl _) (hBii.row (Nat.le_refl _) (hBm.row (Nat.le_refl _) hrn))) (hBi.lst (by omega) ⟨by rw [hin 3 (by decide), hmn 3 (by decide) (by decide)]; exact hln.1, fun q hq => by rw [hin 2 (by decide), hmn 2 (by decide) (by decide)]; exact hln.2 q hq⟩) (by rw [hp3 5 (by decide) (by decide), eSi, va_up_self, pk_us, hvi]) (by rw [hBi.2.2.2.2.1]; exact h7i) (by rw [hBi.2.2.2.2.2.1]; exact h8i) (by rw [← hres, e2]; rfl) ⟨(((hBi.le (by omega)).tr hBii).tr hBm).tr hW.1, by rw [hW3.2.1, hjn 18 (by decide), hGg.2.2.2.1, hin 18 (by decide), hmn 18 (by decide) (by decide)]; exact hW.2.1, by rw [hW3.2.2, hjn 19 (by decide), hGg.2.2.2.2, hin 19 (by decide), hmn 19 (by decide) (by decide)]; exact hW.2.2⟩ hV hA m_ob fR hl
                  · exact absurd c41 (by rw [hx3, hxd, mm_pred (by omega)]; exact fun h => by have := (nI_eq (by omega) (by omega)).mp h; omega)
            exact LP (mvN Pn) 0 x20 S0 M0 H locs ls (Nat.zero_add _) hrn hln (by rw [h5]; rfl) h7n h8n hsum WyP.rf hV hA m_ob fR hl
        refine CH (dd - 1) 0 P x2 x3 Sa M_2 _ _ ls (by omega) (by rw [ex3]; rfl) hwf (hBa.row (Nat.le_refl _) (hG2.2.1.row (Nat.le_refl _) hrow)) ⟨by rw [han 3 (by decide)]; exact hG2.1.1, fun q hq => by rw [han 2 (by decide)]; exact hG2.1.2 q hq⟩ (by rw [eSa, va_up_self, pk_us]) (by rw [han 7 (by decide), hG2.2.1.2.2.2.2.1]; exact h7) (by rw [han 8 (by decide), hG2.2.1.2.2.2.2.2.1]; exact h8) hV hA m_ob fR (lv_sub hl [2, 3, 1, 0] rfl) (fun S3 M3 H locs ls y2 y3 e1 e2 hW3 hV hA m_ob fR hl => ?_)
        refine lv_iload_n hx hb dX5_ways_33 rfl (lv_at hl 3 rfl) ?_
        refine lv_if_lt (tgt := 119) hx hb dX5_ways_34 (by decide) (fun c34 => ?_) (fun c34 => ?_)
        · refine lv_iload_n hx hb dX5_ways_119 rfl (lv_at hl 2 rfl) ?_
          exact hret (v := y2) dX5_ways_120 hV (by decide) (by decide) ⟨rfl, by unfold waysVR; rw [if_neg c1, if_pos c6, hxd, nI_clamp hd31, e2, ex2, Int32.zero_add, show dd - 1 + 1 = dd by omega], S3, ⟨(hW3.1.tr hBa).tr hG2.2.1, by rw [hW3.2.1, han 18 (by decide)]; exact hG2.2.2.2.1, by rw [hW3.2.2, han 19 (by decide)]; exact hG2.2.2.2.2⟩, hA, m_ob, fR⟩
        · exact absurd (by rw [e1]; decide) c34
      · have hd0 : dd = 0 := mm_zr hd31 (by rw [← hxd]; exact c12)
        refine lv_iconst (v := 1) hx hb dX5_ways_15 (by decide) ?_
        exact hret (v := 1) dX5_ways_16 hV (by decide) (by decide) ⟨rfl, by unfold waysVR; rw [if_neg c1, if_pos c6, hxd, nI_clamp hd31, hd0]; rfl, S, WyP.rf, hA, m_ob, fR⟩
    · refine lv_iconst (v := (-1)) hx hb dX5_ways_9 (by decide) ?_
      exact hret (v := (-1)) dX5_ways_10 hV (by decide) (by decide) ⟨rfl, by unfold waysVR; rw [if_neg c1, if_neg c6], S, WyP.rf, hA, m_ob, fR⟩
