theorem stpO_some {p s : Nat} {S R : Nat → Nat → Int32} (h : stpO p s S = some R) : ∃ n, S 3 p = nI n ∧ n ≤ 76 ∧ R = stpR p s S := by
  unfold stpO at h
  by_cases hc : S 3 p = nI (cntR S p) ∧ cntR S p ≤ 76
  · rw [if_pos hc] at h; exact ⟨_, hc.1, hc.2, (Option.some.inj h).symm⟩
  · rw [if_neg hc] at h; cases h
theorem stpL_ne {p f : Nat} {pc : Int32} {j : Nat} (h2 : j ≠ 2) (h3 : j ≠ 3) : ∀ (k w : Nat) (S : Nat → Nat → Int32), stpL p f pc k w S j = S j
  | 0, _, _ => rfl
  | k + 1, w, S => by
    rw [stpL, stpL_ne h2 h3 k]
    unfold stp1
    split
    · rfl
    · split
      · rfl
      · split
        · exact noteR_ne h2 h3
        · rfl
theorem stpR_ne {p f : Nat} {S : Nat → Nat → Int32} {j : Nat} (h2 : j ≠ 2) (h3 : j ≠ 3) : stpR p f S j = S j := stpL_ne h2 h3 _ _ _

set_option maxHeartbeats 1000000 in
set_option maxRecDepth 100000 in
theorem c_genR (l : Launch) (D : va_G) (dA : Nat → ClassId) {L : List Nat} {M : mm_M} {ob : Nat} {ad : Nat → Nat} {S : Nat → Nat → Int32} {pl qu so : Int32} {p0 : Nat} {RG : Nat → Nat → Int32} (x1 : Int32) (i_ob : ob ∈ L) (m_ob : M ob = rO ad pl qu so) (hA : rA dA L M ad S) (h7 : S 7 = nearR) (h8 : S 8 = farR) (hp : x1 = nI p0) (hp6 : p0 < 6) (hgen : genR p0 S = some RG) : mm_Cm l D dA yX5_generate wsX5_generate 3 [.ref ob, .int x1] L M (fun M1 => ∃ S1, EqL S1 RG ∧ rA dA L M1 ad S1 ∧ M1 ob = rO ad pl qu so ∧ rF L ad ob M M1) := by
  have hA0 := hA
  have m_ob0 := m_ob
  have fR : rF L ad ob M M := rF.rf
  refine mm_enter_v (cc := cX5_generate) (maxL := 4) (by decide) rfl (Nat.le_of_ble_eq_true rfl) ?_
  intro p e R s m args below meth c A ls H locs Q hR hx hb hml hin hown hts hK hV hl hret
  have hl : lv_has ls 4 [(0, .ref ob), (1, .int x1)] := hl
  have hown : s.vm.findClass RX5 = some m.cls := hown
  have f_19 := hts (.fieldLink RX5 19 "JumpBoardModel" "count" "[I") (by decide +kernel)
  have in_X5 : ∀ w ∈ wsX50, w ∈ wsX5_generate := by decide +kernel
  have f_7 := hts (.fieldLink RX5 7 "JumpBoardModel" "board" "[I") (by decide +kernel)
  have f_13 := hts (.fieldLink RX5 13 "JumpBoardModel" "mover" "[I") (by decide +kernel)
  refine lv_aload_n hx hb dX5_generate_0 rfl (lv_at hl 0 rfl) ?_
  refine mm_get (ci := 5) (C := RX5) (T := TX5) (N := 20) hx hb hts in_X5 hown hK hV i_ob m_ob rfl 3 (by decide) f_19 (fun _ h => h) rfl dX5_generate_1 ?_
  refine lv_iload_n hx hb dX5_generate_4 rfl (lv_at hl 1 rfl) ?_
  refine lv_iconst (v := 0) hx hb dX5_generate_5 (by decide) ?_
  refine mm_iastN (j := p0) (x := 0) hx hb hK hV (hA.i 3 rfl) (show M (ad 3) = .inl (dA 0, 6, .inl (S 3)) from hA.m 3 rfl) hp (by omega) (by decide) dX5_generate_6 (fun M_1 H locs eM_1 hV => ?_)
  obtain ⟨Sz, eSz⟩ : ∃ z, z = va_up S 3 (upd (S 3) p0 0) := ⟨_, rfl⟩
  have hA : rA dA L M_1 ad Sz := by rw [eSz]; exact hA.up 3 rfl eM_1
  have m_ob : M_1 ob = rO ad pl qu so := (congrFun eM_1 ob).trans ((va_up_ne _ _ (fun h => hA0.nob 3 rfl m_ob0 h)).trans m_ob)
  have fR : rF L ad ob M M_1 := fR.up 3 rfl eM_1
  have hg9 := hgen
  unfold genR at hg9
  rw [← eSz] at hg9
  obtain ⟨R1, hR1, hR2⟩ := Option.bind_eq_some_iff.mp hg9
  refine lv_iconst (v := 0) hx hb dX5_generate_7 (by decide) ?_
  refine lv_topi (fun x2 ex2 => ?_)
  refine lv_istore_n (lv' := [(2, .int x2), (0, .ref ob), (1, .int x1)]) hx hb dX5_generate_8 rfl hl (by decide) rfl (fun ls hl => ?_)
  have LP : ∀ (k : Nat) (i : Nat) (x2 : Int32) (Sp : Nat → Nat → Int32) (S1 : Nat → Nat → Int32) (M1 : mm_M) (H : Heap) (locs : List Loc) (ls : Array Slot), i + k = 18 → x2 = nI i → EqL S1 Sp → Sp 7 = nearR → Sp 8 = farR → genJ p0 k i Sp = some R1 → mm_V A D L M1 s H locs → rA dA L M1 ad S1 → M1 ob = rO ad pl qu so → rF L ad ob M M1 → lv_has ls 4 [(0, .ref ob), (1, .int x1), (2, .int x2)] → W p l e R s m args below meth c H locs 0 0 Q (F0 m 9 ls []) := by
    intro k
    induction k with
    | zero =>
      intro i x2 Sp S1 M1 H locs ls hik hx2 hE h7p h8p hres hV hA m_ob fR hl
      refine lv_iload_n hx hb dX5_generate_9 rfl (lv_at hl 2 rfl) ?_
      refine lv_bipush (v := 18) hx hb dX5_generate_10 (by decide) ?_
      refine lv_icmp_ge (tgt := 50) hx hb dX5_generate_12 (by decide) (fun c12 => ?_) (fun c12 => ?_)
      · have hfin : Sp = R1 := Option.some.inj hres
        have hE1 : EqL S1 R1 := by rw [← hfin]; exact hE
        have h7r : R1 7 = nearR := by rw [← hfin]; exact h7p
        refine lv_aload_n hx hb dX5_generate_50 rfl (lv_at hl 0 rfl) ?_
        refine mm_get (ci := 5) (C := RX5) (T := TX5) (N := 20) hx hb hts in_X5 hown hK hV i_ob m_ob rfl 3 (by decide) f_19 (fun _ h => h) rfl dX5_generate_51 ?_
        refine lv_iload_n hx hb dX5_generate_54 rfl (lv_at hl 1 rfl) ?_
        refine mm_ialdN (j := p0) hx hb hK hV (hA.i 3 rfl) (show M1 (ad 3) = .inl (dA 0, 6, .inl (S1 3)) from hA.m 3 rfl) hp (by omega) (by decide) dX5_generate_55 ?_
        have J64 : ∀ (v64 : Int32), v64 = (if (S1 3) p0 = 0 then 1 else 0) → W p l e R s m args below meth c H locs 0 0 Q (F0 m 64 ls [.int v64]) := by
          intro v64 ev64
          refine lv_topi (fun xn exn => ?_)
          refine lv_istore_n (lv' := [(2, .int xn), (0, .ref ob), (1, .int x1)]) hx hb dX5_generate_64 rfl hl (by decide) rfl (fun ls hl => ?_)
          refine lv_iconst (v := 0) hx hb dX5_generate_65 (by decide) ?_
          refine lv_topi (fun x3 ex3 => ?_)
          refine lv_istore_n (lv' := [(3, .int x3), (2, .int xn), (0, .ref ob), (1, .int x1)]) hx hb dX5_generate_66 rfl hl (by decide) rfl (fun ls hl => ?_)
          have LQ : ∀ (k : Nat) (j : Nat) (x3 : Int32) (Sq : Nat → Nat → Int32) (S1 : Nat → Nat → Int32) (M1 : mm_M) (H : Heap) (locs : List Loc) (ls : Array Slot), j + k = 18 → x3 = nI j → EqL S1 Sq → Sq 7 = nearR → (if xn = 0 then some Sq else genS p0 k j Sq) = some RG → mm_V A D L M1 s H locs → rA dA L M1 ad S1 → M1 ob = rO ad pl qu so → rF L ad ob M M1 → lv_has ls 4 [(0, .ref ob), (1, .int x1), (2, .int xn), (3, .int x3)] → W p l e R s m args below meth c H locs 0 0 Q (F0 m 67 ls []) := by
            intro k
            induction k with
            | zero =>
              intro j x3 Sq S1 M1 H locs ls hjk hx3 hE h7q hres hV hA m_ob fR hl
              refine lv_iload_n hx hb dX5_generate_67 rfl (lv_at hl 3 rfl) ?_
              refine lv_bipush (v := 18) hx hb dX5_generate_68 (by decide) ?_
              refine lv_icmp_ge (tgt := 112) hx hb dX5_generate_70 (by decide) (fun c70 => ?_) (fun c70 => ?_)
              · have hfin : Sq = RG := by
                  have h9 := hres
                  rw [show genS p0 0 j Sq = some Sq from rfl, ite_self] at h9
                  exact Option.some.inj h9
                exact hret dX5_generate_112 hV (by decide) (by decide) ⟨rfl, S1, by rw [← hfin]; exact hE, hA, m_ob, fR⟩
              · exact absurd (by rw [hx3]; exact nI_le (a := 18) (by omega) (by omega)) c70
            | succ k ih =>
              intro j x3 Sq S1 M1 H locs ls hjk hx3 hE h7q hres hV hA m_ob fR hl
              refine lv_iload_n hx hb dX5_generate_67 rfl (lv_at hl 3 rfl) ?_
              refine lv_bipush (v := 18) hx hb dX5_generate_68 (by decide) ?_
              refine lv_icmp_ge (tgt := 112) hx hb dX5_generate_70 (by decide) (fun c70 => ?_) (fun c70 => ?_)
              · exact absurd c70 (by rw [hx3]; exact nI_ge (b := 18) (by omega) (by decide))
              · have hj18 : j < 18 := by omega
                have h71 : S1 7 = nearR := (hE 7 (by decide) (by decide) (by decide) (by decide)).trans h7q
                refine lv_iload_n hx hb dX5_generate_73 rfl (lv_at hl 2 rfl) ?_
                refine lv_if_eq (tgt := 106) hx hb dX5_generate_74 (by decide) (fun c74 => ?_) (fun c74 => ?_)
                · obtain ⟨x3_n, ex3_n⟩ : ∃ y : Int32, y = x3 + 1 := ⟨_, rfl⟩
                  refine lv_iinc (v := x3_n) (lv' := [(3, .int x3_n), (0, .ref ob), (1, .int x1), (2, .int xn)]) hx hb dX5_generate_106 hl (k := 3) rfl (by rw [ex3_n]; rfl) (by decide) rfl (fun ls hl => ?_)
                  refine lv_goto (tgt := 67) hx hb dX5_generate_109 (by decide) ?_
                  exact ih (j + 1) x3_n Sq S1 M1 _ _ ls (by omega) (by rw [ex3_n, hx3]; exact nI_1 j) hE h7q (by rw [if_pos c74] at hres ⊢; exact hres) hV hA m_ob fR (lv_sub hl [1, 2, 3, 0] rfl)
                · refine lv_aload_n hx hb dX5_generate_77 rfl (lv_at hl 0 rfl) ?_
                  refine mm_get (ci := 5) (C := RX5) (T := TX5) (N := 20) hx hb hts in_X5 hown hK hV i_ob m_ob rfl 0 (by decide) f_7 (fun _ h => h) rfl dX5_generate_78 ?_
                  refine lv_bipush (v := 18) hx hb dX5_generate_81 (by decide) ?_
                  refine lv_iload_n hx hb dX5_generate_83 rfl (lv_at hl 1 rfl) ?_
                  refine lv_imul hx hb dX5_generate_84 ?_
                  refine lv_iload_n hx hb dX5_generate_85 rfl (lv_at hl 3 rfl) ?_
                  refine lv_iadd hx hb dX5_generate_86 ?_
                  refine mm_ialdN (j := (18 * p0 + j)) hx hb hK hV (hA.i 0 rfl) (show M1 (ad 0) = .inl (dA 0, 108, .inl (S1 0)) from hA.m 0 rfl) (ixR (c := 18) rfl hp hx3) (by omega) (by decide) dX5_generate_87 ?_
                  refine mm_Sp (v := (sideR ((S1 0) (18 * p0 + j)))) (As := [.int ((S1 0) (18 * p0 + j))]) (rest := []) ⟨hx, hb, hml, hown, hts⟩ hK hV (c_sideR l D dA ((S1 0) (18 * p0 + j))) (va_cwS 1 hts gX5_generate_X5_sideOf rfl rfl rfl (by decide +kernel) (mm_levR hR (by omega) (by decide))) rfl hl.1 rfl (Nat.le_of_ble_eq_true rfl) dX5_generate_88 ⟨Nat.zero_le _, Nat.zero_le _⟩ (fun H locs hV => ?_)
                  refine lv_aload_n hx hb dX5_generate_91 rfl (lv_at hl 0 rfl) ?_
                  refine mm_get (ci := 5) (C := RX5) (T := TX5) (N := 20) hx hb hts in_X5 hown hK hV i_ob m_ob rfl 1 (by decide) f_13 (fun _ h => h) rfl dX5_generate_92 ?_
                  refine lv_iload_n hx hb dX5_generate_95 rfl (lv_at hl 1 rfl) ?_
                  refine mm_ialdN (j := p0) hx hb hK hV (hA.i 1 rfl) (show M1 (ad 1) = .inl (dA 0, 6, .inl (S1 1)) from hA.m 1 rfl) hp (by omega) (by decide) dX5_generate_96 ?_
                  refine lv_icmp_ne (tgt := 106) hx hb dX5_generate_97 (by decide) (fun c97 => ?_) (fun c97 => ?_)
                  · have hsd : ¬ sideR (Sq 0 (18 * p0 + j)) = Sq 1 p0 := by rw [← hE 0 (by decide) (by decide) (by decide) (by decide), ← hE 1 (by decide) (by decide) (by decide) (by decide)]; exact c97
                    rw [if_neg c74, genS, if_neg hsd] at hres
                    obtain ⟨x3_n, ex3_n⟩ : ∃ y : Int32, y = x3 + 1 := ⟨_, rfl⟩
                    refine lv_iinc (v := x3_n) (lv' := [(3, .int x3_n), (0, .ref ob), (1, .int x1), (2, .int xn)]) hx hb dX5_generate_106 hl (k := 3) rfl (by rw [ex3_n]; rfl) (by decide) rfl (fun ls hl => ?_)
                    refine lv_goto (tgt := 67) hx hb dX5_generate_109 (by decide) ?_
                    exact ih (j + 1) x3_n Sq S1 M1 _ _ ls (by omega) (by rw [ex3_n, hx3]; exact nI_1 j) hE h7q (by rw [if_neg c74]; exact hres) hV hA m_ob fR (lv_sub hl [1, 2, 3, 0] rfl)
                  · have hsd : sideR (Sq 0 (18 * p0 + j)) = Sq 1 p0 := by rw [← hE 0 (by decide) (by decide) (by decide) (by decide), ← hE 1 (by decide) (by decide) (by decide) (by decide)]; exact c97
                    rw [if_neg c74, genS, if_pos hsd] at hres
                    obtain ⟨Sn, hSn, hres⟩ := Option.bind_eq_some_iff.mp hres
                    obtain ⟨n9, hn1, hn2, hSn⟩ := stpO_some hSn
                    have hc9 : S1 3 p0 = nI n9 := by rw [hE 3 (by decide) (by decide) (by decide) (by decide)]; exact hn1
                    refine lv_aload_n hx hb dX5_generate_100 rfl (lv_at hl 0 rfl) ?_
                    refine lv_iload_n hx hb dX5_generate_101 rfl (lv_at hl 1 rfl) ?_
                    refine lv_iload_n hx hb dX5_generate_102 rfl (lv_at hl 3 rfl) ?_
                    refine mm_Vm (ci := 5) (As := [.int x1, .int x3]) (rest := []) ⟨hx, hb, hml, hown, hts⟩ hK hV (c_stepsR l D dA (p0 := p0) (f0 := j) (n := n9) x1 x3 i_ob m_ob hA h71 hp hp6 hx3 hj18 hc9 hn2) (cwV 2 hts gX5_generate_X5_steps rfl rfl rfl (by decide +kernel) (mm_levR hR (by omega) (by decide))) i_ob m_ob rfl rfl hl.1 rfl (Nat.le_of_ble_eq_true rfl) dX5_generate_103 ⟨Nat.zero_le _, Nat.zero_le _⟩ (fun M_2 H locs hp hV => ?_)
                    obtain ⟨hA, m_ob, fR9⟩ := hp
                    have fR : rF L ad ob M M_2 := fR.tr fR9
                    obtain ⟨S_3, eS_3⟩ : ∃ z, z = stpR p0 j S1 := ⟨_, rfl⟩
                    rw [← eS_3] at hA
                    obtain ⟨x3_n, ex3_n⟩ : ∃ y : Int32, y = x3 + 1 := ⟨_, rfl⟩
                    refine lv_iinc (v := x3_n) (lv' := [(3, .int x3_n), (0, .ref ob), (1, .int x1), (2, .int xn)]) hx hb dX5_generate_106 hl (k := 3) rfl (by rw [ex3_n]; rfl) (by decide) rfl (fun ls hl => ?_)
                    refine lv_goto (tgt := 67) hx hb dX5_generate_109 (by decide) ?_
                    exact ih (j + 1) x3_n Sn S_3 M_2 _ _ ls (by omega) (by rw [ex3_n, hx3]; exact nI_1 j) (by rw [eS_3, hSn]; exact eq_stpR hE) (by rw [hSn, stpR_ne (by decide) (by decide)]; exact h7q) (by rw [if_neg c74]; exact hres) hV hA m_ob fR (lv_sub hl [1, 2, 3, 0] rfl)
          exact LQ 18 0 x3 R1 S1 M1 H locs ls rfl (by rw [ex3]; rfl) hE1 h7r (by rw [exn, ev64, hE1 3 (by decide) (by decide) (by decide) (by decide)]; by_cases h0 : R1 3 p0 = 0; rw [if_pos h0, if_neg (by decide)]; rw [if_pos h0] at hR2; exact hR2; rw [if_neg h0, if_pos rfl]; rw [if_neg h0] at hR2; exact hR2) hV hA m_ob fR (lv_sub hl [2, 3, 1, 0] rfl)
        refine lv_if_ne (tgt := 63) hx hb dX5_generate_56 (by decide) (fun c56 => ?_) (fun c56 => ?_)
        · refine lv_iconst (v := 0) hx hb dX5_generate_63 (by decide) ?_
          exact J64 _ (by rw [if_neg c56])
        · refine lv_iconst (v := 1) hx hb dX5_generate_59 (by decide) ?_
          refine lv_goto (tgt := 64) hx hb dX5_generate_60 (by decide) ?_
          exact J64 _ (by rw [if_pos c56])
      · exact absurd (by rw [hx2]; exact nI_le (a := 18) (by omega) (by omega)) c12
    | succ k ih =>
      intro i x2 Sp S1 M1 H locs ls hik hx2 hE h7p h8p hres hV hA m_ob fR hl
      refine lv_iload_n hx hb dX5_generate_9 rfl (lv_at hl 2 rfl) ?_
      refine lv_bipush (v := 18) hx hb dX5_generate_10 (by decide) ?_
      refine lv_icmp_ge (tgt := 50) hx hb dX5_generate_12 (by decide) (fun c12 => ?_) (fun c12 => ?_)
      · exact absurd c12 (by rw [hx2]; exact nI_ge (b := 18) (by omega) (by decide))
      · have hi18 : i < 18 := by omega
        have h71 : S1 7 = nearR := (hE 7 (by decide) (by decide) (by decide) (by decide)).trans h7p
        have h81 : S1 8 = farR := (hE 8 (by decide) (by decide) (by decide) (by decide)).trans h8p
        refine lv_aload_n hx hb dX5_generate_15 rfl (lv_at hl 0 rfl) ?_
        refine mm_get (ci := 5) (C := RX5) (T := TX5) (N := 20) hx hb hts in_X5 hown hK hV i_ob m_ob rfl 0 (by decide) f_7 (fun _ h => h) rfl dX5_generate_16 ?_
        refine lv_bipush (v := 18) hx hb dX5_generate_19 (by decide) ?_
        refine lv_iload_n hx hb dX5_generate_21 rfl (lv_at hl 1 rfl) ?_
        refine lv_imul hx hb dX5_generate_22 ?_
        refine lv_iload_n hx hb dX5_generate_23 rfl (lv_at hl 2 rfl) ?_
        refine lv_iadd hx hb dX5_generate_24 ?_
        refine mm_ialdN (j := (18 * p0 + i)) hx hb hK hV (hA.i 0 rfl) (show M1 (ad 0) = .inl (dA 0, 108, .inl (S1 0)) from hA.m 0 rfl) (ixR (c := 18) rfl hp hx2) (by omega) (by decide) dX5_generate_25 ?_
        refine mm_Sp (v := (sideR ((S1 0) (18 * p0 + i)))) (As := [.int ((S1 0) (18 * p0 + i))]) (rest := []) ⟨hx, hb, hml, hown, hts⟩ hK hV (c_sideR l D dA ((S1 0) (18 * p0 + i))) (va_cwS 1 hts gX5_generate_X5_sideOf rfl rfl rfl (by decide +kernel) (mm_levR hR (by omega) (by decide))) rfl hl.1 rfl (Nat.le_of_ble_eq_true rfl) dX5_generate_26 ⟨Nat.zero_le _, Nat.zero_le _⟩ (fun H locs hV => ?_)
        refine lv_aload_n hx hb dX5_generate_29 rfl (lv_at hl 0 rfl) ?_
        refine mm_get (ci := 5) (C := RX5) (T := TX5) (N := 20) hx hb hts in_X5 hown hK hV i_ob m_ob rfl 1 (by decide) f_13 (fun _ h => h) rfl dX5_generate_30 ?_
        refine lv_iload_n hx hb dX5_generate_33 rfl (lv_at hl 1 rfl) ?_
        refine mm_ialdN (j := p0) hx hb hK hV (hA.i 1 rfl) (show M1 (ad 1) = .inl (dA 0, 6, .inl (S1 1)) from hA.m 1 rfl) hp (by omega) (by decide) dX5_generate_34 ?_
        refine lv_icmp_ne (tgt := 44) hx hb dX5_generate_35 (by decide) (fun c35 => ?_) (fun c35 => ?_)
        · have hsd : ¬ sideR (Sp 0 (18 * p0 + i)) = Sp 1 p0 := by rw [← hE 0 (by decide) (by decide) (by decide) (by decide), ← hE 1 (by decide) (by decide) (by decide) (by decide)]; exact c35
          rw [genJ, if_neg hsd] at hres
          obtain ⟨x2_n, ex2_n⟩ : ∃ y : Int32, y = x2 + 1 := ⟨_, rfl⟩
          refine lv_iinc (v := x2_n) (lv' := [(2, .int x2_n), (0, .ref ob), (1, .int x1)]) hx hb dX5_generate_44 hl (k := 2) rfl (by rw [ex2_n]; rfl) (by decide) rfl (fun ls hl => ?_)
          refine lv_goto (tgt := 9) hx hb dX5_generate_47 (by decide) ?_
          exact ih (i + 1) x2_n Sp S1 M1 _ _ ls (by omega) (by rw [ex2_n, hx2]; exact nI_1 i) hE h7p h8p hres hV hA m_ob fR (lv_sub hl [1, 2, 0] rfl)
        · have hsd : sideR (Sp 0 (18 * p0 + i)) = Sp 1 p0 := by rw [← hE 0 (by decide) (by decide) (by decide) (by decide), ← hE 1 (by decide) (by decide) (by decide) (by decide)]; exact c35
          rw [genJ, if_pos hsd] at hres
          obtain ⟨Sn, hSn, hres⟩ := Option.bind_eq_some_iff.mp hres
          obtain ⟨Q9, hQ1, hQ2⟩ := eq_jmpR hE Sn hSn
          refine lv_aload_n hx hb dX5_generate_38 rfl (lv_at hl 0 rfl) ?_
          refine lv_iload_n hx hb dX5_generate_39 rfl (lv_at hl 1 rfl) ?_
          refine lv_iload_n hx hb dX5_generate_40 rfl (lv_at hl 2 rfl) ?_
          refine mm_Vm (ci := 5) (As := [.int x1, .int x2]) (rest := []) ⟨hx, hb, hml, hown, hts⟩ hK hV (c_jumpsR l D dA (p0 := p0) (f0 := i) (RS := Q9) x1 x2 i_ob m_ob hA h71 h81 hp hp6 hx2 hi18 hQ1) (cwV 2 hts gX5_generate_X5_jumps rfl rfl rfl (by decide +kernel) (mm_levR hR (by omega) (by decide))) i_ob m_ob rfl rfl hl.1 rfl (Nat.le_of_ble_eq_true rfl) dX5_generate_41 ⟨Nat.zero_le _, Nat.zero_le _⟩ (fun M_4 H locs hp9 hV => ?_)
          obtain ⟨S2, hE2, hA, m_ob, fR9⟩ := hp9
          have fR : rF L ad ob M M_4 := fR.tr fR9
          obtain ⟨x2_n, ex2_n⟩ : ∃ y : Int32, y = x2 + 1 := ⟨_, rfl⟩
          refine lv_iinc (v := x2_n) (lv' := [(2, .int x2_n), (0, .ref ob), (1, .int x1)]) hx hb dX5_generate_44 hl (k := 2) rfl (by rw [ex2_n]; rfl) (by decide) rfl (fun ls hl => ?_)
          refine lv_goto (tgt := 9) hx hb dX5_generate_47 (by decide) ?_
          exact ih (i + 1) x2_n Sn S2 M_4 _ _ ls (by omega) (by rw [ex2_n, hx2]; exact nI_1 i) (hE2.tr hQ2) ((dfN_ne hSn 7 (by decide) (by decide)).trans h7p) ((dfN_ne hSn 8 (by decide) (by decide)).trans h8p) hres hV hA m_ob fR (lv_sub hl [1, 2, 0] rfl)
  exact LP 18 0 x2 Sz Sz M_1 H locs ls rfl (by rw [ex2]; rfl) (fun _ _ _ _ _ => rfl) (by rw [eSz, va_up_ne _ _ (by decide)]; exact h7) (by rw [eSz, va_up_ne _ _ (by decide)]; exact h8) hR1 hV hA m_ob fR (lv_sub hl [1, 2, 0] rfl)
