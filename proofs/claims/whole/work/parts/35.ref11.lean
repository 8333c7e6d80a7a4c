def devE (e : Nat) : Nat → Int32 := devR (nI e / 1296) (if nI e / 648 - nI e / 648 / 2 * 2 = 1 then 1 else 0) (e / 36 % 18) (if nI e - nI e / 36 * 36 < 18 then 0 else 1) (nI e - nI e / 18 * 18)
set_option maxRecDepth 100000 in
theorem code_e : ∀ e, e < 2592 → codeR (nI e / 1296) (if nI e / 648 - nI e / 648 / 2 * 2 = 1 then 1 else 0) (nI e / 36 - nI e / 36 / 18 * 18) (if nI e - nI e / 36 * 36 < 18 then 0 else 1) (nI e - nI e / 18 * 18) = nI e := by
  intro e he
  have h1 : nI e / 1296 = nI (e / 1296) := pk_div (d := 1296) (by omega) (by decide) (by decide)
  have h2 : nI e / 648 = nI (e / 648) := pk_div (d := 648) (by omega) (by decide) (by decide)
  have h3 : nI (e / 648) - nI (e / 648) / 2 * 2 = nI (e / 648 % 2) := pk_rem (d := 2) (by omega) (by decide) (by decide)
  have h4 : nI e / 36 = nI (e / 36) := pk_div (d := 36) (by omega) (by decide) (by decide)
  have h5 : nI (e / 36) - nI (e / 36) / 18 * 18 = nI (e / 36 % 18) := pk_rem (d := 18) (by omega) (by decide) (by decide)
  have h6 : nI e - nI e / 36 * 36 = nI (e % 36) := pk_rem (d := 36) (by omega) (by decide) (by decide)
  have h7 : nI e - nI e / 18 * 18 = nI (e % 18) := pk_rem (d := 18) (by omega) (by decide) (by decide)
  rw [h6, h7, h1, h2, h3, h4, h5]
  have k1 : (if (if nI (e / 648 % 2) = 1 then (1 : Int32) else 0) = 0 then (0 : Int32) else 1) = nI (e / 648 % 2) := by
    rcases (show e / 648 % 2 = 0 ∨ e / 648 % 2 = 1 by omega) with h | h <;> rw [h] <;> decide
  have k2 : (if (if nI (e % 36) < 18 then (0 : Int32) else 1) = 0 then (0 : Int32) else 18) = nI (e % 36 / 18 * 18) := by
    by_cases h : e % 36 < 18
    · rw [if_pos (show nI (e % 36) < 18 from nI_lt (b := 18) h (by decide)), if_pos rfl, show e % 36 / 18 * 18 = 0 by omega]; rfl
    · rw [if_neg (show ¬ nI (e % 36) < 18 from nI_nlt (b := 18) (by omega) (by omega)), if_neg (by decide), show e % 36 / 18 * 18 = 18 by omega]; rfl
  unfold codeR
  rw [k1, k2]
  rw [show (2 : Int32) * nI (e / 1296) = nI (2 * (e / 1296)) from pk_mul 2 _, nI_add, show ∀ x, nI x * 18 = nI (x * 18) from fun x => pk_mul x 18, nI_add, show ∀ x, nI x * 36 = nI (x * 36) from fun x => pk_mul x 36, nI_add, nI_add]
  congr 1
  omega
theorem a_e {e : Nat} (he : e < 2592) : nI e / 36 - nI e / 36 / 18 * 18 = nI (e / 36 % 18) := by
  rw [show nI e / 36 = nI (e / 36) from pk_div (d := 36) (by omega) (by decide) (by decide)]
  exact pk_rem (d := 18) (by omega) (by decide) (by decide)
def FTi (i : Nat) : Nat → Int32 := fun q => if q < 4 * i then devE (q / 4) (q % 4) else 0
def K0i (i : Nat) : Nat → Int32 := fun q => if q < i then (if devE q 0 = -1 then -1 else 0) else 0
theorem FTi_s (i : Nat) : filG (4 * i) (devE i) (FTi i) 4 = FTi (i + 1) := by
  funext q
  unfold filG FTi
  by_cases h : 4 * i ≤ q ∧ q < 4 * i + 4
  · rw [if_pos h, if_pos (by omega), show q / 4 = i by omega, show q % 4 = q - 4 * i by omega]
  · rw [if_neg h]
    by_cases h2 : q < 4 * i
    · rw [if_pos h2, if_pos (by omega)]
    · rw [if_neg h2, if_neg (by omega)]
theorem FTi_at (i : Nat) : FTi (i + 1) (4 * i) = devE i 0 := by unfold FTi; rw [if_pos (by omega), show 4 * i / 4 = i by omega, show 4 * i % 4 = 0 by omega]
theorem K0i_s (i : Nat) : upd (K0i i) i (if devE i 0 = -1 then -1 else 0) = K0i (i + 1) := by
  funext q
  by_cases hq : q = i
  · subst hq; rw [pk_us]; unfold K0i; rw [if_pos (show q < q + 1 by omega)]
  · rw [pk_un hq]; unfold K0i
    by_cases h : q < i
    · rw [if_pos h, if_pos (show q < i + 1 by omega)]
    · rw [if_neg h, if_neg (show ¬ q < i + 1 by omega)]
def psR (F : Nat → Int32) (n : Int32) : Nat → Nat → (Nat → Int32) → Int32 → (Nat → Int32) × Int32
  | 0, _, K, mo => (K, mo)
  | k + 1, e, K, mo => if K e = 0 then psR F n k (e + 1) (upd K e (jdR F K e n)) (if mo = 0 then (if jdR F K e n = 0 then 0 else 1) else 1) else psR F n k (e + 1) K mo
def slvR (F : Nat → Int32) : Nat → Int32 → (Nat → Int32) → Option (Nat → Int32)
  | 0, _, _ => none
  | f + 1, n, K => if (psR F n 2592 0 K 0).2 = 0 then some (psR F n 2592 0 K 0).1 else slvR F f (n + 1) (psR F n 2592 0 K 0).1
def kOK (KT : Nat → Int32) (so : Int32) (S : Nat → Nat → Int32) : Prop := (so = 0 ∧ S 18 = (fun _ => 0) ∧ S 19 = fun _ => 0) ∨ (so = 1 ∧ S 19 = KT)

set_option maxHeartbeats 1000000 in
set_option maxRecDepth 100000 in
theorem c_solveR (l : Launch) (D : va_G) (dA : Nat → ClassId) {L : List Nat} {M : mm_M} {ob : Nat} {ad : Nat → Nat} {S : Nat → Nat → Int32} {pl qu so : Int32} {KT : Nat → Int32} {fu : Nat} (i_ob : ob ∈ L) (m_ob : M ob = rO ad pl qu so) (hA : rA dA L M ad S) (h7 : S 7 = nearR) (h8 : S 8 = farR) (hko : kOK KT so S) (hFT : rgR (FTi 2592)) (hslv : slvR (FTi 2592) fu 1 (K0i 2592) = some KT) : mm_Cm l D dA yX5_solve wsX5_solve 2 [.ref ob] L M (fun M1 => ∃ S1, (∀ q, q ≠ 18 → q ≠ 19 → S1 q = S q) ∧ S1 19 = KT ∧ rA dA L M1 ad S1 ∧ M1 ob = rO ad pl qu 1 ∧ rF L ad ob M M1) := by
  have hA0 := hA
  have m_ob0 := m_ob
  have fR : rF L ad ob M M := rF.rf
  refine mm_enter_v (cc := cX5_solve) (maxL := 5) (by decide) rfl (Nat.le_of_ble_eq_true rfl) ?_
  intro p e R s m args below meth c A ls H locs Q hR hx hb hml hin hown hts hK hV hl hret
  have hl : lv_has ls 5 [(0, .ref ob)] := hl
  have hown : s.vm.findClass RX5 = some m.cls := hown
  have f_113 := hts (.fieldLink RX5 113 "JumpBoardModel" "solved" "Z") (by decide +kernel)
  have in_X5 : ∀ w ∈ wsX50, w ∈ wsX5_solve := by decide +kernel
  have f_59 := hts (.fieldLink RX5 59 "JumpBoardModel" "known" "[I") (by decide +kernel)
  have f_56 := hts (.fieldLink RX5 56 "JumpBoardModel" "follow" "[I") (by decide +kernel)
  refine lv_aload_n hx hb dX5_solve_0 rfl (lv_at hl 0 rfl) ?_
  refine mm_get (ci := 5) (C := RX5) (T := TX5) (N := 20) hx hb hts in_X5 hown hK hV i_ob m_ob rfl 17 (by decide) f_113 (fun _ h => h) rfl dX5_solve_1 ?_
  refine lv_if_eq (tgt := 8) hx hb dX5_solve_4 (by decide) (fun c4 => ?_) (fun c4 => ?_)
  · have hs0 : S 18 = (fun _ => 0) ∧ S 19 = (fun _ => 0) := (hko.resolve_right (fun h => absurd (h.1.symm.trans c4) (by decide))).2
    refine lv_aload_n hx hb dX5_solve_8 rfl (lv_at hl 0 rfl) ?_
    refine lv_iconst (v := 1) hx hb dX5_solve_9 (by decide) ?_
    refine mm_put (ci := 5) (v := .int 1) (fs' := [.ref (ad 0), .ref (ad 1), .ref (ad 2), .ref (ad 3), .ref (ad 4), .ref (ad 5), .ref (ad 6), .ref (ad 7), .ref (ad 8), .ref (ad 9), .ref (ad 10), .ref (ad 11), .ref (ad 12), .int pl, .int qu, .ref (ad 15), .ref (ad 16), .int 1, .ref (ad 18), .ref (ad 19)]) (ty := .boolean) (C := RX5) (T := TX5) (N := 20) hx hb hts in_X5 tyX5 tyX5_ok nmX5 hown hK hV i_ob m_ob rfl 17 (by decide) f_113 (fun _ h => h) rfl (by decide +kernel) rfl rfl (Nat.le_of_ble_eq_true rfl) rfl dX5_solve_10 (fun M_1 H locs eM_1 hV => ?_)
    have hA : rA dA L M_1 ad S := hA.ob m_ob eM_1
    have fR : rF L ad ob M M_1 := fR.ob eM_1
    have m_ob : M_1 ob = rO ad pl qu 1 := by rw [eM_1]; exact va_up_self _ _ _
    refine lv_iconst (v := 0) hx hb dX5_solve_13 (by decide) ?_
    refine lv_topi (fun x1 ex1 => ?_)
    refine lv_istore_n (lv' := [(1, .int x1), (0, .ref ob)]) hx hb dX5_solve_14 rfl hl (by decide) rfl (fun ls hl => ?_)
    have LP : ∀ (k : Nat) (i : Nat) (x1 : Int32) (S1 : Nat → Nat → Int32) (M1 : mm_M) (H : Heap) (locs : List Loc) (ls : Array Slot), i + k = 2592 → x1 = nI i → S1 = va_up (va_up S 18 (FTi i)) 19 (K0i i) → mm_V A D L M1 s H locs → rA dA L M1 ad S1 → M1 ob = rO ad pl qu 1 → rF L ad ob M M1 → lv_has ls 5 [(0, .ref ob), (1, .int x1)] → W p l e R s m args below meth c H locs 0 0 Q (F0 m 15 ls []) := by
      intro k
      induction k with
      | zero =>
        intro i x1 S1 M1 H locs ls hik hx1 hS1 hV hA m_ob fR hl
        refine lv_iload_n hx hb dX5_solve_15 rfl (lv_at hl 1 rfl) ?_
        refine lv_sipush (v := 2592) hx hb dX5_solve_16 (by decide) ?_
        refine lv_icmp_ge (tgt := 109) hx hb dX5_solve_19 (by decide) (fun c19 => ?_) (fun c19 => ?_)
        · have hi9 : i = 2592 := by omega
          subst hi9
          refine lv_iconst (v := 1) hx hb dX5_solve_109 (by decide) ?_
          refine lv_topi (fun mo emo => ?_)
          refine lv_istore_n (lv' := [(1, .int mo), (0, .ref ob)]) hx hb dX5_solve_110 rfl hl (by decide) rfl (fun ls hl => ?_)
          refine lv_iconst (v := 1) hx hb dX5_solve_111 (by decide) ?_
          refine lv_topi (fun x2 ex2 => ?_)
          refine lv_istore_n (lv' := [(2, .int x2), (1, .int mo), (0, .ref ob)]) hx hb dX5_solve_112 rfl hl (by decide) rfl (fun ls hl => ?_)
          have LQ : ∀ (k : Nat) (mo x2 : Int32) (Kc : Nat → Int32) (S1 : Nat → Nat → Int32) (M1 : mm_M) (H : Heap) (locs : List Loc) (ls : Array Slot), ¬ mo = 0 → S1 = va_up (va_up S 18 (FTi 2592)) 19 Kc → slvR (FTi 2592) k x2 Kc = some KT → mm_V A D L M1 s H locs → rA dA L M1 ad S1 → M1 ob = rO ad pl qu 1 → rF L ad ob M M1 → lv_has ls 5 [(0, .ref ob), (1, .int mo), (2, .int x2)] → W p l e R s m args below meth c H locs 0 0 Q (F0 m 113 ls []) := by
            intro k
            induction k with
            | zero =>
              intro mo x2 Kc S1 M1 H locs ls hmo hS1 hres0 hV hA m_ob fR hl
              refine lv_iload_n hx hb dX5_solve_113 rfl (lv_at hl 1 rfl) ?_
              refine lv_if_eq (tgt := 180) hx hb dX5_solve_114 (by decide) (fun c114 => ?_) (fun c114 => ?_)
              · exact absurd c114 hmo
              · exact absurd hres0 (by rw [slvR]; intro h; cases h)
            | succ k ih =>
              intro mo x2 Kc S1 M1 H locs ls hmo hS1 hres0 hV hA m_ob fR hl
              refine lv_iload_n hx hb dX5_solve_113 rfl (lv_at hl 1 rfl) ?_
              refine lv_if_eq (tgt := 180) hx hb dX5_solve_114 (by decide) (fun c114 => ?_) (fun c114 => ?_)
              · exact absurd c114 hmo
              · refine lv_iconst (v := 0) hx hb dX5_solve_117 (by decide) ?_
                refine lv_topi (fun mo emo => ?_)
                refine lv_istore_n (lv' := [(1, .int mo), (0, .ref ob), (2, .int x2)]) hx hb dX5_solve_118 rfl hl (by decide) rfl (fun ls hl => ?_)
                refine lv_iconst (v := 0) hx hb dX5_solve_119 (by decide) ?_
                refine lv_topi (fun x3 ex3 => ?_)
                refine lv_istore_n (lv' := [(3, .int x3), (1, .int mo), (0, .ref ob), (2, .int x2)]) hx hb dX5_solve_120 rfl hl (by decide) rfl (fun ls hl => ?_)
                have LR : ∀ (k : Nat) (ee : Nat) (mo x3 : Int32) (K1 : Nat → Int32) (S1 : Nat → Nat → Int32) (M1 : mm_M) (H : Heap) (locs : List Loc) (ls : Array Slot), ee + k = 2592 → x3 = nI ee → S1 = va_up (va_up S 18 (FTi 2592)) 19 K1 → psR (FTi 2592) x2 k ee K1 mo = psR (FTi 2592) x2 2592 0 Kc 0 → mm_V A D L M1 s H locs → rA dA L M1 ad S1 → M1 ob = rO ad pl qu 1 → rF L ad ob M M1 → lv_has ls 5 [(0, .ref ob), (1, .int mo), (2, .int x2), (3, .int x3)] → W p l e R s m args below meth c H locs 0 0 Q (F0 m 121 ls []) := by
                  intro k
                  induction k with
                  | zero =>
                    intro ee mo x3 K1 S1 M1 H locs ls hek hx3 hS1 hps hV hA m_ob fR hl
                    refine lv_iload_n hx hb dX5_solve_121 rfl (lv_at hl 3 rfl) ?_
                    refine lv_sipush (v := 2592) hx hb dX5_solve_122 (by decide) ?_
                    refine lv_icmp_ge (tgt := 174) hx hb dX5_solve_125 (by decide) (fun c125 => ?_) (fun c125 => ?_)
                    · have hRP : (K1, mo) = psR (FTi 2592) x2 2592 0 Kc 0 := hps
                      obtain ⟨x2_n, ex2_n⟩ : ∃ y : Int32, y = x2 + 1 := ⟨_, rfl⟩
                      refine lv_iinc (v := x2_n) (lv' := [(2, .int x2_n), (0, .ref ob), (1, .int mo), (3, .int x3)]) hx hb dX5_solve_174 hl (k := 2) rfl (by rw [ex2_n]; rfl) (by decide) rfl (fun ls hl => ?_)
                      refine lv_goto (tgt := 113) hx hb dX5_solve_177 (by decide) ?_
                      by_cases hm9 : mo = 0
                      · have hKT : K1 = KT := by
                          rw [slvR, if_pos (by rw [← hRP]; exact hm9)] at hres0
                          rw [← Option.some.inj hres0, ← hRP]
                        refine lv_iload_n hx hb dX5_solve_113 rfl (lv_at hl 2 rfl) ?_
                        refine lv_if_eq (tgt := 180) hx hb dX5_solve_114 (by decide) (fun c114 => ?_) (fun c114 => ?_)
                        · exact hret dX5_solve_180 hV (by decide) (by decide) ⟨rfl, S1, fun q a b => by rw [hS1, va_up_ne _ _ b, va_up_ne _ _ a], by rw [hS1, va_up_self]; exact hKT, hA, m_ob, fR⟩
                        · exact absurd hm9 c114
                      · exact ih mo x2_n K1 S1 M1 H locs ls hm9 hS1 (by rw [slvR, if_neg (by rw [← hRP]; exact hm9), ← hRP, ← ex2_n] at hres0; exact hres0) hV hA m_ob fR (lv_sub hl [1, 2, 0] rfl)
                    · exact absurd (by rw [hx3]; exact nI_le (a := 2592) (by omega) (by omega)) c125
                  | succ k ih =>
                    intro ee mo x3 K1 S1 M1 H locs ls hek hx3 hS1 hps hV hA m_ob fR hl
                    refine lv_iload_n hx hb dX5_solve_121 rfl (lv_at hl 3 rfl) ?_
                    refine lv_sipush (v := 2592) hx hb dX5_solve_122 (by decide) ?_
                    refine lv_icmp_ge (tgt := 174) hx hb dX5_solve_125 (by decide) (fun c125 => ?_) (fun c125 => ?_)
                    · exact absurd c125 (by rw [hx3]; exact nI_ge (b := 2592) (by omega) (by decide))
                    · have hF1 : rgR (S1 18) := by rw [hS1, va_up_ne _ _ (by decide), va_up_self]; exact hFT
                      have hS18 : S1 18 = FTi 2592 := by rw [hS1, va_up_ne _ _ (by decide), va_up_self]
                      have hS19 : S1 19 = K1 := by rw [hS1, va_up_self]
                      refine lv_aload_n hx hb dX5_solve_128 rfl (lv_at hl 0 rfl) ?_
                      refine mm_get (ci := 5) (C := RX5) (T := TX5) (N := 20) hx hb hts in_X5 hown hK hV i_ob m_ob rfl 19 (by decide) f_59 (fun _ h => h) rfl dX5_solve_129 ?_
                      refine lv_iload_n hx hb dX5_solve_132 rfl (lv_at hl 3 rfl) ?_
                      refine mm_ialdN (j := ee) hx hb hK hV (hA.i 19 rfl) (show M1 (ad 19) = .inl (dA 0, 2592, .inl (S1 19)) from hA.m 19 rfl) hx3 (by omega) (by decide) dX5_solve_133 ?_
                      refine lv_if_ne (tgt := 168) hx hb dX5_solve_134 (by decide) (fun c134 => ?_) (fun c134 => ?_)
                      · have hk0 : ¬ K1 ee = 0 := by rw [← hS19]; exact c134
                        obtain ⟨x3_n, ex3_n⟩ : ∃ y : Int32, y = x3 + 1 := ⟨_, rfl⟩
                        refine lv_iinc (v := x3_n) (lv' := [(3, .int x3_n), (0, .ref ob), (1, .int mo), (2, .int x2)]) hx hb dX5_solve_168 hl (k := 3) rfl (by rw [ex3_n]; rfl) (by decide) rfl (fun ls hl => ?_)
                        refine lv_goto (tgt := 121) hx hb dX5_solve_171 (by decide) ?_
                        exact ih (ee + 1) mo x3_n K1 S1 M1 _ _ ls (by omega) (by rw [ex3_n, hx3]; exact nI_1 ee) hS1 (by rw [← hps]; conv => rhs; rw [psR, if_neg hk0]) hV hA m_ob fR (lv_sub hl [1, 2, 3, 0] rfl)
                      · have hk0 : K1 ee = 0 := by rw [← hS19]; exact c134
                        refine lv_aload_n hx hb dX5_solve_137 rfl (lv_at hl 0 rfl) ?_
                        refine lv_iload_n hx hb dX5_solve_138 rfl (lv_at hl 3 rfl) ?_
                        refine lv_iload_n hx hb dX5_solve_139 rfl (lv_at hl 2 rfl) ?_
                        refine mm_Vp (v := (jdR (S1 18) (S1 19) ee x2)) (ci := 5) (As := [.int x3, .int x2]) (rest := []) ⟨hx, hb, hml, hown, hts⟩ hK hV (c_jdR l D dA (e0 := ee) x3 x2 i_ob m_ob hA hF1 hx3 (by omega)) (cwV 2 hts gX5_solve_X5_judge rfl rfl rfl (by decide +kernel) (mm_levR hR (by omega) (by decide))) i_ob m_ob rfl rfl hl.1 rfl (Nat.le_of_ble_eq_true rfl) dX5_solve_140 ⟨Nat.zero_le _, Nat.zero_le _⟩ (fun H locs hV => ?_)
                        refine lv_topi (fun x4 ex4 => ?_)
                        refine lv_istore (lv' := [(4, .int x4), (0, .ref ob), (1, .int mo), (2, .int x2), (3, .int x3)]) hx hb dX5_solve_143 hl (by decide) rfl (fun ls hl => ?_)
                        refine lv_aload_n hx hb dX5_solve_145 rfl (lv_at hl 1 rfl) ?_
                        refine mm_get (ci := 5) (C := RX5) (T := TX5) (N := 20) hx hb hts in_X5 hown hK hV i_ob m_ob rfl 19 (by decide) f_59 (fun _ h => h) rfl dX5_solve_146 ?_
                        refine lv_iload_n hx hb dX5_solve_149 rfl (lv_at hl 4 rfl) ?_
                        refine lv_iload hx hb dX5_solve_150 (lv_at hl 0 rfl) ?_
                        refine mm_iastN (j := ee) (x := x4) hx hb hK hV (hA.i 19 rfl) (show M1 (ad 19) = .inl (dA 0, 2592, .inl (S1 19)) from hA.m 19 rfl) hx3 (by omega) (by decide) dX5_solve_152 (fun M_2 H locs eM_2 hV => ?_)
                        obtain ⟨Sa, eSa⟩ : ∃ z, z = va_up S1 19 (upd (S1 19) ee x4) := ⟨_, rfl⟩
                        have hA : rA dA L M_2 ad Sa := by rw [eSa]; exact hA.up 19 rfl eM_2
                        have m_ob : M_2 ob = rO ad pl qu 1 := (congrFun eM_2 ob).trans ((va_up_ne _ _ (fun h => hA0.nob 19 rfl m_ob0 h)).trans m_ob)
                        have fR : rF L ad ob M M_2 := fR.up 19 rfl eM_2
                        refine lv_iload_n hx hb dX5_solve_153 rfl (lv_at hl 2 rfl) ?_
                        have J167 : ∀ (v167 : Int32), v167 = (if mo = 0 then (if x4 = 0 then 0 else 1) else 1) → W p l e R s m args below meth c H locs 0 0 Q (F0 m 167 ls [.int v167]) := by
                          intro v167 ev167
                          refine lv_istore_n (lv' := [(1, .int v167), (4, .int x4), (0, .ref ob), (2, .int x2), (3, .int x3)]) hx hb dX5_solve_167 rfl hl (by decide) rfl (fun ls hl => ?_)
                          obtain ⟨x3_n, ex3_n⟩ : ∃ y : Int32, y = x3 + 1 := ⟨_, rfl⟩
                          refine lv_iinc (v := x3_n) (lv' := [(3, .int x3_n), (1, .int v167), (4, .int x4), (0, .ref ob), (2, .int x2)]) hx hb dX5_solve_168 hl (k := 4) rfl (by rw [ex3_n]; rfl) (by decide) rfl (fun ls hl => ?_)
                          refine lv_goto (tgt := 121) hx hb dX5_solve_171 (by decide) ?_
                          have hj9 : x4 = jdR (FTi 2592) K1 ee x2 := by rw [ex4, hS18, hS19]
                          exact ih (ee + 1) v167 x3_n (upd K1 ee x4) Sa M_2 _ _ ls (by omega) (by rw [ex3_n, hx3]; exact nI_1 ee) (by rw [eSa, hS1, va_up_self, bx_uu]) (by rw [← hps]; conv => rhs; rw [psR, if_pos hk0, ← hj9, ← ev167]) hV hA m_ob fR (lv_sub hl [3, 1, 4, 0] rfl)
                        refine lv_if_ne (tgt := 162) hx hb dX5_solve_154 (by decide) (fun c154 => ?_) (fun c154 => ?_)
                        · refine lv_iconst (v := 1) hx hb dX5_solve_162 (by decide) ?_
                          refine lv_goto (tgt := 167) hx hb dX5_solve_163 (by decide) ?_
                          exact J167 _ (by rw [if_neg c154])
                        · refine lv_iload hx hb dX5_solve_157 (lv_at hl 0 rfl) ?_
                          refine lv_if_eq (tgt := 166) hx hb dX5_solve_159 (by decide) (fun c159 => ?_) (fun c159 => ?_)
                          · refine lv_iconst (v := 0) hx hb dX5_solve_166 (by decide) ?_
                            exact J167 _ (by rw [if_pos c154, if_pos c159])
                          · refine lv_iconst (v := 1) hx hb dX5_solve_162 (by decide) ?_
                            refine lv_goto (tgt := 167) hx hb dX5_solve_163 (by decide) ?_
                            exact J167 _ (by rw [if_pos c154, if_neg c159])
                exact LR 2592 0 mo x3 Kc S1 M1 H locs ls rfl (by rw [ex3]; rfl) hS1 (by rw [emo]) hV hA m_ob fR (lv_sub hl [2, 1, 3, 0] rfl)
          exact LQ fu mo x2 (K0i 2592) S1 M1 H locs ls (by rw [emo]; decide) hS1 (by rw [ex2]; exact hslv) hV hA m_ob fR (lv_sub hl [2, 1, 0] rfl)
        · exact absurd (by rw [hx1]; exact nI_le (a := 2592) (by omega) (by omega)) c19
      | succ k ih =>
        intro i x1 S1 M1 H locs ls hik hx1 hS1 hV hA m_ob fR hl
        refine lv_iload_n hx hb dX5_solve_15 rfl (lv_at hl 1 rfl) ?_
        refine lv_sipush (v := 2592) hx hb dX5_solve_16 (by decide) ?_
        refine lv_icmp_ge (tgt := 109) hx hb dX5_solve_19 (by decide) (fun c19 => ?_) (fun c19 => ?_)
        · exact absurd c19 (by rw [hx1]; exact nI_ge (b := 2592) (by omega) (by decide))
        · have h71 : S1 7 = nearR := by rw [hS1, va_up_ne _ _ (by decide), va_up_ne _ _ (by decide)]; exact h7
          have h81 : S1 8 = farR := by rw [hS1, va_up_ne _ _ (by decide), va_up_ne _ _ (by decide)]; exact h8
          refine lv_iload_n hx hb dX5_solve_22 rfl (lv_at hl 1 rfl) ?_
          refine lv_bipush (v := 36) hx hb dX5_solve_23 (by decide) ?_
          refine lv_idiv hx hb dX5_solve_25 (by decide) ?_
          refine lv_bipush (v := 18) hx hb dX5_solve_26 (by decide) ?_
          refine lv_irem hx hb dX5_solve_28 (by decide) ?_
          refine lv_topi (fun x2 ex2 => ?_)
          refine lv_istore_n (lv' := [(2, .int x2), (0, .ref ob), (1, .int x1)]) hx hb dX5_solve_29 rfl hl (by decide) rfl (fun ls hl => ?_)
          refine lv_iload_n hx hb dX5_solve_30 rfl (lv_at hl 2 rfl) ?_
          refine lv_bipush (v := 18) hx hb dX5_solve_31 (by decide) ?_
          refine lv_irem hx hb dX5_solve_33 (by decide) ?_
          refine lv_topi (fun x3 ex3 => ?_)
          refine lv_istore_n (lv' := [(3, .int x3), (2, .int x2), (0, .ref ob), (1, .int x1)]) hx hb dX5_solve_34 rfl hl (by decide) rfl (fun ls hl => ?_)
          refine lv_iload_n hx hb dX5_solve_35 rfl (lv_at hl 3 rfl) ?_
          refine lv_sipush (v := 1296) hx hb dX5_solve_36 (by decide) ?_
          refine lv_idiv hx hb dX5_solve_39 (by decide) ?_
          refine lv_topi (fun x4 ex4 => ?_)
          refine lv_istore (lv' := [(4, .int x4), (3, .int x3), (2, .int x2), (0, .ref ob), (1, .int x1)]) hx hb dX5_solve_40 hl (by decide) rfl (fun ls hl => ?_)
          refine lv_aload_n hx hb dX5_solve_42 rfl (lv_at hl 3 rfl) ?_
          refine lv_iload hx hb dX5_solve_43 (lv_at hl 0 rfl) ?_
          refine lv_iload_n hx hb dX5_solve_45 rfl (lv_at hl 4 rfl) ?_
          refine lv_sipush (v := 648) hx hb dX5_solve_46 (by decide) ?_
          refine lv_idiv hx hb dX5_solve_49 (by decide) ?_
          refine lv_iconst (v := 2) hx hb dX5_solve_50 (by decide) ?_
          refine lv_irem hx hb dX5_solve_51 (by decide) ?_
          refine lv_iconst (v := 1) hx hb dX5_solve_52 (by decide) ?_
          have J61 : ∀ (v61 : Int32), v61 = (if ((x1 / 648) - (x1 / 648) / 2 * 2) = 1 then 1 else 0) → W p l e R s m args below meth c H locs 0 0 Q (F0 m 61 ls [.int v61, .int x4, .ref ob]) := by
            intro v61 ev61
            refine lv_iload_n hx hb dX5_solve_61 rfl (lv_at hl 2 rfl) ?_
            refine lv_iload_n hx hb dX5_solve_62 rfl (lv_at hl 4 rfl) ?_
            refine lv_bipush (v := 36) hx hb dX5_solve_63 (by decide) ?_
            refine lv_irem hx hb dX5_solve_65 (by decide) ?_
            refine lv_bipush (v := 18) hx hb dX5_solve_66 (by decide) ?_
            have J76 : ∀ (v76 : Int32), v76 = (if (x1 - x1 / 36 * 36) < 18 then 0 else 1) → W p l e R s m args below meth c H locs 0 0 Q (F0 m 76 ls [.int v76, .int x2, .int v61, .int x4, .ref ob]) := by
              intro v76 ev76
              refine lv_iload_n hx hb dX5_solve_76 rfl (lv_at hl 1 rfl) ?_
              have hcd9 : codeR x4 v61 x2 v76 x3 = nI i := by rw [ex4, ev61, ex2, ev76, ex3, hx1]; exact code_e i (by omega)
              have ha9 : x2 = nI (i / 36 % 18) := by rw [ex2, hx1]; exact a_e (by omega)
              refine mm_Vm (ci := 5) (As := [.int x4, .int v61, .int x2, .int v76, .int x3]) (rest := []) ⟨hx, hb, hml, hown, hts⟩ hK hV (c_devR l D dA (e0 := i) (a0 := i / 36 % 18) x4 v61 x2 v76 x3 i_ob m_ob hA h71 h81 hcd9 (by omega) ha9 (by omega)) (cwV 5 hts gX5_solve_X5_develop rfl rfl rfl (by decide +kernel) (mm_levR hR (by omega) (by decide))) i_ob m_ob rfl rfl hl.1 rfl (Nat.le_of_ble_eq_true rfl) dX5_solve_77 ⟨Nat.zero_le _, Nat.zero_le _⟩ (fun M_3 H locs hp hV => ?_)
              obtain ⟨hA, m_ob, fR9⟩ := hp
              have fR : rF L ad ob M M_3 := fR.tr fR9
              obtain ⟨Sa, eSa⟩ : ∃ z, z = va_up S1 18 (filG (4 * i) (devR x4 v61 (i / 36 % 18) v76 x3) (S1 18) 4) := ⟨_, rfl⟩
              rw [← eSa] at hA
              have hdv : devR x4 v61 (i / 36 % 18) v76 x3 = devE i := by rw [ex4, ev61, ev76, ex3, hx1]; rfl
              have hSa : Sa = va_up (va_up S 18 (FTi (i + 1))) 19 (K0i i) := by
                rw [eSa, hdv, hS1, va_up_ne _ _ (by decide), va_up_self, FTi_s]
                funext q
                by_cases h8 : q = 18
                · subst h8; rw [va_up_self, va_up_ne _ _ (by decide), va_up_self]
                · rw [va_up_ne _ _ h8]
                  by_cases h9 : q = 19
                  · subst h9; rw [va_up_self, va_up_self]
                  · rw [va_up_ne _ _ h9, va_up_ne _ _ h9, va_up_ne _ _ h8, va_up_ne _ _ h8]
              refine lv_aload_n hx hb dX5_solve_80 rfl (lv_at hl 3 rfl) ?_
              refine mm_get (ci := 5) (C := RX5) (T := TX5) (N := 20) hx hb hts in_X5 hown hK hV i_ob m_ob rfl 19 (by decide) f_59 (fun _ h => h) rfl dX5_solve_81 ?_
              refine lv_iload_n hx hb dX5_solve_84 rfl (lv_at hl 4 rfl) ?_
              refine lv_aload_n hx hb dX5_solve_85 rfl (lv_at hl 3 rfl) ?_
              refine mm_get (ci := 5) (C := RX5) (T := TX5) (N := 20) hx hb hts in_X5 hown hK hV i_ob m_ob rfl 18 (by decide) f_56 (fun _ h => h) rfl dX5_solve_86 ?_
              refine lv_iconst (v := 4) hx hb dX5_solve_89 (by decide) ?_
              refine lv_iload_n hx hb dX5_solve_90 rfl (lv_at hl 4 rfl) ?_
              refine lv_imul hx hb dX5_solve_91 ?_
              refine mm_ialdN (j := (4 * i)) hx hb hK hV (hA.i 18 rfl) (show M_3 (ad 18) = .inl (dA 0, 10368, .inl (Sa 18)) from hA.m 18 rfl) (mulN (c := 4) rfl hx1) (by omega) (by decide) dX5_solve_92 ?_
              refine lv_iconst (v := (-1)) hx hb dX5_solve_93 (by decide) ?_
              have J102 : ∀ (v102 : Int32), v102 = (if (Sa 18) (4 * i) = (-1) then (-1) else 0) → W p l e R s m args below meth c H locs 0 0 Q (F0 m 102 ls [.int v102, .int x1, .ref (ad 19)]) := by
                intro v102 ev102
                refine mm_iastN (j := i) (x := v102) hx hb hK hV (hA.i 19 rfl) (show M_3 (ad 19) = .inl (dA 0, 2592, .inl (Sa 19)) from hA.m 19 rfl) hx1 (by omega) (by decide) dX5_solve_102 (fun M_4 H locs eM_4 hV => ?_)
                obtain ⟨Sb, eSb⟩ : ∃ z, z = va_up Sa 19 (upd (Sa 19) i v102) := ⟨_, rfl⟩
                have hA : rA dA L M_4 ad Sb := by rw [eSb]; exact hA.up 19 rfl eM_4
                have m_ob : M_4 ob = rO ad pl qu 1 := (congrFun eM_4 ob).trans ((va_up_ne _ _ (fun h => hA0.nob 19 rfl m_ob0 h)).trans m_ob)
                have fR : rF L ad ob M M_4 := fR.up 19 rfl eM_4
                obtain ⟨x1_n, ex1_n⟩ : ∃ y : Int32, y = x1 + 1 := ⟨_, rfl⟩
                refine lv_iinc (v := x1_n) (lv' := [(1, .int x1_n), (4, .int x4), (3, .int x3), (2, .int x2), (0, .ref ob)]) hx hb dX5_solve_103 hl (k := 4) rfl (by rw [ex1_n]; rfl) (by decide) rfl (fun ls hl => ?_)
                refine lv_goto (tgt := 15) hx hb dX5_solve_106 (by decide) ?_
                have hv9 : v102 = (if devE i 0 = -1 then -1 else 0) := by rw [ev102, hSa, va_up_ne _ _ (by decide), va_up_self, FTi_at]
                exact ih (i + 1) x1_n Sb M_4 _ _ ls (by omega) (by rw [ex1_n, hx1]; exact nI_1 i) (by rw [eSb, hv9, hSa, va_up_self, bx_uu, K0i_s]) hV hA m_ob fR (lv_sub hl [4, 0] rfl)
              refine lv_icmp_ne (tgt := 101) hx hb dX5_solve_94 (by decide) (fun c94 => ?_) (fun c94 => ?_)
              · refine lv_iconst (v := 0) hx hb dX5_solve_101 (by decide) ?_
                exact J102 _ (by rw [if_neg c94])
              · refine lv_iconst (v := (-1)) hx hb dX5_solve_97 (by decide) ?_
                refine lv_goto (tgt := 102) hx hb dX5_solve_98 (by decide) ?_
                exact J102 _ (by rw [if_pos c94])
            refine lv_icmp_lt (tgt := 75) hx hb dX5_solve_68 (by decide) (fun c68 => ?_) (fun c68 => ?_)
            · refine lv_iconst (v := 0) hx hb dX5_solve_75 (by decide) ?_
              exact J76 _ (by rw [if_pos c68])
            · refine lv_iconst (v := 1) hx hb dX5_solve_71 (by decide) ?_
              refine lv_goto (tgt := 76) hx hb dX5_solve_72 (by decide) ?_
              exact J76 _ (by rw [if_neg c68])
          refine lv_icmp_ne (tgt := 60) hx hb dX5_solve_53 (by decide) (fun c53 => ?_) (fun c53 => ?_)
          · refine lv_iconst (v := 0) hx hb dX5_solve_60 (by decide) ?_
            exact J61 _ (by rw [if_neg c53])
          · refine lv_iconst (v := 1) hx hb dX5_solve_56 (by decide) ?_
            refine lv_goto (tgt := 61) hx hb dX5_solve_57 (by decide) ?_
            exact J61 _ (by rw [if_pos c53])
    exact LP 2592 0 x1 S M_1 H locs ls rfl (by rw [ex1]; rfl) (by rw [show FTi 0 = S 18 by rw [hs0.1]; rfl, show K0i 0 = S 19 by rw [hs0.2]; rfl, up_id (S := S) rfl]; exact (up_id rfl).symm) hV hA m_ob fR (lv_sub hl [1, 0] rfl)
  · have hs1 : so = 1 ∧ S 19 = KT := hko.resolve_left (fun h => c4 h.1)
    exact hret dX5_solve_7 hV (by decide) (by decide) ⟨rfl, S, fun _ _ _ => rfl, hs1.2, hA, hs1.1 ▸ m_ob, fR⟩
