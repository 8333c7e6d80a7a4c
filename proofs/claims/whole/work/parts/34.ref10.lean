/-! the reference's endings: what follows on each, and the verdicts -/
def canR (s k d : Int32) : Int32 := if k = 0 then (if (if s = 0 then (1 : Int32) else 0) = (if 2 ≤ d then (0 : Int32) else 1) then 1 else 0) else 1
def dvJ (s k : Int32) (a : Nat) (b : Int32) : Nat → Int32
  | 0 => 0
  | w + 1 => if dvJ s k a b w = 0 then (if canR s k (nI w) = 0 then 0 else (if nearR (4 * a + w) = b then (if farR (4 * a + w) < 0 then 0 else 1) else 0)) else 1
def dvS (s k : Int32) (a : Nat) (q b : Int32) : Nat → Nat → (Nat → Int32) → Nat → Nat → Int32
  | 0, _, g, _ => g
  | m + 1, w, g, n => if canR s k (nI w) = 0 then dvS s k a q b m (w + 1) g n else if nearR (4 * a + w) < 0 then dvS s k a q b m (w + 1) g n else if nearR (4 * a + w) = b then dvS s k a q b m (w + 1) g n else
    dvS s k a q b m (w + 1) (upd g n (codeR (1 - s) q b (if k = 0 then (if rowR (nearR (4 * a + w)) = crownR s then 1 else 0) else 1) (nearR (4 * a + w)))) (n + 1)
def devR (s k : Int32) (a : Nat) (q b : Int32) : Nat → Int32 := if dvJ s k a b 4 = 0 then dvS s k a q b 4 0 (fun _ => -1) 0 else upd (fun _ => -1) 0 (-2)
theorem filG_upd {b : Nat} {v g : Nat → Int32} {c n : Nat} {x : Int32} (h : n < c) : upd (filG b v g c) (b + n) x = filG b (upd v n x) g c := by
  funext q
  by_cases hq : q = b + n
  · subst hq; rw [pk_us, filG_in h, pk_us]
  · rw [pk_un hq]; unfold filG
    by_cases h2 : b ≤ q ∧ q < b + c
    · rw [if_pos h2, if_pos h2, pk_un (by omega)]
    · rw [if_neg h2, if_neg h2]

set_option maxHeartbeats 1000000 in
set_option maxRecDepth 100000 in
theorem c_devR (l : Launch) (D : va_G) (dA : Nat → ClassId) {L : List Nat} {M : mm_M} {ob : Nat} {ad : Nat → Nat} {S : Nat → Nat → Int32} {pl qu so : Int32} {e0 a0 : Nat} (x1 x2 x3 x4 x5 : Int32) (i_ob : ob ∈ L) (m_ob : M ob = rO ad pl qu so) (hA : rA dA L M ad S) (h7 : S 7 = nearR) (h8 : S 8 = farR) (hcd : codeR x1 x2 x3 x4 x5 = nI e0) (he : e0 < 2592) (ha : x3 = nI a0) (ha18 : a0 < 18) : mm_Cm l D dA yX5_develop wsX5_develop 1 [.ref ob, .int x1, .int x2, .int x3, .int x4, .int x5] L M (fun M1 => rA dA L M1 ad (va_up S 18 (filG (4 * e0) (devR x1 x2 a0 x4 x5) (S 18) 4)) ∧ M1 ob = rO ad pl qu so ∧ rF L ad ob M M1) := by
  have hA0 := hA
  have m_ob0 := m_ob
  have fR : rF L ad ob M M := rF.rf
  refine mm_enter_v (cc := cX5_develop) (maxL := 13) (by decide) rfl (Nat.le_of_ble_eq_true rfl) ?_
  intro p e R s m args below meth c A ls H locs Q hR hx hb hml hin hown hts hK hV hl hret
  have hl : lv_has ls 13 [(0, .ref ob), (1, .int x1), (2, .int x2), (3, .int x3), (4, .int x4), (5, .int x5)] := hl
  have hown : s.vm.findClass RX5 = some m.cls := hown
  have f_31 := hts (.fieldLink RX5 31 "JumpBoardModel" "near" "[I") (by decide +kernel)
  have in_X5 : ∀ w ∈ wsX50, w ∈ wsX5_develop := by decide +kernel
  have f_56 := hts (.fieldLink RX5 56 "JumpBoardModel" "follow" "[I") (by decide +kernel)
  have f_34 := hts (.fieldLink RX5 34 "JumpBoardModel" "far" "[I") (by decide +kernel)
  refine lv_iconst (v := 4) hx hb dX5_develop_0 (by decide) ?_
  refine lv_iload_n hx hb dX5_develop_1 rfl (lv_at hl 1 rfl) ?_
  refine lv_iload_n hx hb dX5_develop_2 rfl (lv_at hl 2 rfl) ?_
  refine lv_iload_n hx hb dX5_develop_3 rfl (lv_at hl 3 rfl) ?_
  refine lv_iload hx hb dX5_develop_4 (lv_at hl 4 rfl) ?_
  refine lv_iload hx hb dX5_develop_6 (lv_at hl 5 rfl) ?_
  refine mm_Sp (v := (codeR x1 x2 x3 x4 x5)) (As := [.int x1, .int x2, .int x3, .int x4, .int x5]) (rest := [.int 4]) ⟨hx, hb, hml, hown, hts⟩ hK hV (c_codeR l D dA x1 x2 x3 x4 x5) (va_cwS 5 hts gX5_develop_X5_code rfl rfl rfl (by decide +kernel) (mm_levR hR (by omega) (by decide))) rfl hl.1 rfl (Nat.le_of_ble_eq_true rfl) dX5_develop_8 ⟨Nat.zero_le _, Nat.zero_le _⟩ (fun H locs hV => ?_)
  refine lv_imul hx hb dX5_develop_11 ?_
  refine lv_topi (fun x6 ex6 => ?_)
  refine lv_istore (lv' := [(6, .int x6), (0, .ref ob), (1, .int x1), (2, .int x2), (3, .int x3), (4, .int x4), (5, .int x5)]) hx hb dX5_develop_12 hl (by decide) rfl (fun ls hl => ?_)
  have hx6 : x6 = nI (4 * e0) := by rw [ex6]; exact mulN (c := 4) rfl hcd
  refine lv_iconst (v := 0) hx hb dX5_develop_14 (by decide) ?_
  refine lv_topi (fun x7 ex7 => ?_)
  refine lv_istore (lv' := [(7, .int x7), (6, .int x6), (0, .ref ob), (1, .int x1), (2, .int x2), (3, .int x3), (4, .int x4), (5, .int x5)]) hx hb dX5_develop_15 hl (by decide) rfl (fun ls hl => ?_)
  refine lv_iconst (v := 0) hx hb dX5_develop_17 (by decide) ?_
  refine lv_topi (fun x8 ex8 => ?_)
  refine lv_istore (lv' := [(8, .int x8), (7, .int x7), (6, .int x6), (0, .ref ob), (1, .int x1), (2, .int x2), (3, .int x3), (4, .int x4), (5, .int x5)]) hx hb dX5_develop_18 hl (by decide) rfl (fun ls hl => ?_)
  refine lv_iconst (v := 0) hx hb dX5_develop_20 (by decide) ?_
  refine lv_topi (fun x9 ex9 => ?_)
  refine lv_istore (lv' := [(9, .int x9), (8, .int x8), (7, .int x7), (6, .int x6), (0, .ref ob), (1, .int x1), (2, .int x2), (3, .int x3), (4, .int x4), (5, .int x5)]) hx hb dX5_develop_21 hl (by decide) rfl (fun ls hl => ?_)
  have hx7z : x7 = 0 := ex7
  have LP : ∀ (k : Nat) (w : Nat) (x8 x9 : Int32) (S1 : Nat → Nat → Int32) (M1 : mm_M) (H : Heap) (locs : List Loc) (ls : Array Slot), w + k = 4 → x9 = nI w → x8 = dvJ x1 x2 a0 x5 w → S1 = va_up S 18 (filG (4 * e0) (fun _ => -1) (S 18) w) → mm_V A D L M1 s H locs → rA dA L M1 ad S1 → M1 ob = rO ad pl qu so → rF L ad ob M M1 → lv_has ls 13 [(0, .ref ob), (1, .int x1), (2, .int x2), (3, .int x3), (4, .int x4), (5, .int x5), (6, .int x6), (7, .int x7), (8, .int x8), (9, .int x9)] → W p l e R s m args below meth c H locs 0 0 Q (F0 m 23 ls []) := by
    intro k
    induction k with
    | zero =>
      intro w x8 x9 S1 M1 H locs ls hwk hx9 hx8 hS1 hV hA m_ob fR hl
      refine lv_iload hx hb dX5_develop_23 (lv_at hl 9 rfl) ?_
      refine lv_iconst (v := 4) hx hb dX5_develop_25 (by decide) ?_
      refine lv_icmp_ge (tgt := 127) hx hb dX5_develop_26 (by decide) (fun c26 => ?_) (fun c26 => ?_)
      · have hw4 : w = 4 := by omega
        subst hw4
        refine lv_iload hx hb dX5_develop_127 (lv_at hl 8 rfl) ?_
        refine lv_if_eq (tgt := 142) hx hb dX5_develop_129 (by decide) (fun c129 => ?_) (fun c129 => ?_)
        · refine lv_iconst (v := 0) hx hb dX5_develop_142 (by decide) ?_
          refine lv_topi (fun x9b ex9b => ?_)
          refine lv_istore (lv' := [(9, .int x9b), (0, .ref ob), (1, .int x1), (2, .int x2), (3, .int x3), (4, .int x4), (5, .int x5), (6, .int x6), (7, .int x7), (8, .int x8)]) hx hb dX5_develop_143 hl (by decide) rfl (fun ls hl => ?_)
          have LQ : ∀ (k : Nat) (w n : Nat) (x7 x9 : Int32) (gf : Nat → Int32) (S1 : Nat → Nat → Int32) (M1 : mm_M) (H : Heap) (locs : List Loc) (ls : Array Slot), w + k = 4 → x9 = nI w → n ≤ w → x7 = nI n → S1 = va_up S 18 (filG (4 * e0) gf (S 18) 4) → dvS x1 x2 a0 x4 x5 k w gf n = devR x1 x2 a0 x4 x5 → mm_V A D L M1 s H locs → rA dA L M1 ad S1 → M1 ob = rO ad pl qu so → rF L ad ob M M1 → lv_has ls 13 [(0, .ref ob), (1, .int x1), (2, .int x2), (3, .int x3), (4, .int x4), (5, .int x5), (6, .int x6), (7, .int x7), (9, .int x9)] → W p l e R s m args below meth c H locs 0 0 Q (F0 m 145 ls []) := by
            intro k
            induction k with
            | zero =>
              intro w n x7 x9 gf S1 M1 H locs ls hwk hx9 hnw hx7 hS1 hres hV hA m_ob fR hl
              refine lv_iload hx hb dX5_develop_145 (lv_at hl 8 rfl) ?_
              refine lv_iconst (v := 4) hx hb dX5_develop_147 (by decide) ?_
              refine lv_icmp_ge (tgt := 271) hx hb dX5_develop_148 (by decide) (fun c148 => ?_) (fun c148 => ?_)
              · exact hret dX5_develop_271 hV (by decide) (by decide) ⟨rfl, by rw [show devR x1 x2 a0 x4 x5 = gf from hres.symm, ← hS1]; exact hA, m_ob, fR⟩
              · exact absurd (by rw [hx9]; exact nI_le (a := 4) (by omega) (by omega)) c148
            | succ k ih =>
              intro w n x7 x9 gf S1 M1 H locs ls hwk hx9 hnw hx7 hS1 hres hV hA m_ob fR hl
              refine lv_iload hx hb dX5_develop_145 (lv_at hl 8 rfl) ?_
              refine lv_iconst (v := 4) hx hb dX5_develop_147 (by decide) ?_
              refine lv_icmp_ge (tgt := 271) hx hb dX5_develop_148 (by decide) (fun c148 => ?_) (fun c148 => ?_)
              · exact absurd c148 (by rw [hx9]; exact nI_ge (b := 4) (by omega) (by decide))
              · have h71 : S1 7 = nearR := by rw [hS1, va_up_ne _ _ (by decide)]; exact h7
                refine lv_aload_n hx hb dX5_develop_151 rfl (lv_at hl 0 rfl) ?_
                refine mm_get (ci := 5) (C := RX5) (T := TX5) (N := 20) hx hb hts in_X5 hown hK hV i_ob m_ob rfl 7 (by decide) f_31 (fun _ h => h) rfl dX5_develop_152 ?_
                refine lv_iconst (v := 4) hx hb dX5_develop_155 (by decide) ?_
                refine lv_iload_n hx hb dX5_develop_156 rfl (lv_at hl 3 rfl) ?_
                refine lv_imul hx hb dX5_develop_157 ?_
                refine lv_iload hx hb dX5_develop_158 (lv_at hl 8 rfl) ?_
                refine lv_iadd hx hb dX5_develop_160 ?_
                refine mm_ialdN (j := (4 * a0 + w)) hx hb hK hV (hA.i 7 rfl) (show M1 (ad 7) = .inl (dA 0, 72, .inl (S1 7)) from hA.m 7 rfl) (ixR (c := 4) rfl ha hx9) (by omega) (by decide) dX5_develop_161 ?_
                refine lv_topi (fun x10 ex10 => ?_)
                refine lv_istore (lv' := [(10, .int x10), (0, .ref ob), (1, .int x1), (2, .int x2), (3, .int x3), (4, .int x4), (5, .int x5), (6, .int x6), (7, .int x7), (9, .int x9)]) hx hb dX5_develop_162 hl (by decide) rfl (fun ls hl => ?_)
                have hx10 : x10 = nearR (4 * a0 + w) := by rw [ex10, h71]
                refine lv_iload_n hx hb dX5_develop_164 rfl (lv_at hl 3 rfl) ?_
                have J196 : ∀ (v196 : Int32), v196 = (if x2 = 0 then (if (if x1 = 0 then 1 else 0 : Int32) = (if 2 ≤ x9 then 0 else 1 : Int32) then 1 else 0) else 1) → W p l e R s m args below meth c H locs 0 0 Q (F0 m 196 ls [.int v196]) := by
                  intro v196 ev196
                  refine lv_istore (lv' := [(11, .int v196), (10, .int x10), (0, .ref ob), (1, .int x1), (2, .int x2), (3, .int x3), (4, .int x4), (5, .int x5), (6, .int x6), (7, .int x7), (9, .int x9)]) hx hb dX5_develop_196 hl (by decide) rfl (fun ls hl => ?_)
                  have hcan : v196 = canR x1 x2 (nI w) := by rw [ev196, hx9]; rfl
                  refine lv_iload hx hb dX5_develop_198 (lv_at hl 0 rfl) ?_
                  refine lv_if_eq (tgt := 265) hx hb dX5_develop_200 (by decide) (fun c200 => ?_) (fun c200 => ?_)
                  · obtain ⟨x9_n, ex9_n⟩ : ∃ y : Int32, y = x9 + 1 := ⟨_, rfl⟩
                    refine lv_iinc (v := x9_n) (lv' := [(9, .int x9_n), (11, .int v196), (10, .int x10), (0, .ref ob), (1, .int x1), (2, .int x2), (3, .int x3), (4, .int x4), (5, .int x5), (6, .int x6), (7, .int x7)]) hx hb dX5_develop_265 hl (k := 10) rfl (by rw [ex9_n]; rfl) (by decide) rfl (fun ls hl => ?_)
                    refine lv_goto (tgt := 145) hx hb dX5_develop_268 (by decide) ?_
                    exact ih (w + 1) n x7 x9_n gf S1 M1 _ _ ls (by omega) (by rw [ex9_n, hx9]; exact nI_1 w) (by omega) hx7 hS1 (by rw [← hres]; conv => rhs; rw [dvS, if_pos (by rw [← hcan]; exact c200)]) hV hA m_ob fR (lv_sub hl [3, 4, 5, 6, 7, 8, 9, 10, 0] rfl)
                  · refine lv_iload hx hb dX5_develop_203 (lv_at hl 1 rfl) ?_
                    refine lv_if_lt (tgt := 265) hx hb dX5_develop_205 (by decide) (fun c205 => ?_) (fun c205 => ?_)
                    · obtain ⟨x9_n, ex9_n⟩ : ∃ y : Int32, y = x9 + 1 := ⟨_, rfl⟩
                      refine lv_iinc (v := x9_n) (lv' := [(9, .int x9_n), (11, .int v196), (10, .int x10), (0, .ref ob), (1, .int x1), (2, .int x2), (3, .int x3), (4, .int x4), (5, .int x5), (6, .int x6), (7, .int x7)]) hx hb dX5_develop_265 hl (k := 10) rfl (by rw [ex9_n]; rfl) (by decide) rfl (fun ls hl => ?_)
                      refine lv_goto (tgt := 145) hx hb dX5_develop_268 (by decide) ?_
                      exact ih (w + 1) n x7 x9_n gf S1 M1 _ _ ls (by omega) (by rw [ex9_n, hx9]; exact nI_1 w) (by omega) hx7 hS1 (by rw [← hres]; conv => rhs; rw [dvS, if_neg (by rw [← hcan]; exact c200), if_pos (by rw [← hx10]; exact c205)]) hV hA m_ob fR (lv_sub hl [3, 4, 5, 6, 7, 8, 9, 10, 0] rfl)
                    · refine lv_iload hx hb dX5_develop_208 (lv_at hl 1 rfl) ?_
                      refine lv_iload hx hb dX5_develop_210 (lv_at hl 7 rfl) ?_
                      refine lv_icmp_eq (tgt := 265) hx hb dX5_develop_212 (by decide) (fun c212 => ?_) (fun c212 => ?_)
                      · obtain ⟨x9_n, ex9_n⟩ : ∃ y : Int32, y = x9 + 1 := ⟨_, rfl⟩
                        refine lv_iinc (v := x9_n) (lv' := [(9, .int x9_n), (11, .int v196), (10, .int x10), (0, .ref ob), (1, .int x1), (2, .int x2), (3, .int x3), (4, .int x4), (5, .int x5), (6, .int x6), (7, .int x7)]) hx hb dX5_develop_265 hl (k := 10) rfl (by rw [ex9_n]; rfl) (by decide) rfl (fun ls hl => ?_)
                        refine lv_goto (tgt := 145) hx hb dX5_develop_268 (by decide) ?_
                        exact ih (w + 1) n x7 x9_n gf S1 M1 _ _ ls (by omega) (by rw [ex9_n, hx9]; exact nI_1 w) (by omega) hx7 hS1 (by rw [← hres]; conv => rhs; rw [dvS, if_neg (by rw [← hcan]; exact c200), if_neg (by rw [← hx10]; exact c205), if_pos (by rw [← hx10]; exact c212)]) hV hA m_ob fR (lv_sub hl [3, 4, 5, 6, 7, 8, 9, 10, 0] rfl)
                      · refine lv_iload_n hx hb dX5_develop_215 rfl (lv_at hl 4 rfl) ?_
                        have J236 : ∀ (v236 : Int32) (H : Heap) (locs : List Loc), v236 = (if x2 = 0 then (if rowR x10 = crownR x1 then 1 else 0) else 1) → mm_V A D L M1 s H locs → W p l e R s m args below meth c H locs 0 0 Q (F0 m 236 ls [.int v236]) := by
                          intro v236 H locs ev236 hV
                          refine lv_istore (lv' := [(12, .int v236), (11, .int v196), (10, .int x10), (0, .ref ob), (1, .int x1), (2, .int x2), (3, .int x3), (4, .int x4), (5, .int x5), (6, .int x6), (7, .int x7), (9, .int x9)]) hx hb dX5_develop_236 hl (by decide) rfl (fun ls hl => ?_)
                          refine lv_aload_n hx hb dX5_develop_238 rfl (lv_at hl 3 rfl) ?_
                          refine mm_get (ci := 5) (C := RX5) (T := TX5) (N := 20) hx hb hts in_X5 hown hK hV i_ob m_ob rfl 18 (by decide) f_56 (fun _ h => h) rfl dX5_develop_239 ?_
                          refine lv_iload hx hb dX5_develop_242 (lv_at hl 9 rfl) ?_
                          refine lv_iload hx hb dX5_develop_244 (lv_at hl 10 rfl) ?_
                          refine lv_iadd hx hb dX5_develop_246 ?_
                          refine lv_iconst (v := 1) hx hb dX5_develop_247 (by decide) ?_
                          refine lv_iload_n hx hb dX5_develop_248 rfl (lv_at hl 4 rfl) ?_
                          refine lv_isub hx hb dX5_develop_249 ?_
                          refine lv_iload hx hb dX5_develop_250 (lv_at hl 7 rfl) ?_
                          refine lv_iload hx hb dX5_develop_252 (lv_at hl 8 rfl) ?_
                          refine lv_iload hx hb dX5_develop_254 (lv_at hl 0 rfl) ?_
                          refine lv_iload hx hb dX5_develop_256 (lv_at hl 2 rfl) ?_
                          refine mm_Sp (v := (codeR (1 - x1) x4 x5 v236 x10)) (As := [.int (1 - x1), .int x4, .int x5, .int v236, .int x10]) (rest := [.int (x6 + x7), .ref (ad 18)]) ⟨hx, hb, hml, hown, hts⟩ hK hV (c_codeR l D dA (1 - x1) x4 x5 v236 x10) (va_cwS 5 hts gX5_develop_X5_code rfl rfl rfl (by decide +kernel) (mm_levR hR (by omega) (by decide))) rfl hl.1 rfl (Nat.le_of_ble_eq_true rfl) dX5_develop_258 ⟨Nat.zero_le _, Nat.zero_le _⟩ (fun H locs hV => ?_)
                          refine lv_topi (fun vc evc => ?_)
                          refine mm_iastN (j := (4 * e0 + n)) (x := vc) hx hb hK hV (hA.i 18 rfl) (show M1 (ad 18) = .inl (dA 0, 10368, .inl (S1 18)) from hA.m 18 rfl) (addN hx6 hx7) (by omega) (by decide) dX5_develop_261 (fun M_1 H locs eM_1 hV => ?_)
                          obtain ⟨Sa, eSa⟩ : ∃ z, z = va_up S1 18 (upd (S1 18) (4 * e0 + n) vc) := ⟨_, rfl⟩
                          have hA : rA dA L M_1 ad Sa := by rw [eSa]; exact hA.up 18 rfl eM_1
                          have m_ob : M_1 ob = rO ad pl qu so := (congrFun eM_1 ob).trans ((va_up_ne _ _ (fun h => hA0.nob 18 rfl m_ob0 h)).trans m_ob)
                          have fR : rF L ad ob M M_1 := fR.up 18 rfl eM_1
                          obtain ⟨x7_n, ex7_n⟩ : ∃ y : Int32, y = x7 + 1 := ⟨_, rfl⟩
                          refine lv_iinc (v := x7_n) (lv' := [(7, .int x7_n), (12, .int v236), (11, .int v196), (10, .int x10), (0, .ref ob), (1, .int x1), (2, .int x2), (3, .int x3), (4, .int x4), (5, .int x5), (6, .int x6), (9, .int x9)]) hx hb dX5_develop_262 hl (k := 10) rfl (by rw [ex7_n]; rfl) (by decide) rfl (fun ls hl => ?_)
                          obtain ⟨x9_n, ex9_n⟩ : ∃ y : Int32, y = x9 + 1 := ⟨_, rfl⟩
                          refine lv_iinc (v := x9_n) (lv' := [(9, .int x9_n), (7, .int x7_n), (12, .int v236), (11, .int v196), (10, .int x10), (0, .ref ob), (1, .int x1), (2, .int x2), (3, .int x3), (4, .int x4), (5, .int x5), (6, .int x6)]) hx hb dX5_develop_265 hl (k := 11) rfl (by rw [ex9_n]; rfl) (by decide) rfl (fun ls hl => ?_)
                          refine lv_goto (tgt := 145) hx hb dX5_develop_268 (by decide) ?_
                          exact ih (w + 1) (n + 1) x7_n x9_n (upd gf n (codeR (1 - x1) x4 x5 v236 x10)) Sa M_1 _ _ ls (by omega) (by rw [ex9_n, hx9]; exact nI_1 w) (by omega) (by rw [ex7_n, hx7]; exact nI_1 n) (by rw [eSa, hS1, va_up_self, bx_uu, filG_upd (by omega), evc]) (by rw [← hres]; conv => rhs; rw [dvS, if_neg (by rw [← hcan]; exact c200), if_neg (by rw [← hx10]; exact c205), if_neg (by rw [← hx10]; exact c212), ← hx10, ← ev236]) hV hA m_ob fR (lv_sub hl [5, 6, 7, 8, 9, 10, 11, 1, 0] rfl)
                        refine lv_if_ne (tgt := 231) hx hb dX5_develop_216 (by decide) (fun c216 => ?_) (fun c216 => ?_)
                        · refine lv_iconst (v := 1) hx hb dX5_develop_231 (by decide) ?_
                          refine lv_goto (tgt := 236) hx hb dX5_develop_232 (by decide) ?_
                          exact J236 _ _ _ (by rw [if_neg c216]) hV
                        · refine lv_iload hx hb dX5_develop_219 (lv_at hl 1 rfl) ?_
                          refine mm_Sp (v := (rowR x10)) (As := [.int x10]) (rest := []) ⟨hx, hb, hml, hown, hts⟩ hK hV (c_rowR l D dA x10) (va_cwS 1 hts gX5_develop_X5_rowOf rfl rfl rfl (by decide +kernel) (mm_levR hR (by omega) (by decide))) rfl hl.1 rfl (Nat.le_of_ble_eq_true rfl) dX5_develop_221 ⟨Nat.zero_le _, Nat.zero_le _⟩ (fun H locs hV => ?_)
                          refine lv_iload_n hx hb dX5_develop_224 rfl (lv_at hl 3 rfl) ?_
                          refine mm_Sp (v := (crownR x1)) (As := [.int x1]) (rest := [.int (rowR x10)]) ⟨hx, hb, hml, hown, hts⟩ hK hV (c_crownR l D dA x1) (va_cwS 1 hts gX5_develop_X5_crowning rfl rfl rfl (by decide +kernel) (mm_levR hR (by omega) (by decide))) rfl hl.1 rfl (Nat.le_of_ble_eq_true rfl) dX5_develop_225 ⟨Nat.zero_le _, Nat.zero_le _⟩ (fun H locs hV => ?_)
                          refine lv_icmp_ne (tgt := 235) hx hb dX5_develop_228 (by decide) (fun c228 => ?_) (fun c228 => ?_)
                          · refine lv_iconst (v := 0) hx hb dX5_develop_235 (by decide) ?_
                            exact J236 _ _ _ (by rw [if_pos c216, if_neg c228]) hV
                          · refine lv_iconst (v := 1) hx hb dX5_develop_231 (by decide) ?_
                            refine lv_goto (tgt := 236) hx hb dX5_develop_232 (by decide) ?_
                            exact J236 _ _ _ (by rw [if_pos c216, if_pos c228]) hV
                refine lv_if_ne (tgt := 191) hx hb dX5_develop_165 (by decide) (fun c165 => ?_) (fun c165 => ?_)
                · refine lv_iconst (v := 1) hx hb dX5_develop_191 (by decide) ?_
                  refine lv_goto (tgt := 196) hx hb dX5_develop_192 (by decide) ?_
                  exact J196 _ (by rw [if_neg c165])
                · refine lv_iload_n hx hb dX5_develop_168 rfl (lv_at hl 2 rfl) ?_
                  have J177 : ∀ (v177 : Int32), v177 = (if x1 = 0 then 1 else 0) → W p l e R s m args below meth c H locs 0 0 Q (F0 m 177 ls [.int v177]) := by
                    intro v177 ev177
                    refine lv_iload hx hb dX5_develop_177 (lv_at hl 9 rfl) ?_
                    refine lv_iconst (v := 2) hx hb dX5_develop_179 (by decide) ?_
                    have J188 : ∀ (v188 : Int32), v188 = (if 2 ≤ x9 then 0 else 1) → W p l e R s m args below meth c H locs 0 0 Q (F0 m 188 ls [.int v188, .int v177]) := by
                      intro v188 ev188
                      refine lv_icmp_ne (tgt := 195) hx hb dX5_develop_188 (by decide) (fun c188 => ?_) (fun c188 => ?_)
                      · refine lv_iconst (v := 0) hx hb dX5_develop_195 (by decide) ?_
                        exact J196 _ (by rw [if_pos c165, if_neg (by rw [← ev177, ← ev188]; exact c188)])
                      · refine lv_iconst (v := 1) hx hb dX5_develop_191 (by decide) ?_
                        refine lv_goto (tgt := 196) hx hb dX5_develop_192 (by decide) ?_
                        exact J196 _ (by rw [if_pos c165, if_pos (by rw [← ev177, ← ev188]; exact c188)])
                    refine lv_icmp_ge (tgt := 187) hx hb dX5_develop_180 (by decide) (fun c180 => ?_) (fun c180 => ?_)
                    · refine lv_iconst (v := 0) hx hb dX5_develop_187 (by decide) ?_
                      exact J188 _ (by rw [if_pos c180])
                    · refine lv_iconst (v := 1) hx hb dX5_develop_183 (by decide) ?_
                      refine lv_goto (tgt := 188) hx hb dX5_develop_184 (by decide) ?_
                      exact J188 _ (by rw [if_neg c180])
                  refine lv_if_ne (tgt := 176) hx hb dX5_develop_169 (by decide) (fun c169 => ?_) (fun c169 => ?_)
                  · refine lv_iconst (v := 0) hx hb dX5_develop_176 (by decide) ?_
                    exact J177 _ (by rw [if_neg c169])
                  · refine lv_iconst (v := 1) hx hb dX5_develop_172 (by decide) ?_
                    refine lv_goto (tgt := 177) hx hb dX5_develop_173 (by decide) ?_
                    exact J177 _ (by rw [if_pos c169])
          exact LQ 4 0 0 x7 x9b (fun _ => -1) S1 M1 H locs ls rfl (by rw [ex9b]; rfl) (Nat.le_refl 0) (by rw [hx7z]; rfl) hS1 (by unfold devR; rw [if_pos (by rw [← hx8]; exact c129)]) hV hA m_ob fR (lv_sub hl [1, 2, 3, 4, 5, 6, 7, 8, 0] rfl)
        · refine lv_aload_n hx hb dX5_develop_132 rfl (lv_at hl 0 rfl) ?_
          refine mm_get (ci := 5) (C := RX5) (T := TX5) (N := 20) hx hb hts in_X5 hown hK hV i_ob m_ob rfl 18 (by decide) f_56 (fun _ h => h) rfl dX5_develop_133 ?_
          refine lv_iload hx hb dX5_develop_136 (lv_at hl 6 rfl) ?_
          refine lv_bipush (v := (-2)) hx hb dX5_develop_138 (by decide) ?_
          refine mm_iastN (j := (4 * e0)) (x := (-2)) hx hb hK hV (hA.i 18 rfl) (show M1 (ad 18) = .inl (dA 0, 10368, .inl (S1 18)) from hA.m 18 rfl) hx6 (by omega) (by decide) dX5_develop_140 (fun M_2 H locs eM_2 hV => ?_)
          obtain ⟨Sb, eSb⟩ : ∃ z, z = va_up S1 18 (upd (S1 18) (4 * e0) (-2)) := ⟨_, rfl⟩
          have hA : rA dA L M_2 ad Sb := by rw [eSb]; exact hA.up 18 rfl eM_2
          have m_ob : M_2 ob = rO ad pl qu so := (congrFun eM_2 ob).trans ((va_up_ne _ _ (fun h => hA0.nob 18 rfl m_ob0 h)).trans m_ob)
          have fR : rF L ad ob M M_2 := fR.up 18 rfl eM_2
          have hfin : Sb = va_up S 18 (filG (4 * e0) (devR x1 x2 a0 x4 x5) (S 18) 4) := by
            unfold devR
            rw [if_neg (by rw [← hx8]; exact c129), eSb, hS1, va_up_self, bx_uu, ← filG_upd (n := 0) (by decide), Nat.add_zero]
          exact hret dX5_develop_141 hV (by decide) (by decide) ⟨rfl, by rw [← hfin]; exact hA, m_ob, fR⟩
      · exact absurd (by rw [hx9]; exact nI_le (a := 4) (by omega) (by omega)) c26
    | succ k ih =>
      intro w x8 x9 S1 M1 H locs ls hwk hx9 hx8 hS1 hV hA m_ob fR hl
      refine lv_iload hx hb dX5_develop_23 (lv_at hl 9 rfl) ?_
      refine lv_iconst (v := 4) hx hb dX5_develop_25 (by decide) ?_
      refine lv_icmp_ge (tgt := 127) hx hb dX5_develop_26 (by decide) (fun c26 => ?_) (fun c26 => ?_)
      · exact absurd c26 (by rw [hx9]; exact nI_ge (b := 4) (by omega) (by decide))
      · refine lv_aload_n hx hb dX5_develop_29 rfl (lv_at hl 0 rfl) ?_
        refine mm_get (ci := 5) (C := RX5) (T := TX5) (N := 20) hx hb hts in_X5 hown hK hV i_ob m_ob rfl 18 (by decide) f_56 (fun _ h => h) rfl dX5_develop_30 ?_
        refine lv_iload hx hb dX5_develop_33 (lv_at hl 6 rfl) ?_
        refine lv_iload hx hb dX5_develop_35 (lv_at hl 9 rfl) ?_
        refine lv_iadd hx hb dX5_develop_37 ?_
        refine lv_iconst (v := (-1)) hx hb dX5_develop_38 (by decide) ?_
        refine mm_iastN (j := (4 * e0 + w)) (x := (-1)) hx hb hK hV (hA.i 18 rfl) (show M1 (ad 18) = .inl (dA 0, 10368, .inl (S1 18)) from hA.m 18 rfl) (addN hx6 hx9) (by omega) (by decide) dX5_develop_39 (fun M_3 H locs eM_3 hV => ?_)
        obtain ⟨Sa, eSa⟩ : ∃ z, z = va_up S1 18 (upd (S1 18) (4 * e0 + w) (-1)) := ⟨_, rfl⟩
        have hA : rA dA L M_3 ad Sa := by rw [eSa]; exact hA.up 18 rfl eM_3
        have m_ob : M_3 ob = rO ad pl qu so := (congrFun eM_3 ob).trans ((va_up_ne _ _ (fun h => hA0.nob 18 rfl m_ob0 h)).trans m_ob)
        have fR : rF L ad ob M M_3 := fR.up 18 rfl eM_3
        have hSa7 : Sa 7 = nearR := by rw [eSa, va_up_ne _ _ (by decide), hS1, va_up_ne _ _ (by decide)]; exact h7
        have hSa8 : Sa 8 = farR := by rw [eSa, va_up_ne _ _ (by decide), hS1, va_up_ne _ _ (by decide)]; exact h8
        refine lv_iload_n hx hb dX5_develop_40 rfl (lv_at hl 2 rfl) ?_
        have J72 : ∀ (v72 : Int32), v72 = (if x2 = 0 then (if (if x1 = 0 then 1 else 0 : Int32) = (if 2 ≤ x9 then 0 else 1 : Int32) then 1 else 0) else 1) → W p l e R s m args below meth c H locs 0 0 Q (F0 m 72 ls [.int v72]) := by
          intro v72 ev72
          refine lv_istore (lv' := [(10, .int v72), (0, .ref ob), (1, .int x1), (2, .int x2), (3, .int x3), (4, .int x4), (5, .int x5), (6, .int x6), (7, .int x7), (8, .int x8), (9, .int x9)]) hx hb dX5_develop_72 hl (by decide) rfl (fun ls hl => ?_)
          refine lv_iload hx hb dX5_develop_74 (lv_at hl 9 rfl) ?_
          have J119 : ∀ (v119 : Int32), v119 = (if x8 = 0 then (if v72 = 0 then 0 else (if (Sa 7) (4 * a0 + w) = x5 then (if (Sa 8) (4 * a0 + w) < 0 then 0 else 1) else 0)) else 1) → W p l e R s m args below meth c H locs 0 0 Q (F0 m 119 ls [.int v119]) := by
            intro v119 ev119
            refine lv_istore (lv' := [(8, .int v119), (10, .int v72), (0, .ref ob), (1, .int x1), (2, .int x2), (3, .int x3), (4, .int x4), (5, .int x5), (6, .int x6), (7, .int x7), (9, .int x9)]) hx hb dX5_develop_119 hl (by decide) rfl (fun ls hl => ?_)
            obtain ⟨x9_n, ex9_n⟩ : ∃ y : Int32, y = x9 + 1 := ⟨_, rfl⟩
            refine lv_iinc (v := x9_n) (lv' := [(9, .int x9_n), (8, .int v119), (10, .int v72), (0, .ref ob), (1, .int x1), (2, .int x2), (3, .int x3), (4, .int x4), (5, .int x5), (6, .int x6), (7, .int x7)]) hx hb dX5_develop_121 hl (k := 10) rfl (by rw [ex9_n]; rfl) (by decide) rfl (fun ls hl => ?_)
            refine lv_goto (tgt := 23) hx hb dX5_develop_124 (by decide) ?_
            exact ih (w + 1) v119 x9_n Sa M_3 _ _ ls (by omega) (by rw [ex9_n, hx9]; exact nI_1 w) (by rw [ev119, ev72, hSa7, hSa8, hx8, hx9]; rfl) (by rw [eSa, hS1, va_up_self, bx_uu, ← filG_s]) hV hA m_ob fR (lv_sub hl [3, 4, 5, 6, 7, 8, 9, 10, 1, 0] rfl)
          refine lv_if_ne (tgt := 114) hx hb dX5_develop_76 (by decide) (fun c76 => ?_) (fun c76 => ?_)
          · refine lv_iconst (v := 1) hx hb dX5_develop_114 (by decide) ?_
            refine lv_goto (tgt := 119) hx hb dX5_develop_115 (by decide) ?_
            exact J119 _ (by rw [if_neg c76])
          · refine lv_iload hx hb dX5_develop_79 (lv_at hl 0 rfl) ?_
            refine lv_if_eq (tgt := 118) hx hb dX5_develop_81 (by decide) (fun c81 => ?_) (fun c81 => ?_)
            · refine lv_iconst (v := 0) hx hb dX5_develop_118 (by decide) ?_
              exact J119 _ (by rw [if_pos c76, if_pos c81])
            · refine lv_aload_n hx hb dX5_develop_84 rfl (lv_at hl 1 rfl) ?_
              refine mm_get (ci := 5) (C := RX5) (T := TX5) (N := 20) hx hb hts in_X5 hown hK hV i_ob m_ob rfl 7 (by decide) f_31 (fun _ h => h) rfl dX5_develop_85 ?_
              refine lv_iconst (v := 4) hx hb dX5_develop_88 (by decide) ?_
              refine lv_iload_n hx hb dX5_develop_89 rfl (lv_at hl 4 rfl) ?_
              refine lv_imul hx hb dX5_develop_90 ?_
              refine lv_iload hx hb dX5_develop_91 (lv_at hl 10 rfl) ?_
              refine lv_iadd hx hb dX5_develop_93 ?_
              refine mm_ialdN (j := (4 * a0 + w)) hx hb hK hV (hA.i 7 rfl) (show M_3 (ad 7) = .inl (dA 0, 72, .inl (Sa 7)) from hA.m 7 rfl) (ixR (c := 4) rfl ha hx9) (by omega) (by decide) dX5_develop_94 ?_
              refine lv_iload hx hb dX5_develop_95 (lv_at hl 6 rfl) ?_
              refine lv_icmp_ne (tgt := 118) hx hb dX5_develop_97 (by decide) (fun c97 => ?_) (fun c97 => ?_)
              · refine lv_iconst (v := 0) hx hb dX5_develop_118 (by decide) ?_
                exact J119 _ (by rw [if_pos c76, if_neg c81, if_neg c97])
              · refine lv_aload_n hx hb dX5_develop_100 rfl (lv_at hl 1 rfl) ?_
                refine mm_get (ci := 5) (C := RX5) (T := TX5) (N := 20) hx hb hts in_X5 hown hK hV i_ob m_ob rfl 8 (by decide) f_34 (fun _ h => h) rfl dX5_develop_101 ?_
                refine lv_iconst (v := 4) hx hb dX5_develop_104 (by decide) ?_
                refine lv_iload_n hx hb dX5_develop_105 rfl (lv_at hl 4 rfl) ?_
                refine lv_imul hx hb dX5_develop_106 ?_
                refine lv_iload hx hb dX5_develop_107 (lv_at hl 10 rfl) ?_
                refine lv_iadd hx hb dX5_develop_109 ?_
                refine mm_ialdN (j := (4 * a0 + w)) hx hb hK hV (hA.i 8 rfl) (show M_3 (ad 8) = .inl (dA 0, 72, .inl (Sa 8)) from hA.m 8 rfl) (ixR (c := 4) rfl ha hx9) (by omega) (by decide) dX5_develop_110 ?_
                refine lv_if_lt (tgt := 118) hx hb dX5_develop_111 (by decide) (fun c111 => ?_) (fun c111 => ?_)
                · refine lv_iconst (v := 0) hx hb dX5_develop_118 (by decide) ?_
                  exact J119 _ (by rw [if_pos c76, if_neg c81, if_pos c97, if_pos c111])
                · refine lv_iconst (v := 1) hx hb dX5_develop_114 (by decide) ?_
                  refine lv_goto (tgt := 119) hx hb dX5_develop_115 (by decide) ?_
                  exact J119 _ (by rw [if_pos c76, if_neg c81, if_pos c97, if_neg c111])
        refine lv_if_ne (tgt := 67) hx hb dX5_develop_41 (by decide) (fun c41 => ?_) (fun c41 => ?_)
        · refine lv_iconst (v := 1) hx hb dX5_develop_67 (by decide) ?_
          refine lv_goto (tgt := 72) hx hb dX5_develop_68 (by decide) ?_
          exact J72 _ (by rw [if_neg c41])
        · refine lv_iload_n hx hb dX5_develop_44 rfl (lv_at hl 1 rfl) ?_
          have J53 : ∀ (v53 : Int32), v53 = (if x1 = 0 then 1 else 0) → W p l e R s m args below meth c H locs 0 0 Q (F0 m 53 ls [.int v53]) := by
            intro v53 ev53
            refine lv_iload hx hb dX5_develop_53 (lv_at hl 9 rfl) ?_
            refine lv_iconst (v := 2) hx hb dX5_develop_55 (by decide) ?_
            have J64 : ∀ (v64 : Int32), v64 = (if 2 ≤ x9 then 0 else 1) → W p l e R s m args below meth c H locs 0 0 Q (F0 m 64 ls [.int v64, .int v53]) := by
              intro v64 ev64
              refine lv_icmp_ne (tgt := 71) hx hb dX5_develop_64 (by decide) (fun c64 => ?_) (fun c64 => ?_)
              · refine lv_iconst (v := 0) hx hb dX5_develop_71 (by decide) ?_
                exact J72 _ (by rw [if_pos c41, if_neg (by rw [← ev53, ← ev64]; exact c64)])
              · refine lv_iconst (v := 1) hx hb dX5_develop_67 (by decide) ?_
                refine lv_goto (tgt := 72) hx hb dX5_develop_68 (by decide) ?_
                exact J72 _ (by rw [if_pos c41, if_pos (by rw [← ev53, ← ev64]; exact c64)])
            refine lv_icmp_ge (tgt := 63) hx hb dX5_develop_56 (by decide) (fun c56 => ?_) (fun c56 => ?_)
            · refine lv_iconst (v := 0) hx hb dX5_develop_63 (by decide) ?_
              exact J64 _ (by rw [if_pos c56])
            · refine lv_iconst (v := 1) hx hb dX5_develop_59 (by decide) ?_
              refine lv_goto (tgt := 64) hx hb dX5_develop_60 (by decide) ?_
              exact J64 _ (by rw [if_neg c56])
          refine lv_if_ne (tgt := 52) hx hb dX5_develop_45 (by decide) (fun c45 => ?_) (fun c45 => ?_)
          · refine lv_iconst (v := 0) hx hb dX5_develop_52 (by decide) ?_
            exact J53 _ (by rw [if_neg c45])
          · refine lv_iconst (v := 1) hx hb dX5_develop_48 (by decide) ?_
            refine lv_goto (tgt := 53) hx hb dX5_develop_49 (by decide) ?_
            exact J53 _ (by rw [if_pos c45])
  exact LP 4 0 x8 x9 S M H locs ls rfl (by rw [ex9]; rfl) (by rw [ex8]; rfl) (by rw [filG_0]; exact (up_id rfl).symm) hV hA m_ob fR (lv_sub hl [4, 5, 6, 7, 8, 9, 3, 2, 1, 0] rfl)

def slR (F K : Nat → Int32) (e : Nat) (m : Int32) : Nat → Int32
  | 0 => 0
  | i + 1 => if slR F K e m i = 0 then (if F (4 * e + i) = -2 then (if m = 0 then 1 else (if F (4 * e + i) < 0 then 0 else (if K (F (4 * e + i)).toNatClampNeg = -m - 1 then 1 else 0))) else (if F (4 * e + i) < 0 then 0 else (if K (F (4 * e + i)).toNatClampNeg = -m - 1 then 1 else 0))) else 1
theorem slR_01 (F K : Nat → Int32) (e : Nat) (m : Int32) : ∀ i, slR F K e m i = 0 ∨ slR F K e m i = 1
  | 0 => Or.inl rfl
  | i + 1 => by
    unfold slR
    (repeat' split) <;> first | exact Or.inl rfl | exact Or.inr rfl
def awL (F K : Nat → Int32) (e : Nat) : Nat → Int32 × Int32
  | 0 => (0, 1)
  | i + 1 => if F (4 * e + i) = -1 then awL F K e i else
    ((if (if (awL F K e i).2 = 0 then (0 : Int32) else (if F (4 * e + i) < 0 then 0 else (if K (F (4 * e + i)).toNatClampNeg ≤ 0 then 0 else 1))) = 0 then (awL F K e i).1 else (if K (F (4 * e + i)).toNatClampNeg - 1 ≤ (awL F K e i).1 then (awL F K e i).1 else K (F (4 * e + i)).toNatClampNeg - 1)),
     (if (awL F K e i).2 = 0 then (0 : Int32) else (if F (4 * e + i) < 0 then 0 else (if K (F (4 * e + i)).toNatClampNeg ≤ 0 then 0 else 1))))
def awR (F K : Nat → Int32) (e : Nat) : Int32 := if (awL F K e 4).2 = 0 then -1 else (awL F K e 4).1
def jdR (F K : Nat → Int32) (e : Nat) (n : Int32) : Int32 := if slR F K e (n - 1) 4 = 0 then (if awR F K e = n - 1 then -n - 1 else 0) else n + 1
def rgR (F : Nat → Int32) : Prop := ∀ j, j < 10368 → F j < 0 ∨ ((F j).toNatClampNeg < 2592 ∧ F j = nI (F j).toNatClampNeg)

set_option maxHeartbeats 1000000 in
set_option maxRecDepth 100000 in
theorem c_slR (l : Launch) (D : va_G) (dA : Nat → ClassId) {L : List Nat} {M : mm_M} {ob : Nat} {ad : Nat → Nat} {S : Nat → Nat → Int32} {pl qu so : Int32} {e0 : Nat} (x1 x2 : Int32) (i_ob : ob ∈ L) (m_ob : M ob = rO ad pl qu so) (hA : rA dA L M ad S) (hF : rgR (S 18)) (hxe : x1 = nI e0) (he : e0 < 2592) : mm_Cp l D dA yX5_someLost wsX5_someLost 0 [.ref ob, .int x1, .int x2] L M (slR (S 18) (S 19) e0 x2 4) := by
  have hA0 := hA
  have m_ob0 := m_ob
  have fR : rF L ad ob M M := rF.rf
  refine mm_enter_z (cc := cX5_someLost) (maxL := 6) (by decide) rfl (Nat.le_of_ble_eq_true rfl) ?_
  intro p e R s m args below meth c A ls H locs Q hR hx hb hml hin hown hts hK hV hl hret
  have hl : lv_has ls 6 [(0, .ref ob), (1, .int x1), (2, .int x2)] := hl
  have hown : s.vm.findClass RX5 = some m.cls := hown
  have f_56 := hts (.fieldLink RX5 56 "JumpBoardModel" "follow" "[I") (by decide +kernel)
  have in_X5 : ∀ w ∈ wsX50, w ∈ wsX5_someLost := by decide +kernel
  have f_59 := hts (.fieldLink RX5 59 "JumpBoardModel" "known" "[I") (by decide +kernel)
  refine lv_iconst (v := 0) hx hb dX5_someLost_0 (by decide) ?_
  refine lv_topi (fun x3 ex3 => ?_)
  refine lv_istore_n (lv' := [(3, .int x3), (0, .ref ob), (1, .int x1), (2, .int x2)]) hx hb dX5_someLost_1 rfl hl (by decide) rfl (fun ls hl => ?_)
  refine lv_iconst (v := 0) hx hb dX5_someLost_2 (by decide) ?_
  refine lv_topi (fun x4 ex4 => ?_)
  refine lv_istore (lv' := [(4, .int x4), (3, .int x3), (0, .ref ob), (1, .int x1), (2, .int x2)]) hx hb dX5_someLost_3 hl (by decide) rfl (fun ls hl => ?_)
  have LP : ∀ (k i : Nat) (x3 x4 : Int32) (ls : Array Slot), i + k = 4 → x4 = nI i → x3 = slR (S 18) (S 19) e0 x2 i → lv_has ls 6 [(0, .ref ob), (1, .int x1), (2, .int x2), (3, .int x3), (4, .int x4)] → W p l e R s m args below meth c H locs 0 0 Q (F0 m 5 ls []) := by
    intro k
    induction k with
    | zero =>
      intro i x3 x4 ls hik hx4 hx3 hl
      refine lv_iload hx hb dX5_someLost_5 (lv_at hl 4 rfl) ?_
      refine lv_iconst (v := 4) hx hb dX5_someLost_7 (by decide) ?_
      refine lv_icmp_ge (tgt := 70) hx hb dX5_someLost_8 (by decide) (fun c8 => ?_) (fun c8 => ?_)
      · refine lv_iload_n hx hb dX5_someLost_70 rfl (lv_at hl 3 rfl) ?_
        exact hret (v := x3) dX5_someLost_71 hV (by decide) (by decide) (by rw [hx3]; exact slR_01 _ _ _ _ _) ⟨by rw [hx3, show i = 4 by omega], rfl, rfl⟩
      · exact absurd (by rw [hx4]; exact nI_le (a := 4) (by omega) (by omega)) c8
    | succ k ih =>
      intro i x3 x4 ls hik hx4 hx3 hl
      refine lv_iload hx hb dX5_someLost_5 (lv_at hl 4 rfl) ?_
      refine lv_iconst (v := 4) hx hb dX5_someLost_7 (by decide) ?_
      refine lv_icmp_ge (tgt := 70) hx hb dX5_someLost_8 (by decide) (fun c8 => ?_) (fun c8 => ?_)
      · exact absurd c8 (by rw [hx4]; exact nI_ge (b := 4) (by omega) (by decide))
      · refine lv_aload_n hx hb dX5_someLost_11 rfl (lv_at hl 0 rfl) ?_
        refine mm_get (ci := 5) (C := RX5) (T := TX5) (N := 20) hx hb hts in_X5 hown hK hV i_ob m_ob rfl 18 (by decide) f_56 (fun _ h => h) rfl dX5_someLost_12 ?_
        refine lv_iconst (v := 4) hx hb dX5_someLost_15 (by decide) ?_
        refine lv_iload_n hx hb dX5_someLost_16 rfl (lv_at hl 1 rfl) ?_
        refine lv_imul hx hb dX5_someLost_17 ?_
        refine lv_iload hx hb dX5_someLost_18 (lv_at hl 4 rfl) ?_
        refine lv_iadd hx hb dX5_someLost_20 ?_
        refine mm_ialdN (j := (4 * e0 + i)) hx hb hK hV (hA.i 18 rfl) (show M (ad 18) = .inl (dA 0, 10368, .inl (S 18)) from hA.m 18 rfl) (ixR (c := 4) rfl hxe hx4) (by omega) (by decide) dX5_someLost_21 ?_
        refine lv_topi (fun x5 ex5 => ?_)
        refine lv_istore (lv' := [(5, .int x5), (0, .ref ob), (1, .int x1), (2, .int x2), (3, .int x3), (4, .int x4)]) hx hb dX5_someLost_22 hl (by decide) rfl (fun ls hl => ?_)
        refine lv_iload_n hx hb dX5_someLost_24 rfl (lv_at hl 4 rfl) ?_
        have J63 : ∀ (v63 : Int32), v63 = (if x3 = 0 then (if x5 = (-2) then (if x2 = 0 then 1 else (if x5 < 0 then 0 else (if (S 19) x5.toNatClampNeg = ((-x2) - 1) then 1 else 0))) else (if x5 < 0 then 0 else (if (S 19) x5.toNatClampNeg = ((-x2) - 1) then 1 else 0))) else 1) → W p l e R s m args below meth c H locs 0 0 Q (F0 m 63 ls [.int v63]) := by
          intro v63 ev63
          refine lv_istore_n (lv' := [(3, .int v63), (5, .int x5), (0, .ref ob), (1, .int x1), (2, .int x2), (4, .int x4)]) hx hb dX5_someLost_63 rfl hl (by decide) rfl (fun ls hl => ?_)
          obtain ⟨x4_n, ex4_n⟩ : ∃ y : Int32, y = x4 + 1 := ⟨_, rfl⟩
          refine lv_iinc (v := x4_n) (lv' := [(4, .int x4_n), (3, .int v63), (5, .int x5), (0, .ref ob), (1, .int x1), (2, .int x2)]) hx hb dX5_someLost_64 hl (k := 5) rfl (by rw [ex4_n]; rfl) (by decide) rfl (fun ls hl => ?_)
          refine lv_goto (tgt := 5) hx hb dX5_someLost_67 (by decide) ?_
          exact ih (i + 1) v63 x4_n ls (by omega) (by rw [ex4_n, hx4]; exact nI_1 i) (by rw [ev63, hx3, ex5]; rfl) (lv_sub hl [3, 4, 5, 1, 0] rfl)
        refine lv_if_ne (tgt := 58) hx hb dX5_someLost_25 (by decide) (fun c25 => ?_) (fun c25 => ?_)
        · refine lv_iconst (v := 1) hx hb dX5_someLost_58 (by decide) ?_
          refine lv_goto (tgt := 63) hx hb dX5_someLost_59 (by decide) ?_
          exact J63 _ (by rw [if_neg c25])
        · refine lv_iload hx hb dX5_someLost_28 (lv_at hl 0 rfl) ?_
          refine lv_bipush (v := (-2)) hx hb dX5_someLost_30 (by decide) ?_
          refine lv_icmp_ne (tgt := 39) hx hb dX5_someLost_32 (by decide) (fun c32 => ?_) (fun c32 => ?_)
          · refine lv_iload hx hb dX5_someLost_39 (lv_at hl 0 rfl) ?_
            refine lv_if_lt (tgt := 62) hx hb dX5_someLost_41 (by decide) (fun c41 => ?_) (fun c41 => ?_)
            · refine lv_iconst (v := 0) hx hb dX5_someLost_62 (by decide) ?_
              exact J63 _ (by rw [if_pos c25, if_neg c32, if_pos c41])
            · have hf9 := (hF (4 * e0 + i) (by omega)).resolve_left (by rw [← ex5]; exact c41)
              have hy5 : x5 = nI x5.toNatClampNeg := by rw [ex5]; exact hf9.2
              have hy6 : x5.toNatClampNeg < 2592 := by rw [ex5]; exact hf9.1
              refine lv_aload_n hx hb dX5_someLost_44 rfl (lv_at hl 1 rfl) ?_
              refine mm_get (ci := 5) (C := RX5) (T := TX5) (N := 20) hx hb hts in_X5 hown hK hV i_ob m_ob rfl 19 (by decide) f_59 (fun _ h => h) rfl dX5_someLost_45 ?_
              refine lv_iload hx hb dX5_someLost_48 (lv_at hl 0 rfl) ?_
              refine mm_ialdN (j := x5.toNatClampNeg) hx hb hK hV (hA.i 19 rfl) (show M (ad 19) = .inl (dA 0, 2592, .inl (S 19)) from hA.m 19 rfl) hy5 (by omega) (by decide) dX5_someLost_50 ?_
              refine lv_iload_n hx hb dX5_someLost_51 rfl (lv_at hl 3 rfl) ?_
              refine lv_ineg hx hb dX5_someLost_52 ?_
              refine lv_iconst (v := 1) hx hb dX5_someLost_53 (by decide) ?_
              refine lv_isub hx hb dX5_someLost_54 ?_
              refine lv_icmp_ne (tgt := 62) hx hb dX5_someLost_55 (by decide) (fun c55 => ?_) (fun c55 => ?_)
              · refine lv_iconst (v := 0) hx hb dX5_someLost_62 (by decide) ?_
                exact J63 _ (by rw [if_pos c25, if_neg c32, if_neg c41, if_neg c55])
              · refine lv_iconst (v := 1) hx hb dX5_someLost_58 (by decide) ?_
                refine lv_goto (tgt := 63) hx hb dX5_someLost_59 (by decide) ?_
                exact J63 _ (by rw [if_pos c25, if_neg c32, if_neg c41, if_pos c55])
          · refine lv_iload_n hx hb dX5_someLost_35 rfl (lv_at hl 3 rfl) ?_
            refine lv_if_eq (tgt := 58) hx hb dX5_someLost_36 (by decide) (fun c36 => ?_) (fun c36 => ?_)
            · refine lv_iconst (v := 1) hx hb dX5_someLost_58 (by decide) ?_
              refine lv_goto (tgt := 63) hx hb dX5_someLost_59 (by decide) ?_
              exact J63 _ (by rw [if_pos c25, if_pos c32, if_pos c36])
            · refine lv_iload hx hb dX5_someLost_39 (lv_at hl 0 rfl) ?_
              refine lv_if_lt (tgt := 62) hx hb dX5_someLost_41 (by decide) (fun c41 => ?_) (fun c41 => ?_)
              · refine lv_iconst (v := 0) hx hb dX5_someLost_62 (by decide) ?_
                exact J63 _ (by rw [if_pos c25, if_pos c32, if_neg c36, if_pos c41])
              · have hf9 := (hF (4 * e0 + i) (by omega)).resolve_left (by rw [← ex5]; exact c41)
                have hy5 : x5 = nI x5.toNatClampNeg := by rw [ex5]; exact hf9.2
                have hy6 : x5.toNatClampNeg < 2592 := by rw [ex5]; exact hf9.1
                refine lv_aload_n hx hb dX5_someLost_44 rfl (lv_at hl 1 rfl) ?_
                refine mm_get (ci := 5) (C := RX5) (T := TX5) (N := 20) hx hb hts in_X5 hown hK hV i_ob m_ob rfl 19 (by decide) f_59 (fun _ h => h) rfl dX5_someLost_45 ?_
                refine lv_iload hx hb dX5_someLost_48 (lv_at hl 0 rfl) ?_
                refine mm_ialdN (j := x5.toNatClampNeg) hx hb hK hV (hA.i 19 rfl) (show M (ad 19) = .inl (dA 0, 2592, .inl (S 19)) from hA.m 19 rfl) hy5 (by omega) (by decide) dX5_someLost_50 ?_
                refine lv_iload_n hx hb dX5_someLost_51 rfl (lv_at hl 3 rfl) ?_
                refine lv_ineg hx hb dX5_someLost_52 ?_
                refine lv_iconst (v := 1) hx hb dX5_someLost_53 (by decide) ?_
                refine lv_isub hx hb dX5_someLost_54 ?_
                refine lv_icmp_ne (tgt := 62) hx hb dX5_someLost_55 (by decide) (fun c55 => ?_) (fun c55 => ?_)
                · refine lv_iconst (v := 0) hx hb dX5_someLost_62 (by decide) ?_
                  exact J63 _ (by rw [if_pos c25, if_pos c32, if_neg c36, if_neg c41, if_neg c55])
                · refine lv_iconst (v := 1) hx hb dX5_someLost_58 (by decide) ?_
                  refine lv_goto (tgt := 63) hx hb dX5_someLost_59 (by decide) ?_
                  exact J63 _ (by rw [if_pos c25, if_pos c32, if_neg c36, if_neg c41, if_pos c55])
  exact LP 4 0 x3 x4 ls rfl (by rw [ex4]; rfl) (by rw [ex3]; rfl) (lv_sub hl [2, 3, 4, 1, 0] rfl)

set_option maxHeartbeats 1000000 in
set_option maxRecDepth 100000 in
theorem c_awR (l : Launch) (D : va_G) (dA : Nat → ClassId) {L : List Nat} {M : mm_M} {ob : Nat} {ad : Nat → Nat} {S : Nat → Nat → Int32} {pl qu so : Int32} {e0 : Nat} (x1 : Int32) (i_ob : ob ∈ L) (m_ob : M ob = rO ad pl qu so) (hA : rA dA L M ad S) (hF : rgR (S 18)) (hxe : x1 = nI e0) (he : e0 < 2592) : mm_Cp l D dA yX5_allWon wsX5_allWon 0 [.ref ob, .int x1] L M (awR (S 18) (S 19) e0) := by
  have hA0 := hA
  have m_ob0 := m_ob
  have fR : rF L ad ob M M := rF.rf
  refine mm_enter_i (cc := cX5_allWon) (maxL := 6) (by decide) rfl (Nat.le_of_ble_eq_true rfl) ?_
  intro p e R s m args below meth c A ls H locs Q hR hx hb hml hin hown hts hK hV hl hret
  have hl : lv_has ls 6 [(0, .ref ob), (1, .int x1)] := hl
  have hown : s.vm.findClass RX5 = some m.cls := hown
  have f_56 := hts (.fieldLink RX5 56 "JumpBoardModel" "follow" "[I") (by decide +kernel)
  have in_X5 : ∀ w ∈ wsX50, w ∈ wsX5_allWon := by decide +kernel
  have f_59 := hts (.fieldLink RX5 59 "JumpBoardModel" "known" "[I") (by decide +kernel)
  refine lv_iconst (v := 0) hx hb dX5_allWon_0 (by decide) ?_
  refine lv_topi (fun x2 ex2 => ?_)
  refine lv_istore_n (lv' := [(2, .int x2), (0, .ref ob), (1, .int x1)]) hx hb dX5_allWon_1 rfl hl (by decide) rfl (fun ls hl => ?_)
  refine lv_iconst (v := 1) hx hb dX5_allWon_2 (by decide) ?_
  refine lv_topi (fun x3 ex3 => ?_)
  refine lv_istore_n (lv' := [(3, .int x3), (2, .int x2), (0, .ref ob), (1, .int x1)]) hx hb dX5_allWon_3 rfl hl (by decide) rfl (fun ls hl => ?_)
  refine lv_iconst (v := 0) hx hb dX5_allWon_4 (by decide) ?_
  refine lv_topi (fun x4 ex4 => ?_)
  refine lv_istore (lv' := [(4, .int x4), (3, .int x3), (2, .int x2), (0, .ref ob), (1, .int x1)]) hx hb dX5_allWon_5 hl (by decide) rfl (fun ls hl => ?_)
  have LP : ∀ (k i : Nat) (x2 x3 x4 : Int32) (ls : Array Slot), i + k = 4 → x4 = nI i → x2 = (awL (S 18) (S 19) e0 i).1 → x3 = (awL (S 18) (S 19) e0 i).2 → lv_has ls 6 [(0, .ref ob), (1, .int x1), (2, .int x2), (3, .int x3), (4, .int x4)] → W p l e R s m args below meth c H locs 0 0 Q (F0 m 7 ls []) := by
    intro k
    induction k with
    | zero =>
      intro i x2 x3 x4 ls hik hx4 hx2 hx3 hl
      refine lv_iload hx hb dX5_allWon_7 (lv_at hl 4 rfl) ?_
      refine lv_iconst (v := 4) hx hb dX5_allWon_9 (by decide) ?_
      refine lv_icmp_ge (tgt := 94) hx hb dX5_allWon_10 (by decide) (fun c10 => ?_) (fun c10 => ?_)
      · refine lv_iload_n hx hb dX5_allWon_94 rfl (lv_at hl 3 rfl) ?_
        have J103 : ∀ (v103 : Int32), v103 = (if x3 = 0 then (-1) else x2) → W p l e R s m args below meth c H locs 0 0 Q (F0 m 103 ls [.int v103]) := by
          intro v103 ev103
          exact hret (v := v103) dX5_allWon_103 hV (by decide) (by decide) ⟨by unfold awR; rw [ev103, hx2, hx3, show i = 4 by omega], rfl, rfl⟩
        refine lv_if_eq (tgt := 102) hx hb dX5_allWon_95 (by decide) (fun c95 => ?_) (fun c95 => ?_)
        · refine lv_iconst (v := (-1)) hx hb dX5_allWon_102 (by decide) ?_
          exact J103 _ (by rw [if_pos c95])
        · refine lv_iload_n hx hb dX5_allWon_98 rfl (lv_at hl 2 rfl) ?_
          refine lv_goto (tgt := 103) hx hb dX5_allWon_99 (by decide) ?_
          exact J103 _ (by rw [if_neg c95])
      · exact absurd (by rw [hx4]; exact nI_le (a := 4) (by omega) (by omega)) c10
    | succ k ih =>
      intro i x2 x3 x4 ls hik hx4 hx2 hx3 hl
      refine lv_iload hx hb dX5_allWon_7 (lv_at hl 4 rfl) ?_
      refine lv_iconst (v := 4) hx hb dX5_allWon_9 (by decide) ?_
      refine lv_icmp_ge (tgt := 94) hx hb dX5_allWon_10 (by decide) (fun c10 => ?_) (fun c10 => ?_)
      · exact absurd c10 (by rw [hx4]; exact nI_ge (b := 4) (by omega) (by decide))
      · refine lv_aload_n hx hb dX5_allWon_13 rfl (lv_at hl 0 rfl) ?_
        refine mm_get (ci := 5) (C := RX5) (T := TX5) (N := 20) hx hb hts in_X5 hown hK hV i_ob m_ob rfl 18 (by decide) f_56 (fun _ h => h) rfl dX5_allWon_14 ?_
        refine lv_iconst (v := 4) hx hb dX5_allWon_17 (by decide) ?_
        refine lv_iload_n hx hb dX5_allWon_18 rfl (lv_at hl 1 rfl) ?_
        refine lv_imul hx hb dX5_allWon_19 ?_
        refine lv_iload hx hb dX5_allWon_20 (lv_at hl 4 rfl) ?_
        refine lv_iadd hx hb dX5_allWon_22 ?_
        refine mm_ialdN (j := (4 * e0 + i)) hx hb hK hV (hA.i 18 rfl) (show M (ad 18) = .inl (dA 0, 10368, .inl (S 18)) from hA.m 18 rfl) (ixR (c := 4) rfl hxe hx4) (by omega) (by decide) dX5_allWon_23 ?_
        refine lv_topi (fun x5 ex5 => ?_)
        refine lv_istore (lv' := [(5, .int x5), (0, .ref ob), (1, .int x1), (2, .int x2), (3, .int x3), (4, .int x4)]) hx hb dX5_allWon_24 hl (by decide) rfl (fun ls hl => ?_)
        refine lv_iload hx hb dX5_allWon_26 (lv_at hl 0 rfl) ?_
        refine lv_iconst (v := (-1)) hx hb dX5_allWon_28 (by decide) ?_
        refine lv_icmp_eq (tgt := 88) hx hb dX5_allWon_29 (by decide) (fun c29 => ?_) (fun c29 => ?_)
        · obtain ⟨x4_n, ex4_n⟩ : ∃ y : Int32, y = x4 + 1 := ⟨_, rfl⟩
          refine lv_iinc (v := x4_n) (lv' := [(4, .int x4_n), (5, .int x5), (0, .ref ob), (1, .int x1), (2, .int x2), (3, .int x3)]) hx hb dX5_allWon_88 hl (k := 5) rfl (by rw [ex4_n]; rfl) (by decide) rfl (fun ls hl => ?_)
          refine lv_goto (tgt := 7) hx hb dX5_allWon_91 (by decide) ?_
          exact ih (i + 1) x2 x3 x4_n ls (by omega) (by rw [ex4_n, hx4]; exact nI_1 i) (by rw [awL, if_pos (by rw [← ex5]; exact c29)]; exact hx2) (by rw [awL, if_pos (by rw [← ex5]; exact c29)]; exact hx3) (lv_sub hl [2, 3, 4, 5, 0] rfl)
        · refine lv_iload_n hx hb dX5_allWon_32 rfl (lv_at hl 4 rfl) ?_
          have J56 : ∀ (v56 : Int32), v56 = (if x3 = 0 then 0 else (if x5 < 0 then 0 else (if (S 19) x5.toNatClampNeg ≤ 0 then 0 else 1))) → W p l e R s m args below meth c H locs 0 0 Q (F0 m 56 ls [.int v56]) := by
            intro v56 ev56
            refine lv_istore_n (lv' := [(3, .int v56), (5, .int x5), (0, .ref ob), (1, .int x1), (2, .int x2), (4, .int x4)]) hx hb dX5_allWon_56 rfl hl (by decide) rfl (fun ls hl => ?_)
            refine lv_iload_n hx hb dX5_allWon_57 rfl (lv_at hl 0 rfl) ?_
            have J87 : ∀ (v87 : Int32), v87 = (if v56 = 0 then x2 else (if ((S 19) x5.toNatClampNeg - 1) ≤ x2 then x2 else ((S 19) x5.toNatClampNeg - 1))) → W p l e R s m args below meth c H locs 0 0 Q (F0 m 87 ls [.int v87]) := by
              intro v87 ev87
              refine lv_istore_n (lv' := [(2, .int v87), (3, .int v56), (5, .int x5), (0, .ref ob), (1, .int x1), (4, .int x4)]) hx hb dX5_allWon_87 rfl hl (by decide) rfl (fun ls hl => ?_)
              obtain ⟨x4_n, ex4_n⟩ : ∃ y : Int32, y = x4 + 1 := ⟨_, rfl⟩
              refine lv_iinc (v := x4_n) (lv' := [(4, .int x4_n), (2, .int v87), (3, .int v56), (5, .int x5), (0, .ref ob), (1, .int x1)]) hx hb dX5_allWon_88 hl (k := 5) rfl (by rw [ex4_n]; rfl) (by decide) rfl (fun ls hl => ?_)
              refine lv_goto (tgt := 7) hx hb dX5_allWon_91 (by decide) ?_
              exact ih (i + 1) v87 v56 x4_n ls (by omega) (by rw [ex4_n, hx4]; exact nI_1 i) (by rw [awL, if_neg (by rw [← ex5]; exact c29), ev87, ev56, hx2, hx3, ex5]) (by rw [awL, if_neg (by rw [← ex5]; exact c29), ev56, hx3, ex5]) (lv_sub hl [4, 5, 1, 2, 0] rfl)
            refine lv_if_eq (tgt := 86) hx hb dX5_allWon_58 (by decide) (fun c58 => ?_) (fun c58 => ?_)
            · refine lv_iload_n hx hb dX5_allWon_86 rfl (lv_at hl 4 rfl) ?_
              exact J87 _ (by rw [if_pos c58])
            · have hx5n : ¬ x5 < 0 := fun h => c58 (by rw [ev56, if_pos h, ite_self])
              have hf9 := (hF (4 * e0 + i) (by omega)).resolve_left (by rw [← ex5]; exact hx5n)
              have hy5 : x5 = nI x5.toNatClampNeg := by rw [ex5]; exact hf9.2
              have hy6 : x5.toNatClampNeg < 2592 := by rw [ex5]; exact hf9.1
              refine lv_aload_n hx hb dX5_allWon_61 rfl (lv_at hl 2 rfl) ?_
              refine mm_get (ci := 5) (C := RX5) (T := TX5) (N := 20) hx hb hts in_X5 hown hK hV i_ob m_ob rfl 19 (by decide) f_59 (fun _ h => h) rfl dX5_allWon_62 ?_
              refine lv_iload hx hb dX5_allWon_65 (lv_at hl 1 rfl) ?_
              refine mm_ialdN (j := x5.toNatClampNeg) hx hb hK hV (hA.i 19 rfl) (show M (ad 19) = .inl (dA 0, 2592, .inl (S 19)) from hA.m 19 rfl) hy5 (by omega) (by decide) dX5_allWon_67 ?_
              refine lv_iconst (v := 1) hx hb dX5_allWon_68 (by decide) ?_
              refine lv_isub hx hb dX5_allWon_69 ?_
              refine lv_iload_n hx hb dX5_allWon_70 rfl (lv_at hl 4 rfl) ?_
              refine lv_icmp_le (tgt := 86) hx hb dX5_allWon_71 (by decide) (fun c71 => ?_) (fun c71 => ?_)
              · refine lv_iload_n hx hb dX5_allWon_86 rfl (lv_at hl 4 rfl) ?_
                exact J87 _ (by rw [if_neg c58, if_pos c71])
              · refine lv_aload_n hx hb dX5_allWon_74 rfl (lv_at hl 2 rfl) ?_
                refine mm_get (ci := 5) (C := RX5) (T := TX5) (N := 20) hx hb hts in_X5 hown hK hV i_ob m_ob rfl 19 (by decide) f_59 (fun _ h => h) rfl dX5_allWon_75 ?_
                refine lv_iload hx hb dX5_allWon_78 (lv_at hl 1 rfl) ?_
                refine mm_ialdN (j := x5.toNatClampNeg) hx hb hK hV (hA.i 19 rfl) (show M (ad 19) = .inl (dA 0, 2592, .inl (S 19)) from hA.m 19 rfl) hy5 (by omega) (by decide) dX5_allWon_80 ?_
                refine lv_iconst (v := 1) hx hb dX5_allWon_81 (by decide) ?_
                refine lv_isub hx hb dX5_allWon_82 ?_
                refine lv_goto (tgt := 87) hx hb dX5_allWon_83 (by decide) ?_
                exact J87 _ (by rw [if_neg c58, if_neg c71])
          refine lv_if_eq (tgt := 55) hx hb dX5_allWon_33 (by decide) (fun c33 => ?_) (fun c33 => ?_)
          · refine lv_iconst (v := 0) hx hb dX5_allWon_55 (by decide) ?_
            exact J56 _ (by rw [if_pos c33])
          · refine lv_iload hx hb dX5_allWon_36 (lv_at hl 0 rfl) ?_
            refine lv_if_lt (tgt := 55) hx hb dX5_allWon_38 (by decide) (fun c38 => ?_) (fun c38 => ?_)
            · refine lv_iconst (v := 0) hx hb dX5_allWon_55 (by decide) ?_
              exact J56 _ (by rw [if_neg c33, if_pos c38])
            · have hf9 := (hF (4 * e0 + i) (by omega)).resolve_left (by rw [← ex5]; exact c38)
              have hy5 : x5 = nI x5.toNatClampNeg := by rw [ex5]; exact hf9.2
              have hy6 : x5.toNatClampNeg < 2592 := by rw [ex5]; exact hf9.1
              refine lv_aload_n hx hb dX5_allWon_41 rfl (lv_at hl 1 rfl) ?_
              refine mm_get (ci := 5) (C := RX5) (T := TX5) (N := 20) hx hb hts in_X5 hown hK hV i_ob m_ob rfl 19 (by decide) f_59 (fun _ h => h) rfl dX5_allWon_42 ?_
              refine lv_iload hx hb dX5_allWon_45 (lv_at hl 0 rfl) ?_
              refine mm_ialdN (j := x5.toNatClampNeg) hx hb hK hV (hA.i 19 rfl) (show M (ad 19) = .inl (dA 0, 2592, .inl (S 19)) from hA.m 19 rfl) hy5 (by omega) (by decide) dX5_allWon_47 ?_
              refine lv_if_le (tgt := 55) hx hb dX5_allWon_48 (by decide) (fun c48 => ?_) (fun c48 => ?_)
              · refine lv_iconst (v := 0) hx hb dX5_allWon_55 (by decide) ?_
                exact J56 _ (by rw [if_neg c33, if_neg c38, if_pos c48])
              · refine lv_iconst (v := 1) hx hb dX5_allWon_51 (by decide) ?_
                refine lv_goto (tgt := 56) hx hb dX5_allWon_52 (by decide) ?_
                exact J56 _ (by rw [if_neg c33, if_neg c38, if_neg c48])
  exact LP 4 0 x2 x3 x4 ls rfl (by rw [ex4]; rfl) (by rw [ex2]; rfl) (by rw [ex3]; rfl) (lv_sub hl [3, 4, 2, 1, 0] rfl)

set_option maxHeartbeats 1000000 in
set_option maxRecDepth 100000 in
theorem c_jdR (l : Launch) (D : va_G) (dA : Nat → ClassId) {L : List Nat} {M : mm_M} {ob : Nat} {ad : Nat → Nat} {S : Nat → Nat → Int32} {pl qu so : Int32} {e0 : Nat} (x1 x2 : Int32) (i_ob : ob ∈ L) (m_ob : M ob = rO ad pl qu so) (hA : rA dA L M ad S) (hF : rgR (S 18)) (hxe : x1 = nI e0) (he : e0 < 2592) : mm_Cp l D dA yX5_judge wsX5_judge 1 [.ref ob, .int x1, .int x2] L M (jdR (S 18) (S 19) e0 x2) := by
  have hA0 := hA
  have m_ob0 := m_ob
  have fR : rF L ad ob M M := rF.rf
  refine mm_enter_i (cc := cX5_judge) (maxL := 3) (by decide) rfl (Nat.le_of_ble_eq_true rfl) ?_
  intro p e R s m args below meth c A ls H locs Q hR hx hb hml hin hown hts hK hV hl hret
  have hl : lv_has ls 3 [(0, .ref ob), (1, .int x1), (2, .int x2)] := hl
  have hown : s.vm.findClass RX5 = some m.cls := hown
  refine lv_aload_n hx hb dX5_judge_0 rfl (lv_at hl 0 rfl) ?_
  refine lv_iload_n hx hb dX5_judge_1 rfl (lv_at hl 1 rfl) ?_
  refine lv_iload_n hx hb dX5_judge_2 rfl (lv_at hl 2 rfl) ?_
  refine lv_iconst (v := 1) hx hb dX5_judge_3 (by decide) ?_
  refine lv_isub hx hb dX5_judge_4 ?_
  refine mm_Vp (v := (slR (S 18) (S 19) e0 (x2 - 1) 4)) (ci := 5) (As := [.int x1, .int (x2 - 1)]) (rest := []) ⟨hx, hb, hml, hown, hts⟩ hK hV (c_slR l D dA (e0 := e0) x1 (x2 - 1) i_ob m_ob hA hF hxe he) (cwV 2 hts gX5_judge_X5_someLost rfl rfl rfl (by decide +kernel) (mm_levR hR (by omega) (by decide))) i_ob m_ob rfl rfl hl.1 rfl (Nat.le_of_ble_eq_true rfl) dX5_judge_5 ⟨Nat.zero_le _, Nat.zero_le _⟩ (fun H locs hV => ?_)
  refine lv_if_eq (tgt := 15) hx hb dX5_judge_8 (by decide) (fun c8 => ?_) (fun c8 => ?_)
  · refine lv_aload_n hx hb dX5_judge_15 rfl (lv_at hl 0 rfl) ?_
    refine lv_iload_n hx hb dX5_judge_16 rfl (lv_at hl 1 rfl) ?_
    refine mm_Vp (v := (awR (S 18) (S 19) e0)) (ci := 5) (As := [.int x1]) (rest := []) ⟨hx, hb, hml, hown, hts⟩ hK hV (c_awR l D dA (e0 := e0) x1 i_ob m_ob hA hF hxe he) (cwV 1 hts gX5_judge_X5_allWon rfl rfl rfl (by decide +kernel) (mm_levR hR (by omega) (by decide))) i_ob m_ob rfl rfl hl.1 rfl (Nat.le_of_ble_eq_true rfl) dX5_judge_17 ⟨Nat.zero_le _, Nat.zero_le _⟩ (fun H locs hV => ?_)
    refine lv_iload_n hx hb dX5_judge_20 rfl (lv_at hl 2 rfl) ?_
    refine lv_iconst (v := 1) hx hb dX5_judge_21 (by decide) ?_
    refine lv_isub hx hb dX5_judge_22 ?_
    refine lv_icmp_ne (tgt := 33) hx hb dX5_judge_23 (by decide) (fun c23 => ?_) (fun c23 => ?_)
    · refine lv_iconst (v := 0) hx hb dX5_judge_33 (by decide) ?_
      exact hret (v := 0) dX5_judge_34 hV (by decide) (by decide) ⟨by unfold jdR; rw [if_pos c8, if_neg c23], rfl, rfl⟩
    · refine lv_iload_n hx hb dX5_judge_26 rfl (lv_at hl 2 rfl) ?_
      refine lv_ineg hx hb dX5_judge_27 ?_
      refine lv_iconst (v := 1) hx hb dX5_judge_28 (by decide) ?_
      refine lv_isub hx hb dX5_judge_29 ?_
      refine lv_goto (tgt := 34) hx hb dX5_judge_30 (by decide) ?_
      exact hret (v := ((-x2) - 1)) dX5_judge_34 hV (by decide) (by decide) ⟨by unfold jdR; rw [if_pos c8, if_pos c23], rfl, rfl⟩
  · refine lv_iload_n hx hb dX5_judge_11 rfl (lv_at hl 2 rfl) ?_
    refine lv_iconst (v := 1) hx hb dX5_judge_12 (by decide) ?_
    refine lv_iadd hx hb dX5_judge_13 ?_
    exact hret (v := (x2 + 1)) dX5_judge_14 hV (by decide) (by decide) ⟨by unfold jdR; rw [if_neg c8], rfl, rfl⟩
