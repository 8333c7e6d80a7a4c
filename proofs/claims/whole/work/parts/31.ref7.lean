/-- g, but v at the i places from b on -/
def filG (b : Nat) (v g : Nat → Int32) (i : Nat) : Nat → Int32 := fun q => if b ≤ q ∧ q < b + i then v (q - b) else g q
theorem filG_0 (b : Nat) (v g : Nat → Int32) : filG b v g 0 = g := by funext q; unfold filG; rw [if_neg (by omega)]
theorem filG_s (b : Nat) (v g : Nat → Int32) (i : Nat) : upd (filG b v g i) (b + i) (v i) = filG b v g (i + 1) := by
  funext q
  by_cases hq : q = b + i
  · subst hq; rw [pk_us]; unfold filG; rw [if_pos (by omega), show b + i - b = i by omega]
  · rw [pk_un hq]; unfold filG
    by_cases h : b ≤ q ∧ q < b + i
    · rw [if_pos h, if_pos (by omega)]
    · rw [if_neg h, if_neg (by omega)]
theorem filG_lo {b : Nat} {v g : Nat → Int32} {i q : Nat} (h : q < b) : filG b v g i q = g q := by unfold filG; rw [if_neg (by omega)]
theorem filG_in {b : Nat} {v g : Nat → Int32} {i q : Nat} (h : q < i) : filG b v g i (b + q) = v q := by unfold filG; rw [if_pos (by omega), show b + q - b = q by omega]
theorem filG_hi {b : Nat} {v g : Nat → Int32} {i q : Nat} (h : b + i ≤ q) : filG b v g i q = g q := by unfold filG; rw [if_neg (by omega)]
/-- what stands on square i of the next ply, before the piece is moved -/
def mkV (S : Nat → Nat → Int32) (p : Nat) (key : Int32) (i : Nat) : Int32 := if (if ((key - key / 262144 * 262144) >>> (nI i &&& 31)) &&& 1 = 1 then (1 : Int32) else 0) = 0 then S 0 (18 * p + i) else 0
def mkB (S : Nat → Nat → Int32) (p : Nat) (key : Int32) (f t : Nat) : Nat → Int32 :=
  upd (upd (filG (18 * p + 18) (mkV S p key) (S 0) 18) (18 * p + 18 + f) 0) (18 * p + 18 + t) (if (if rowR (endR key) = crownR (S 1 p) then (1 : Int32) else 0) = 0 then S 0 (18 * p + f) else 2 + 2 * S 1 p)
def makeR (S : Nat → Nat → Int32) (p : Nat) (key : Int32) (f t : Nat) : Nat → Nat → Int32 := va_up (va_up S 0 (mkB S p key f t)) 1 (upd (S 1) (p + 1) (1 - S 1 p))

set_option maxHeartbeats 1000000 in
set_option maxRecDepth 100000 in
theorem c_makeR (l : Launch) (D : va_G) (dA : Nat → ClassId) {L : List Nat} {M : mm_M} {ob : Nat} {ad : Nat → Nat} {S : Nat → Nat → Int32} {pl qu so : Int32} {p0 i0 f0 t0 : Nat} (x1 x2 : Int32) (i_ob : ob ∈ L) (m_ob : M ob = rO ad pl qu so) (hA : rA dA L M ad S) (hp : x1 = nI p0) (hp5 : p0 < 5) (hi0 : x2 = nI i0) (hi80 : i0 < 80) (hkb : begR (S 2 (80 * p0 + i0)) = nI f0) (hf18 : f0 < 18) (hke : endR (S 2 (80 * p0 + i0)) = nI t0) (ht18 : t0 < 18) : mm_Cm l D dA yX5_make wsX5_make 1 [.ref ob, .int x1, .int x2] L M (fun M1 => rA dA L M1 ad (makeR S p0 (S 2 (80 * p0 + i0)) f0 t0) ∧ M1 ob = rO ad pl qu so ∧ rF L ad ob M M1) := by
  have hA0 := hA
  have m_ob0 := m_ob
  have fR : rF L ad ob M M := rF.rf
  refine mm_enter_v (cc := cX5_make) (maxL := 6) (by decide) rfl (Nat.le_of_ble_eq_true rfl) ?_
  intro p e R s m args below meth c A ls H locs Q hR hx hb hml hin hown hts hK hV hl hret
  have hl : lv_has ls 6 [(0, .ref ob), (1, .int x1), (2, .int x2)] := hl
  have hown : s.vm.findClass RX5 = some m.cls := hown
  have f_16 := hts (.fieldLink RX5 16 "JumpBoardModel" "list" "[I") (by decide +kernel)
  have in_X5 : ∀ w ∈ wsX50, w ∈ wsX5_make := by decide +kernel
  have f_7 := hts (.fieldLink RX5 7 "JumpBoardModel" "board" "[I") (by decide +kernel)
  have f_13 := hts (.fieldLink RX5 13 "JumpBoardModel" "mover" "[I") (by decide +kernel)
  refine lv_aload_n hx hb dX5_make_0 rfl (lv_at hl 0 rfl) ?_
  refine mm_get (ci := 5) (C := RX5) (T := TX5) (N := 20) hx hb hts in_X5 hown hK hV i_ob m_ob rfl 2 (by decide) f_16 (fun _ h => h) rfl dX5_make_1 ?_
  refine lv_bipush (v := 80) hx hb dX5_make_4 (by decide) ?_
  refine lv_iload_n hx hb dX5_make_6 rfl (lv_at hl 1 rfl) ?_
  refine lv_imul hx hb dX5_make_7 ?_
  refine lv_iload_n hx hb dX5_make_8 rfl (lv_at hl 2 rfl) ?_
  refine lv_iadd hx hb dX5_make_9 ?_
  refine mm_ialdN (j := (80 * p0 + i0)) hx hb hK hV (hA.i 2 rfl) (show M (ad 2) = .inl (dA 0, 480, .inl (S 2)) from hA.m 2 rfl) (ixR (c := 80) rfl hp hi0) (by omega) (by decide) dX5_make_10 ?_
  refine lv_topi (fun x3 ex3 => ?_)
  refine lv_istore_n (lv' := [(3, .int x3), (0, .ref ob), (1, .int x1), (2, .int x2)]) hx hb dX5_make_11 rfl hl (by decide) rfl (fun ls hl => ?_)
  refine lv_iconst (v := 0) hx hb dX5_make_12 (by decide) ?_
  refine lv_topi (fun x4 ex4 => ?_)
  refine lv_istore (lv' := [(4, .int x4), (3, .int x3), (0, .ref ob), (1, .int x1), (2, .int x2)]) hx hb dX5_make_13 hl (by decide) rfl (fun ls hl => ?_)
  have LP : ∀ (k : Nat) (i : Nat) (x4 : Int32) (S1 : Nat → Nat → Int32) (M1 : mm_M) (H : Heap) (locs : List Loc) (ls : Array Slot), i + k = 18 → x4 = nI i → S1 = va_up S 0 (filG (18 * p0 + 18) (mkV S p0 x3) (S 0) i) → mm_V A D L M1 s H locs → rA dA L M1 ad S1 → M1 ob = rO ad pl qu so → rF L ad ob M M1 → lv_has ls 6 [(0, .ref ob), (1, .int x1), (3, .int x3), (4, .int x4)] → W p l e R s m args below meth c H locs 0 0 Q (F0 m 15 ls []) := by
    intro k
    induction k with
    | zero =>
      intro i x4 S1 M1 H locs ls hik hx4 hS1 hV hA m_ob fR hl
      refine lv_iload hx hb dX5_make_15 (lv_at hl 3 rfl) ?_
      refine lv_bipush (v := 18) hx hb dX5_make_17 (by decide) ?_
      refine lv_icmp_ge (tgt := 84) hx hb dX5_make_19 (by decide) (fun c19 => ?_) (fun c19 => ?_)
      · have hi18 : i = 18 := by omega
        subst hi18
        refine lv_aload_n hx hb dX5_make_84 rfl (lv_at hl 0 rfl) ?_
        refine mm_get (ci := 5) (C := RX5) (T := TX5) (N := 20) hx hb hts in_X5 hown hK hV i_ob m_ob rfl 0 (by decide) f_7 (fun _ h => h) rfl dX5_make_85 ?_
        refine lv_bipush (v := 18) hx hb dX5_make_88 (by decide) ?_
        refine lv_iload_n hx hb dX5_make_90 rfl (lv_at hl 1 rfl) ?_
        refine lv_imul hx hb dX5_make_91 ?_
        refine lv_iload_n hx hb dX5_make_92 rfl (lv_at hl 2 rfl) ?_
        refine mm_Sp (v := (begR x3)) (As := [.int x3]) (rest := [.int (18 * x1), .ref (ad 0)]) ⟨hx, hb, hml, hown, hts⟩ hK hV (c_begR l D dA x3) (va_cwS 1 hts gX5_make_X5_beginning rfl rfl rfl (by decide +kernel) (mm_levR hR (by omega) (by decide))) rfl hl.1 rfl (Nat.le_of_ble_eq_true rfl) dX5_make_93 ⟨Nat.zero_le _, Nat.zero_le _⟩ (fun H locs hV => ?_)
        refine lv_iadd hx hb dX5_make_96 ?_
        refine mm_ialdN (j := (18 * p0 + f0)) hx hb hK hV (hA.i 0 rfl) (show M1 (ad 0) = .inl (dA 0, 108, .inl (S1 0)) from hA.m 0 rfl) (ixR (c := 18) rfl hp (by rw [ex3]; exact hkb)) (by omega) (by decide) dX5_make_97 ?_
        refine lv_topi (fun x4b ex4b => ?_)
        refine lv_istore (lv' := [(4, .int x4b), (0, .ref ob), (1, .int x1), (3, .int x3)]) hx hb dX5_make_98 hl (by decide) rfl (fun ls hl => ?_)
        refine lv_aload_n hx hb dX5_make_100 rfl (lv_at hl 1 rfl) ?_
        refine mm_get (ci := 5) (C := RX5) (T := TX5) (N := 20) hx hb hts in_X5 hown hK hV i_ob m_ob rfl 0 (by decide) f_7 (fun _ h => h) rfl dX5_make_101 ?_
        refine lv_bipush (v := 18) hx hb dX5_make_104 (by decide) ?_
        refine lv_iload_n hx hb dX5_make_106 rfl (lv_at hl 2 rfl) ?_
        refine lv_imul hx hb dX5_make_107 ?_
        refine lv_bipush (v := 18) hx hb dX5_make_108 (by decide) ?_
        refine lv_iadd hx hb dX5_make_110 ?_
        refine lv_iload_n hx hb dX5_make_111 rfl (lv_at hl 3 rfl) ?_
        refine mm_Sp (v := (begR x3)) (As := [.int x3]) (rest := [.int ((18 * x1) + 18), .ref (ad 0)]) ⟨hx, hb, hml, hown, hts⟩ hK hV (c_begR l D dA x3) (va_cwS 1 hts gX5_make_X5_beginning rfl rfl rfl (by decide +kernel) (mm_levR hR (by omega) (by decide))) rfl hl.1 rfl (Nat.le_of_ble_eq_true rfl) dX5_make_112 ⟨Nat.zero_le _, Nat.zero_le _⟩ (fun H locs hV => ?_)
        refine lv_iadd hx hb dX5_make_115 ?_
        refine lv_iconst (v := 0) hx hb dX5_make_116 (by decide) ?_
        refine mm_iastN (j := (18 * p0 + 18 + f0)) (x := 0) hx hb hK hV (hA.i 0 rfl) (show M1 (ad 0) = .inl (dA 0, 108, .inl (S1 0)) from hA.m 0 rfl) (addN (addN (mulN (c := 18) rfl hp) (a := 18) rfl) (by rw [ex3]; exact hkb)) (by omega) (by decide) dX5_make_117 (fun M_1 H locs eM_1 hV => ?_)
        obtain ⟨Sb, eSb⟩ : ∃ z, z = va_up S1 0 (upd (S1 0) (18 * p0 + 18 + f0) 0) := ⟨_, rfl⟩
        have hA : rA dA L M_1 ad Sb := by rw [eSb]; exact hA.up 0 rfl eM_1
        have m_ob : M_1 ob = rO ad pl qu so := (congrFun eM_1 ob).trans ((va_up_ne _ _ (fun h => hA0.nob 0 rfl m_ob0 h)).trans m_ob)
        have fR : rF L ad ob M M_1 := fR.up 0 rfl eM_1
        refine lv_iload_n hx hb dX5_make_118 rfl (lv_at hl 3 rfl) ?_
        refine mm_Sp (v := (endR x3)) (As := [.int x3]) (rest := []) ⟨hx, hb, hml, hown, hts⟩ hK hV (c_endR l D dA x3) (va_cwS 1 hts gX5_make_X5_end rfl rfl rfl (by decide +kernel) (mm_levR hR (by omega) (by decide))) rfl hl.1 rfl (Nat.le_of_ble_eq_true rfl) dX5_make_119 ⟨Nat.zero_le _, Nat.zero_le _⟩ (fun H locs hV => ?_)
        refine mm_Sp (v := (rowR (endR x3))) (As := [.int (endR x3)]) (rest := []) ⟨hx, hb, hml, hown, hts⟩ hK hV (c_rowR l D dA (endR x3)) (va_cwS 1 hts gX5_make_X5_rowOf rfl rfl rfl (by decide +kernel) (mm_levR hR (by omega) (by decide))) rfl hl.1 rfl (Nat.le_of_ble_eq_true rfl) dX5_make_122 ⟨Nat.zero_le _, Nat.zero_le _⟩ (fun H locs hV => ?_)
        refine lv_aload_n hx hb dX5_make_125 rfl (lv_at hl 1 rfl) ?_
        refine mm_get (ci := 5) (C := RX5) (T := TX5) (N := 20) hx hb hts in_X5 hown hK hV i_ob m_ob rfl 1 (by decide) f_13 (fun _ h => h) rfl dX5_make_126 ?_
        refine lv_iload_n hx hb dX5_make_129 rfl (lv_at hl 2 rfl) ?_
        refine mm_ialdN (j := p0) hx hb hK hV (hA.i 1 rfl) (show M_1 (ad 1) = .inl (dA 0, 6, .inl (Sb 1)) from hA.m 1 rfl) hp (by omega) (by decide) dX5_make_130 ?_
        refine mm_Sp (v := (crownR ((Sb 1) p0))) (As := [.int ((Sb 1) p0)]) (rest := [.int (rowR (endR x3))]) ⟨hx, hb, hml, hown, hts⟩ hK hV (c_crownR l D dA ((Sb 1) p0)) (va_cwS 1 hts gX5_make_X5_crowning rfl rfl rfl (by decide +kernel) (mm_levR hR (by omega) (by decide))) rfl hl.1 rfl (Nat.le_of_ble_eq_true rfl) dX5_make_131 ⟨Nat.zero_le _, Nat.zero_le _⟩ (fun H locs hV => ?_)
        have J142 : ∀ (v142 : Int32), v142 = (if rowR (endR x3) = crownR ((Sb 1) p0) then 1 else 0) → W p l e R s m args below meth c H locs 0 0 Q (F0 m 142 ls [.int v142]) := by
          intro v142 ev142
          refine lv_topi (fun x5b ex5b => ?_)
          refine lv_istore (lv' := [(5, .int x5b), (4, .int x4b), (0, .ref ob), (1, .int x1), (3, .int x3)]) hx hb dX5_make_142 hl (by decide) rfl (fun ls hl => ?_)
          refine lv_aload_n hx hb dX5_make_144 rfl (lv_at hl 2 rfl) ?_
          refine mm_get (ci := 5) (C := RX5) (T := TX5) (N := 20) hx hb hts in_X5 hown hK hV i_ob m_ob rfl 0 (by decide) f_7 (fun _ h => h) rfl dX5_make_145 ?_
          refine lv_bipush (v := 18) hx hb dX5_make_148 (by decide) ?_
          refine lv_iload_n hx hb dX5_make_150 rfl (lv_at hl 3 rfl) ?_
          refine lv_imul hx hb dX5_make_151 ?_
          refine lv_bipush (v := 18) hx hb dX5_make_152 (by decide) ?_
          refine lv_iadd hx hb dX5_make_154 ?_
          refine lv_iload_n hx hb dX5_make_155 rfl (lv_at hl 4 rfl) ?_
          refine mm_Sp (v := (endR x3)) (As := [.int x3]) (rest := [.int ((18 * x1) + 18), .ref (ad 0)]) ⟨hx, hb, hml, hown, hts⟩ hK hV (c_endR l D dA x3) (va_cwS 1 hts gX5_make_X5_end rfl rfl rfl (by decide +kernel) (mm_levR hR (by omega) (by decide))) rfl hl.1 rfl (Nat.le_of_ble_eq_true rfl) dX5_make_156 ⟨Nat.zero_le _, Nat.zero_le _⟩ (fun H locs hV => ?_)
          refine lv_iadd hx hb dX5_make_159 ?_
          refine lv_iload hx hb dX5_make_160 (lv_at hl 0 rfl) ?_
          have J180 : ∀ (v180 : Int32), v180 = (if x5b = 0 then x4b else (2 + (2 * (Sb 1) p0))) → W p l e R s m args below meth c H locs 0 0 Q (F0 m 180 ls [.int v180, .int (((18 * x1) + 18) + endR x3), .ref (ad 0)]) := by
            intro v180 ev180
            refine mm_iastN (j := (18 * p0 + 18 + t0)) (x := v180) hx hb hK hV (hA.i 0 rfl) (show M_1 (ad 0) = .inl (dA 0, 108, .inl (Sb 0)) from hA.m 0 rfl) (addN (addN (mulN (c := 18) rfl hp) (a := 18) rfl) (by rw [ex3]; exact hke)) (by omega) (by decide) dX5_make_180 (fun M_2 H locs eM_2 hV => ?_)
            obtain ⟨Sc, eSc⟩ : ∃ z, z = va_up Sb 0 (upd (Sb 0) (18 * p0 + 18 + t0) v180) := ⟨_, rfl⟩
            have hA : rA dA L M_2 ad Sc := by rw [eSc]; exact hA.up 0 rfl eM_2
            have m_ob : M_2 ob = rO ad pl qu so := (congrFun eM_2 ob).trans ((va_up_ne _ _ (fun h => hA0.nob 0 rfl m_ob0 h)).trans m_ob)
            have fR : rF L ad ob M M_2 := fR.up 0 rfl eM_2
            refine lv_aload_n hx hb dX5_make_181 rfl (lv_at hl 2 rfl) ?_
            refine mm_get (ci := 5) (C := RX5) (T := TX5) (N := 20) hx hb hts in_X5 hown hK hV i_ob m_ob rfl 1 (by decide) f_13 (fun _ h => h) rfl dX5_make_182 ?_
            refine lv_iload_n hx hb dX5_make_185 rfl (lv_at hl 3 rfl) ?_
            refine lv_iconst (v := 1) hx hb dX5_make_186 (by decide) ?_
            refine lv_iadd hx hb dX5_make_187 ?_
            refine lv_iconst (v := 1) hx hb dX5_make_188 (by decide) ?_
            refine lv_aload_n hx hb dX5_make_189 rfl (lv_at hl 2 rfl) ?_
            refine mm_get (ci := 5) (C := RX5) (T := TX5) (N := 20) hx hb hts in_X5 hown hK hV i_ob m_ob rfl 1 (by decide) f_13 (fun _ h => h) rfl dX5_make_190 ?_
            refine lv_iload_n hx hb dX5_make_193 rfl (lv_at hl 3 rfl) ?_
            refine mm_ialdN (j := p0) hx hb hK hV (hA.i 1 rfl) (show M_2 (ad 1) = .inl (dA 0, 6, .inl (Sc 1)) from hA.m 1 rfl) hp (by omega) (by decide) dX5_make_194 ?_
            refine lv_isub hx hb dX5_make_195 ?_
            refine lv_topi (fun vd evd => ?_)
            refine mm_iastN (j := (p0 + 1)) (x := vd) hx hb hK hV (hA.i 1 rfl) (show M_2 (ad 1) = .inl (dA 0, 6, .inl (Sc 1)) from hA.m 1 rfl) (addN hp (a := 1) rfl) (by omega) (by decide) dX5_make_196 (fun M_3 H locs eM_3 hV => ?_)
            obtain ⟨Sd, eSd⟩ : ∃ z, z = va_up Sc 1 (upd (Sc 1) (p0 + 1) vd) := ⟨_, rfl⟩
            have hA : rA dA L M_3 ad Sd := by rw [eSd]; exact hA.up 1 rfl eM_3
            have m_ob : M_3 ob = rO ad pl qu so := (congrFun eM_3 ob).trans ((va_up_ne _ _ (fun h => hA0.nob 1 rfl m_ob0 h)).trans m_ob)
            have fR : rF L ad ob M M_3 := fR.up 1 rfl eM_3
            have h10 : S1 1 = S 1 := by rw [hS1, va_up_ne _ _ (by decide)]
            have hb0 : S1 0 = filG (18 * p0 + 18) (mkV S p0 x3) (S 0) 18 := by rw [hS1, va_up_self]
            have hx4b : x4b = S 0 (18 * p0 + f0) := by rw [ex4b, hb0, filG_lo (by omega)]
            have hSb1 : Sb 1 = S 1 := by rw [eSb, va_up_ne _ _ (by decide)]; exact h10
            have hv : v180 = (if (if rowR (endR x3) = crownR (S 1 p0) then (1 : Int32) else 0) = 0 then S 0 (18 * p0 + f0) else 2 + 2 * S 1 p0) := by rw [ev180, ex5b, ev142, hSb1, hx4b]
            have hfin : makeR S p0 x3 f0 t0 = Sd := by
              unfold makeR mkB
              rw [← hv, eSd, evd, show Sc 1 = S 1 by rw [eSc, va_up_ne _ _ (by decide)]; exact hSb1, eSc, eSb, va_up_self, bx_uu, hS1, va_up_self, bx_uu]
            exact hret dX5_make_197 hV (by decide) (by decide) ⟨rfl, by rw [← ex3, hfin]; exact hA, m_ob, fR⟩
          refine lv_if_eq (tgt := 178) hx hb dX5_make_162 (by decide) (fun c162 => ?_) (fun c162 => ?_)
          · refine lv_iload hx hb dX5_make_178 (lv_at hl 1 rfl) ?_
            exact J180 _ (by rw [if_pos c162])
          · refine lv_iconst (v := 2) hx hb dX5_make_165 (by decide) ?_
            refine lv_iconst (v := 2) hx hb dX5_make_166 (by decide) ?_
            refine lv_aload_n hx hb dX5_make_167 rfl (lv_at hl 2 rfl) ?_
            refine mm_get (ci := 5) (C := RX5) (T := TX5) (N := 20) hx hb hts in_X5 hown hK hV i_ob m_ob rfl 1 (by decide) f_13 (fun _ h => h) rfl dX5_make_168 ?_
            refine lv_iload_n hx hb dX5_make_171 rfl (lv_at hl 3 rfl) ?_
            refine mm_ialdN (j := p0) hx hb hK hV (hA.i 1 rfl) (show M_1 (ad 1) = .inl (dA 0, 6, .inl (Sb 1)) from hA.m 1 rfl) hp (by omega) (by decide) dX5_make_172 ?_
            refine lv_imul hx hb dX5_make_173 ?_
            refine lv_iadd hx hb dX5_make_174 ?_
            refine lv_goto (tgt := 180) hx hb dX5_make_175 (by decide) ?_
            exact J180 _ (by rw [if_neg c162])
        refine lv_icmp_ne (tgt := 141) hx hb dX5_make_134 (by decide) (fun c134 => ?_) (fun c134 => ?_)
        · refine lv_iconst (v := 0) hx hb dX5_make_141 (by decide) ?_
          exact J142 _ (by rw [if_neg c134])
        · refine lv_iconst (v := 1) hx hb dX5_make_137 (by decide) ?_
          refine lv_goto (tgt := 142) hx hb dX5_make_138 (by decide) ?_
          exact J142 _ (by rw [if_pos c134])
      · exact absurd (by rw [hx4]; exact nI_le (a := 18) (by omega) (by omega)) c19
    | succ k ih =>
      intro i x4 S1 M1 H locs ls hik hx4 hS1 hV hA m_ob fR hl
      refine lv_iload hx hb dX5_make_15 (lv_at hl 3 rfl) ?_
      refine lv_bipush (v := 18) hx hb dX5_make_17 (by decide) ?_
      refine lv_icmp_ge (tgt := 84) hx hb dX5_make_19 (by decide) (fun c19 => ?_) (fun c19 => ?_)
      · exact absurd c19 (by rw [hx4]; exact nI_ge (b := 18) (by omega) (by decide))
      · refine lv_iload_n hx hb dX5_make_22 rfl (lv_at hl 2 rfl) ?_
        refine lv_ldc hx hb hown (hts (.constant RX5 77 (262144)) (by decide +kernel)) dX5_make_23 ?_
        refine lv_irem hx hb dX5_make_25 (by decide) ?_
        refine lv_iload hx hb dX5_make_26 (lv_at hl 3 rfl) ?_
        refine lv_ishr hx hb dX5_make_28 ?_
        refine lv_iconst (v := 1) hx hb dX5_make_29 (by decide) ?_
        refine lv_iand hx hb dX5_make_30 ?_
        refine lv_iconst (v := 1) hx hb dX5_make_31 (by decide) ?_
        have J40 : ∀ (v40 : Int32), v40 = (if (((x3 - x3 / 262144 * 262144) >>> (x4 &&& 31)) &&& 1) = 1 then 1 else 0) → W p l e R s m args below meth c H locs 0 0 Q (F0 m 40 ls [.int v40]) := by
          intro v40 ev40
          refine lv_topi (fun x5 ex5 => ?_)
          refine lv_istore (lv' := [(5, .int x5), (0, .ref ob), (1, .int x1), (3, .int x3), (4, .int x4)]) hx hb dX5_make_40 hl (by decide) rfl (fun ls hl => ?_)
          refine lv_aload_n hx hb dX5_make_42 rfl (lv_at hl 1 rfl) ?_
          refine mm_get (ci := 5) (C := RX5) (T := TX5) (N := 20) hx hb hts in_X5 hown hK hV i_ob m_ob rfl 0 (by decide) f_7 (fun _ h => h) rfl dX5_make_43 ?_
          refine lv_bipush (v := 18) hx hb dX5_make_46 (by decide) ?_
          refine lv_iload_n hx hb dX5_make_48 rfl (lv_at hl 2 rfl) ?_
          refine lv_imul hx hb dX5_make_49 ?_
          refine lv_bipush (v := 18) hx hb dX5_make_50 (by decide) ?_
          refine lv_iadd hx hb dX5_make_52 ?_
          refine lv_iload hx hb dX5_make_53 (lv_at hl 4 rfl) ?_
          refine lv_iadd hx hb dX5_make_55 ?_
          refine lv_iload hx hb dX5_make_56 (lv_at hl 0 rfl) ?_
          have J77 : ∀ (v77 : Int32), v77 = (if x5 = 0 then ((S1 0) (18 * p0 + i)) else 0) → W p l e R s m args below meth c H locs 0 0 Q (F0 m 77 ls [.int v77, .int (((18 * x1) + 18) + x4), .ref (ad 0)]) := by
            intro v77 ev77
            refine mm_iastN (j := (18 * p0 + 18 + i)) (x := v77) hx hb hK hV (hA.i 0 rfl) (show M1 (ad 0) = .inl (dA 0, 108, .inl (S1 0)) from hA.m 0 rfl) (addN (addN (mulN (c := 18) rfl hp) (a := 18) rfl) hx4) (by omega) (by decide) dX5_make_77 (fun M_4 H locs eM_4 hV => ?_)
            obtain ⟨Sa, eSa⟩ : ∃ z, z = va_up S1 0 (upd (S1 0) (18 * p0 + 18 + i) v77) := ⟨_, rfl⟩
            have hA : rA dA L M_4 ad Sa := by rw [eSa]; exact hA.up 0 rfl eM_4
            have m_ob : M_4 ob = rO ad pl qu so := (congrFun eM_4 ob).trans ((va_up_ne _ _ (fun h => hA0.nob 0 rfl m_ob0 h)).trans m_ob)
            have fR : rF L ad ob M M_4 := fR.up 0 rfl eM_4
            obtain ⟨x4_n, ex4_n⟩ : ∃ y : Int32, y = x4 + 1 := ⟨_, rfl⟩
            refine lv_iinc (v := x4_n) (lv' := [(4, .int x4_n), (5, .int x5), (0, .ref ob), (1, .int x1), (3, .int x3)]) hx hb dX5_make_78 hl (k := 4) rfl (by rw [ex4_n]; rfl) (by decide) rfl (fun ls hl => ?_)
            refine lv_goto (tgt := 15) hx hb dX5_make_81 (by decide) ?_
            have hv : v77 = mkV S p0 x3 i := by rw [ev77, ex5, ev40, hS1, va_up_self, filG_lo (by omega), hx4]; rfl
            exact ih (i + 1) x4_n Sa M_4 _ _ ls (by omega) (by rw [ex4_n, hx4]; exact nI_1 i) (by rw [eSa, hv, hS1, va_up_self, bx_uu, filG_s]) hV hA m_ob fR (lv_sub hl [2, 3, 4, 0] rfl)
          refine lv_if_eq (tgt := 65) hx hb dX5_make_58 (by decide) (fun c58 => ?_) (fun c58 => ?_)
          · refine lv_aload_n hx hb dX5_make_65 rfl (lv_at hl 1 rfl) ?_
            refine mm_get (ci := 5) (C := RX5) (T := TX5) (N := 20) hx hb hts in_X5 hown hK hV i_ob m_ob rfl 0 (by decide) f_7 (fun _ h => h) rfl dX5_make_66 ?_
            refine lv_bipush (v := 18) hx hb dX5_make_69 (by decide) ?_
            refine lv_iload_n hx hb dX5_make_71 rfl (lv_at hl 2 rfl) ?_
            refine lv_imul hx hb dX5_make_72 ?_
            refine lv_iload hx hb dX5_make_73 (lv_at hl 4 rfl) ?_
            refine lv_iadd hx hb dX5_make_75 ?_
            refine mm_ialdN (j := (18 * p0 + i)) hx hb hK hV (hA.i 0 rfl) (show M1 (ad 0) = .inl (dA 0, 108, .inl (S1 0)) from hA.m 0 rfl) (ixR (c := 18) rfl hp hx4) (by omega) (by decide) dX5_make_76 ?_
            exact J77 _ (by rw [if_pos c58])
          · refine lv_iconst (v := 0) hx hb dX5_make_61 (by decide) ?_
            refine lv_goto (tgt := 77) hx hb dX5_make_62 (by decide) ?_
            exact J77 _ (by rw [if_neg c58])
        refine lv_icmp_ne (tgt := 39) hx hb dX5_make_32 (by decide) (fun c32 => ?_) (fun c32 => ?_)
        · refine lv_iconst (v := 0) hx hb dX5_make_39 (by decide) ?_
          exact J40 _ (by rw [if_neg c32])
        · refine lv_iconst (v := 1) hx hb dX5_make_35 (by decide) ?_
          refine lv_goto (tgt := 40) hx hb dX5_make_36 (by decide) ?_
          exact J40 _ (by rw [if_pos c32])
  exact LP 18 0 x4 S M H locs ls rfl (by rw [ex4]; rfl) (by rw [filG_0]; exact (up_id rfl).symm) hV hA m_ob fR (lv_sub hl [2, 3, 1, 0] rfl)
