def enL (S : Nat → Nat → Int32) (p : Nat) : Nat → Int32 × Int32 × Int32
  | 0 => (-1, -1, 0)
  | i + 1 => (if sideR (S 0 (18 * p + i)) = S 1 p then nI i else (enL S p i).1, if sideR (S 0 (18 * p + i)) = 1 - S 1 p then nI i else (enL S p i).2.1, if sideR (S 0 (18 * p + i)) < 0 then (enL S p i).2.2 else (enL S p i).2.2 + 1)
theorem enL_rg (S : Nat → Nat → Int32) (p : Nat) : ∀ i, i ≤ 18 → ((enL S p i).1 < 0 ∨ ((enL S p i).1.toNatClampNeg < 18 ∧ (enL S p i).1 = nI (enL S p i).1.toNatClampNeg)) ∧ ((enL S p i).2.1 < 0 ∨ ((enL S p i).2.1.toNatClampNeg < 18 ∧ (enL S p i).2.1 = nI (enL S p i).2.1.toNatClampNeg))
  | 0, _ => ⟨Or.inl (show (-1 : Int32) < 0 by decide), Or.inl (show (-1 : Int32) < 0 by decide)⟩
  | i + 1, hi => by
    have h := enL_rg S p i (by omega)
    have hn : (nI i).toNatClampNeg = i := nI_clamp (by omega)
    have e1 : (enL S p (i + 1)).1 = if sideR (S 0 (18 * p + i)) = S 1 p then nI i else (enL S p i).1 := rfl
    have e2 : (enL S p (i + 1)).2.1 = if sideR (S 0 (18 * p + i)) = 1 - S 1 p then nI i else (enL S p i).2.1 := rfl
    rw [e1, e2]
    refine ⟨?_, ?_⟩
    · by_cases hc : sideR (S 0 (18 * p + i)) = S 1 p
      · rw [if_pos hc]; exact Or.inr ⟨by rw [hn]; omega, by rw [hn]⟩
      · rw [if_neg hc]; exact h.1
    · by_cases hc : sideR (S 0 (18 * p + i)) = 1 - S 1 p
      · rw [if_pos hc]; exact Or.inr ⟨by rw [hn]; omega, by rw [hn]⟩
      · rw [if_neg hc]; exact h.2
def enR (S : Nat → Nat → Int32) (p : Nat) : Int32 := if (enL S p 18).2.2 = 2 then (if (enL S p 18).1 < 0 then -1 else (if 0 ≤ (enL S p 18).2.1 then codeR (S 1 p) (kingR (S 0 (18 * p + (enL S p 18).1.toNatClampNeg))) (enL S p 18).1 (kingR (S 0 (18 * p + (enL S p 18).2.1.toNatClampNeg))) (enL S p 18).2.1 else -1)) else -1
def mtL (S : Nat → Nat → Int32) (p : Nat) : Nat → Int32
  | 0 => 0
  | i + 1 => if sideR (S 0 (18 * p + i)) = S 1 p then mtL S p i + (if S 0 (18 * p + i) = 0 then 0 else (if kingR (S 0 (18 * p + i)) = 0 then 2 else 3)) else mtL S p i - (if S 0 (18 * p + i) = 0 then 0 else (if kingR (S 0 (18 * p + i)) = 0 then 2 else 3))
def vdV (k : Int32) : Int32 := if k = -1 then -100 else (if k ≤ 0 then (if 0 ≤ k then 0 else k + 1) else k - 1)
def aoV (k : Int32) : Int32 := if k ≤ 0 then (if 0 ≤ k then 0 else -k - 1001) else 1001 - k
/-- what is asked of the tables and of the sums: to be shown apart -/
def EndSem (WF : Ps → Prop) (KT : Nat → Int32) : Prop := ∀ (S : Nat → Nat → Int32) (p : Nat) (P : Ps), p < 6 → rowOK S p P → WF P → (oneP P = 0 → enR S p < 0) ∧ (¬ oneP P = 0 → ∃ e, enR S p = nI e ∧ e < 2592 ∧ aoV (KT e) = wgE P ∧ vdV (KT e) = VT (numF P).toNatClampNeg)
def MatSem (WF : Ps → Prop) : Prop := ∀ (S : Nat → Nat → Int32) (p : Nat) (P : Ps), rowOK S p P → WF P → mtL S p 18 = balP P
def aoR (d : Nat) (P : Ps) : Int32 := if oneP P = 0 then (if mvN P = 0 then -1000 else (if d = 0 then balP P else -9999)) else wgE P
def verdVR (P : Ps) : Int32 := if oneP P = 0 then -2000 else VT (numF P).toNatClampNeg

set_option maxHeartbeats 1000000 in
set_option maxRecDepth 100000 in
theorem c_enR (l : Launch) (D : va_G) (dA : Nat → ClassId) {L : List Nat} {M : mm_M} {ob : Nat} {ad : Nat → Nat} {S : Nat → Nat → Int32} {pl qu so : Int32} {p0 : Nat} (x1 : Int32) (i_ob : ob ∈ L) (m_ob : M ob = rO ad pl qu so) (hA : rA dA L M ad S) (hp : x1 = nI p0) (hp6 : p0 < 6) : mm_Cp l D dA yX5_ending wsX5_ending 1 [.ref ob, .int x1] L M (enR S p0) := by
  have hA0 := hA
  have m_ob0 := m_ob
  have fR : rF L ad ob M M := rF.rf
  refine mm_enter_i (cc := cX5_ending) (maxL := 7) (by decide) rfl (Nat.le_of_ble_eq_true rfl) ?_
  intro p e R s m args below meth c A ls H locs Q hR hx hb hml hin hown hts hK hV hl hret
  have hl : lv_has ls 7 [(0, .ref ob), (1, .int x1)] := hl
  have hown : s.vm.findClass RX5 = some m.cls := hown
  have f_13 := hts (.fieldLink RX5 13 "JumpBoardModel" "mover" "[I") (by decide +kernel)
  have in_X5 : ∀ w ∈ wsX50, w ∈ wsX5_ending := by decide +kernel
  have f_7 := hts (.fieldLink RX5 7 "JumpBoardModel" "board" "[I") (by decide +kernel)
  refine lv_iconst (v := (-1)) hx hb dX5_ending_0 (by decide) ?_
  refine lv_topi (fun x2 ex2 => ?_)
  refine lv_istore_n (lv' := [(2, .int x2), (0, .ref ob), (1, .int x1)]) hx hb dX5_ending_1 rfl hl (by decide) rfl (fun ls hl => ?_)
  refine lv_iconst (v := (-1)) hx hb dX5_ending_2 (by decide) ?_
  refine lv_topi (fun x3 ex3 => ?_)
  refine lv_istore_n (lv' := [(3, .int x3), (2, .int x2), (0, .ref ob), (1, .int x1)]) hx hb dX5_ending_3 rfl hl (by decide) rfl (fun ls hl => ?_)
  refine lv_iconst (v := 0) hx hb dX5_ending_4 (by decide) ?_
  refine lv_topi (fun x4 ex4 => ?_)
  refine lv_istore (lv' := [(4, .int x4), (3, .int x3), (2, .int x2), (0, .ref ob), (1, .int x1)]) hx hb dX5_ending_5 hl (by decide) rfl (fun ls hl => ?_)
  refine lv_iconst (v := 0) hx hb dX5_ending_7 (by decide) ?_
  refine lv_topi (fun x5 ex5 => ?_)
  refine lv_istore (lv' := [(5, .int x5), (4, .int x4), (3, .int x3), (2, .int x2), (0, .ref ob), (1, .int x1)]) hx hb dX5_ending_8 hl (by decide) rfl (fun ls hl => ?_)
  have LP : ∀ (k : Nat) (i : Nat) (x2 x3 x4 x5 : Int32) (H : Heap) (locs : List Loc) (ls : Array Slot), i + k = 18 → x5 = nI i → x2 = (enL S p0 i).1 → x3 = (enL S p0 i).2.1 → x4 = (enL S p0 i).2.2 → mm_V A D L M s H locs → lv_has ls 7 [(0, .ref ob), (1, .int x1), (2, .int x2), (3, .int x3), (4, .int x4), (5, .int x5)] → W p l e R s m args below meth c H locs 0 0 Q (F0 m 10 ls []) := by
    intro k
    induction k with
    | zero =>
      intro i x2 x3 x4 x5 H locs ls hik hx5 hx2 hx3 hx4 hV hl
      refine lv_iload hx hb dX5_ending_10 (lv_at hl 5 rfl) ?_
      refine lv_bipush (v := 18) hx hb dX5_ending_12 (by decide) ?_
      refine lv_icmp_ge (tgt := 94) hx hb dX5_ending_14 (by decide) (fun c14 => ?_) (fun c14 => ?_)
      · have hi18 : i = 18 := by omega
        subst hi18
        have hrg := enL_rg S p0 18 (Nat.le_refl _)
        rw [← hx2, ← hx3] at hrg
        refine lv_iload hx hb dX5_ending_94 (lv_at hl 4 rfl) ?_
        refine lv_iconst (v := 2) hx hb dX5_ending_96 (by decide) ?_
        refine lv_icmp_ne (tgt := 108) hx hb dX5_ending_97 (by decide) (fun c97 => ?_) (fun c97 => ?_)
        · refine lv_iconst (v := (-1)) hx hb dX5_ending_108 (by decide) ?_
          exact hret (v := (-1)) dX5_ending_109 hV (by decide) (by decide) ⟨by unfold enR; rw [if_neg (by rw [← hx4]; exact c97)], rfl, rfl⟩
        · refine lv_iload_n hx hb dX5_ending_100 rfl (lv_at hl 2 rfl) ?_
          refine lv_if_lt (tgt := 108) hx hb dX5_ending_101 (by decide) (fun c101 => ?_) (fun c101 => ?_)
          · refine lv_iconst (v := (-1)) hx hb dX5_ending_108 (by decide) ?_
            exact hret (v := (-1)) dX5_ending_109 hV (by decide) (by decide) ⟨by unfold enR; rw [if_pos (by rw [← hx4]; exact c97), if_pos (by rw [← hx2]; exact c101)], rfl, rfl⟩
          · refine lv_iload_n hx hb dX5_ending_104 rfl (lv_at hl 3 rfl) ?_
            refine lv_if_ge (tgt := 110) hx hb dX5_ending_105 (by decide) (fun c105 => ?_) (fun c105 => ?_)
            · have hm2 := (hrg.1.resolve_left c101).2
              have hm3 := (hrg.2.resolve_left (Int32.not_lt.mpr c105)).2
              have hm4 := (hrg.1.resolve_left c101).1
              have hm5 := (hrg.2.resolve_left (Int32.not_lt.mpr c105)).1
              refine lv_aload_n hx hb dX5_ending_110 rfl (lv_at hl 0 rfl) ?_
              refine mm_get (ci := 5) (C := RX5) (T := TX5) (N := 20) hx hb hts in_X5 hown hK hV i_ob m_ob rfl 1 (by decide) f_13 (fun _ h => h) rfl dX5_ending_111 ?_
              refine lv_iload_n hx hb dX5_ending_114 rfl (lv_at hl 1 rfl) ?_
              refine mm_ialdN (j := p0) hx hb hK hV (hA.i 1 rfl) (show M (ad 1) = .inl (dA 0, 6, .inl (S 1)) from hA.m 1 rfl) hp (by omega) (by decide) dX5_ending_115 ?_
              refine lv_aload_n hx hb dX5_ending_116 rfl (lv_at hl 0 rfl) ?_
              refine mm_get (ci := 5) (C := RX5) (T := TX5) (N := 20) hx hb hts in_X5 hown hK hV i_ob m_ob rfl 0 (by decide) f_7 (fun _ h => h) rfl dX5_ending_117 ?_
              refine lv_bipush (v := 18) hx hb dX5_ending_120 (by decide) ?_
              refine lv_iload_n hx hb dX5_ending_122 rfl (lv_at hl 1 rfl) ?_
              refine lv_imul hx hb dX5_ending_123 ?_
              refine lv_iload_n hx hb dX5_ending_124 rfl (lv_at hl 2 rfl) ?_
              refine lv_iadd hx hb dX5_ending_125 ?_
              refine mm_ialdN (j := (18 * p0 + x2.toNatClampNeg)) hx hb hK hV (hA.i 0 rfl) (show M (ad 0) = .inl (dA 0, 108, .inl (S 0)) from hA.m 0 rfl) (ixR (c := 18) rfl hp hm2) (by omega) (by decide) dX5_ending_126 ?_
              refine mm_Sp (v := (kingR ((S 0) (18 * p0 + x2.toNatClampNeg)))) (As := [.int ((S 0) (18 * p0 + x2.toNatClampNeg))]) (rest := [.int ((S 1) p0)]) ⟨hx, hb, hml, hown, hts⟩ hK hV (c_kingR l D dA ((S 0) (18 * p0 + x2.toNatClampNeg))) (va_cwS 1 hts gX5_ending_X5_isKing rfl rfl rfl (by decide +kernel) (mm_levR hR (by omega) (by decide))) rfl hl.1 rfl (Nat.le_of_ble_eq_true rfl) dX5_ending_127 ⟨Nat.zero_le _, Nat.zero_le _⟩ (fun H locs hV => ?_)
              refine lv_iload_n hx hb dX5_ending_130 rfl (lv_at hl 2 rfl) ?_
              refine lv_aload_n hx hb dX5_ending_131 rfl (lv_at hl 0 rfl) ?_
              refine mm_get (ci := 5) (C := RX5) (T := TX5) (N := 20) hx hb hts in_X5 hown hK hV i_ob m_ob rfl 0 (by decide) f_7 (fun _ h => h) rfl dX5_ending_132 ?_
              refine lv_bipush (v := 18) hx hb dX5_ending_135 (by decide) ?_
              refine lv_iload_n hx hb dX5_ending_137 rfl (lv_at hl 1 rfl) ?_
              refine lv_imul hx hb dX5_ending_138 ?_
              refine lv_iload_n hx hb dX5_ending_139 rfl (lv_at hl 3 rfl) ?_
              refine lv_iadd hx hb dX5_ending_140 ?_
              refine mm_ialdN (j := (18 * p0 + x3.toNatClampNeg)) hx hb hK hV (hA.i 0 rfl) (show M (ad 0) = .inl (dA 0, 108, .inl (S 0)) from hA.m 0 rfl) (ixR (c := 18) rfl hp hm3) (by omega) (by decide) dX5_ending_141 ?_
              refine mm_Sp (v := (kingR ((S 0) (18 * p0 + x3.toNatClampNeg)))) (As := [.int ((S 0) (18 * p0 + x3.toNatClampNeg))]) (rest := [.int x2, .int (kingR ((S 0) (18 * p0 + x2.toNatClampNeg))), .int ((S 1) p0)]) ⟨hx, hb, hml, hown, hts⟩ hK hV (c_kingR l D dA ((S 0) (18 * p0 + x3.toNatClampNeg))) (va_cwS 1 hts gX5_ending_X5_isKing rfl rfl rfl (by decide +kernel) (mm_levR hR (by omega) (by decide))) rfl hl.1 rfl (Nat.le_of_ble_eq_true rfl) dX5_ending_142 ⟨Nat.zero_le _, Nat.zero_le _⟩ (fun H locs hV => ?_)
              refine lv_iload_n hx hb dX5_ending_145 rfl (lv_at hl 3 rfl) ?_
              refine mm_Sp (v := (codeR ((S 1) p0) (kingR ((S 0) (18 * p0 + x2.toNatClampNeg))) x2 (kingR ((S 0) (18 * p0 + x3.toNatClampNeg))) x3)) (As := [.int ((S 1) p0), .int (kingR ((S 0) (18 * p0 + x2.toNatClampNeg))), .int x2, .int (kingR ((S 0) (18 * p0 + x3.toNatClampNeg))), .int x3]) (rest := []) ⟨hx, hb, hml, hown, hts⟩ hK hV (c_codeR l D dA ((S 1) p0) (kingR ((S 0) (18 * p0 + x2.toNatClampNeg))) x2 (kingR ((S 0) (18 * p0 + x3.toNatClampNeg))) x3) (va_cwS 5 hts gX5_ending_X5_code rfl rfl rfl (by decide +kernel) (mm_levR hR (by omega) (by decide))) rfl hl.1 rfl (Nat.le_of_ble_eq_true rfl) dX5_ending_146 ⟨Nat.zero_le _, Nat.zero_le _⟩ (fun H locs hV => ?_)
              exact hret (v := codeR ((S 1) p0) (kingR ((S 0) (18 * p0 + x2.toNatClampNeg))) x2 (kingR ((S 0) (18 * p0 + x3.toNatClampNeg))) x3) dX5_ending_149 hV (by decide) (by decide) ⟨by unfold enR; rw [if_pos (by rw [← hx4]; exact c97), if_neg (by rw [← hx2]; exact c101), if_pos (by rw [← hx3]; exact c105), ← hx2, ← hx3], rfl, rfl⟩
            · refine lv_iconst (v := (-1)) hx hb dX5_ending_108 (by decide) ?_
              exact hret (v := (-1)) dX5_ending_109 hV (by decide) (by decide) ⟨by unfold enR; rw [if_pos (by rw [← hx4]; exact c97), if_neg (by rw [← hx2]; exact c101), if_neg (by rw [← hx3]; exact c105)], rfl, rfl⟩
      · exact absurd (by rw [hx5]; exact nI_le (a := 18) (by omega) (by omega)) c14
    | succ k ih =>
      intro i x2 x3 x4 x5 H locs ls hik hx5 hx2 hx3 hx4 hV hl
      refine lv_iload hx hb dX5_ending_10 (lv_at hl 5 rfl) ?_
      refine lv_bipush (v := 18) hx hb dX5_ending_12 (by decide) ?_
      refine lv_icmp_ge (tgt := 94) hx hb dX5_ending_14 (by decide) (fun c14 => ?_) (fun c14 => ?_)
      · exact absurd c14 (by rw [hx5]; exact nI_ge (b := 18) (by omega) (by decide))
      · refine lv_aload_n hx hb dX5_ending_17 rfl (lv_at hl 0 rfl) ?_
        refine mm_get (ci := 5) (C := RX5) (T := TX5) (N := 20) hx hb hts in_X5 hown hK hV i_ob m_ob rfl 0 (by decide) f_7 (fun _ h => h) rfl dX5_ending_18 ?_
        refine lv_bipush (v := 18) hx hb dX5_ending_21 (by decide) ?_
        refine lv_iload_n hx hb dX5_ending_23 rfl (lv_at hl 1 rfl) ?_
        refine lv_imul hx hb dX5_ending_24 ?_
        refine lv_iload hx hb dX5_ending_25 (lv_at hl 5 rfl) ?_
        refine lv_iadd hx hb dX5_ending_27 ?_
        refine mm_ialdN (j := (18 * p0 + i)) hx hb hK hV (hA.i 0 rfl) (show M (ad 0) = .inl (dA 0, 108, .inl (S 0)) from hA.m 0 rfl) (ixR (c := 18) rfl hp hx5) (by omega) (by decide) dX5_ending_28 ?_
        refine mm_Sp (v := (sideR ((S 0) (18 * p0 + i)))) (As := [.int ((S 0) (18 * p0 + i))]) (rest := []) ⟨hx, hb, hml, hown, hts⟩ hK hV (c_sideR l D dA ((S 0) (18 * p0 + i))) (va_cwS 1 hts gX5_ending_X5_sideOf rfl rfl rfl (by decide +kernel) (mm_levR hR (by omega) (by decide))) rfl hl.1 rfl (Nat.le_of_ble_eq_true rfl) dX5_ending_29 ⟨Nat.zero_le _, Nat.zero_le _⟩ (fun H locs hV => ?_)
        refine lv_topi (fun x6 ex6 => ?_)
        refine lv_istore (lv' := [(6, .int x6), (0, .ref ob), (1, .int x1), (2, .int x2), (3, .int x3), (4, .int x4), (5, .int x5)]) hx hb dX5_ending_32 hl (by decide) rfl (fun ls hl => ?_)
        refine lv_iload hx hb dX5_ending_34 (lv_at hl 0 rfl) ?_
        have J48 : ∀ (v48 : Int32), v48 = (if x6 < 0 then x4 else (x4 + 1)) → W p l e R s m args below meth c H locs 0 0 Q (F0 m 48 ls [.int v48]) := by
          intro v48 ev48
          refine lv_istore (lv' := [(4, .int v48), (6, .int x6), (0, .ref ob), (1, .int x1), (2, .int x2), (3, .int x3), (5, .int x5)]) hx hb dX5_ending_48 hl (by decide) rfl (fun ls hl => ?_)
          refine lv_iload hx hb dX5_ending_50 (lv_at hl 1 rfl) ?_
          refine lv_aload_n hx hb dX5_ending_52 rfl (lv_at hl 2 rfl) ?_
          refine mm_get (ci := 5) (C := RX5) (T := TX5) (N := 20) hx hb hts in_X5 hown hK hV i_ob m_ob rfl 1 (by decide) f_13 (fun _ h => h) rfl dX5_ending_53 ?_
          refine lv_iload_n hx hb dX5_ending_56 rfl (lv_at hl 3 rfl) ?_
          refine mm_ialdN (j := p0) hx hb hK hV (hA.i 1 rfl) (show M (ad 1) = .inl (dA 0, 6, .inl (S 1)) from hA.m 1 rfl) hp (by omega) (by decide) dX5_ending_57 ?_
          have J67 : ∀ (v67 : Int32), v67 = (if x6 = (S 1) p0 then x5 else x2) → W p l e R s m args below meth c H locs 0 0 Q (F0 m 67 ls [.int v67]) := by
            intro v67 ev67
            refine lv_istore_n (lv' := [(2, .int v67), (4, .int v48), (6, .int x6), (0, .ref ob), (1, .int x1), (3, .int x3), (5, .int x5)]) hx hb dX5_ending_67 rfl hl (by decide) rfl (fun ls hl => ?_)
            refine lv_iload hx hb dX5_ending_68 (lv_at hl 2 rfl) ?_
            refine lv_iconst (v := 1) hx hb dX5_ending_70 (by decide) ?_
            refine lv_aload_n hx hb dX5_ending_71 rfl (lv_at hl 3 rfl) ?_
            refine mm_get (ci := 5) (C := RX5) (T := TX5) (N := 20) hx hb hts in_X5 hown hK hV i_ob m_ob rfl 1 (by decide) f_13 (fun _ h => h) rfl dX5_ending_72 ?_
            refine lv_iload_n hx hb dX5_ending_75 rfl (lv_at hl 4 rfl) ?_
            refine mm_ialdN (j := p0) hx hb hK hV (hA.i 1 rfl) (show M (ad 1) = .inl (dA 0, 6, .inl (S 1)) from hA.m 1 rfl) hp (by omega) (by decide) dX5_ending_76 ?_
            refine lv_isub hx hb dX5_ending_77 ?_
            have J87 : ∀ (v87 : Int32), v87 = (if x6 = (1 - (S 1) p0) then x5 else x3) → W p l e R s m args below meth c H locs 0 0 Q (F0 m 87 ls [.int v87]) := by
              intro v87 ev87
              refine lv_istore_n (lv' := [(3, .int v87), (2, .int v67), (4, .int v48), (6, .int x6), (0, .ref ob), (1, .int x1), (5, .int x5)]) hx hb dX5_ending_87 rfl hl (by decide) rfl (fun ls hl => ?_)
              obtain ⟨x5_n, ex5_n⟩ : ∃ y : Int32, y = x5 + 1 := ⟨_, rfl⟩
              refine lv_iinc (v := x5_n) (lv' := [(5, .int x5_n), (3, .int v87), (2, .int v67), (4, .int v48), (6, .int x6), (0, .ref ob), (1, .int x1)]) hx hb dX5_ending_88 hl (k := 6) rfl (by rw [ex5_n]; rfl) (by decide) rfl (fun ls hl => ?_)
              refine lv_goto (tgt := 10) hx hb dX5_ending_91 (by decide) ?_
              exact ih (i + 1) v67 v87 v48 x5_n _ _ ls (by omega) (by rw [ex5_n, hx5]; exact nI_1 i) (by rw [ev67, ex6, hx2, hx5]; rfl) (by rw [ev87, ex6, hx3, hx5]; rfl) (by rw [ev48, ex6, hx4]; rfl) hV (lv_sub hl [5, 6, 2, 1, 3, 0] rfl)
            refine lv_icmp_ne (tgt := 86) hx hb dX5_ending_78 (by decide) (fun c78 => ?_) (fun c78 => ?_)
            · refine lv_iload_n hx hb dX5_ending_86 rfl (lv_at hl 5 rfl) ?_
              exact J87 _ (by rw [if_neg c78])
            · refine lv_iload hx hb dX5_ending_81 (lv_at hl 6 rfl) ?_
              refine lv_goto (tgt := 87) hx hb dX5_ending_83 (by decide) ?_
              exact J87 _ (by rw [if_pos c78])
          refine lv_icmp_ne (tgt := 66) hx hb dX5_ending_58 (by decide) (fun c58 => ?_) (fun c58 => ?_)
          · refine lv_iload_n hx hb dX5_ending_66 rfl (lv_at hl 4 rfl) ?_
            exact J67 _ (by rw [if_neg c58])
          · refine lv_iload hx hb dX5_ending_61 (lv_at hl 6 rfl) ?_
            refine lv_goto (tgt := 67) hx hb dX5_ending_63 (by decide) ?_
            exact J67 _ (by rw [if_pos c58])
        refine lv_if_lt (tgt := 46) hx hb dX5_ending_36 (by decide) (fun c36 => ?_) (fun c36 => ?_)
        · refine lv_iload hx hb dX5_ending_46 (lv_at hl 5 rfl) ?_
          exact J48 _ (by rw [if_pos c36])
        · refine lv_iload hx hb dX5_ending_39 (lv_at hl 5 rfl) ?_
          refine lv_iconst (v := 1) hx hb dX5_ending_41 (by decide) ?_
          refine lv_iadd hx hb dX5_ending_42 ?_
          refine lv_goto (tgt := 48) hx hb dX5_ending_43 (by decide) ?_
          exact J48 _ (by rw [if_neg c36])
  exact LP 18 0 x2 x3 x4 x5 H locs ls rfl (by rw [ex5]; rfl) (by rw [ex2]; rfl) (by rw [ex3]; rfl) (by rw [ex4]; rfl) hV (lv_sub hl [4, 5, 3, 2, 1, 0] rfl)

set_option maxHeartbeats 1000000 in
set_option maxRecDepth 100000 in
theorem c_mtR (l : Launch) (D : va_G) (dA : Nat → ClassId) {L : List Nat} {M : mm_M} {ob : Nat} {ad : Nat → Nat} {S : Nat → Nat → Int32} {pl qu so : Int32} {p0 : Nat} (x1 : Int32) (i_ob : ob ∈ L) (m_ob : M ob = rO ad pl qu so) (hA : rA dA L M ad S) (hp : x1 = nI p0) (hp6 : p0 < 6) : mm_Cp l D dA yX5_material wsX5_material 1 [.ref ob, .int x1] L M (mtL S p0 18) := by
  have hA0 := hA
  have m_ob0 := m_ob
  have fR : rF L ad ob M M := rF.rf
  refine mm_enter_i (cc := cX5_material) (maxL := 6) (by decide) rfl (Nat.le_of_ble_eq_true rfl) ?_
  intro p e R s m args below meth c A ls H locs Q hR hx hb hml hin hown hts hK hV hl hret
  have hl : lv_has ls 6 [(0, .ref ob), (1, .int x1)] := hl
  have hown : s.vm.findClass RX5 = some m.cls := hown
  have f_7 := hts (.fieldLink RX5 7 "JumpBoardModel" "board" "[I") (by decide +kernel)
  have in_X5 : ∀ w ∈ wsX50, w ∈ wsX5_material := by decide +kernel
  have f_13 := hts (.fieldLink RX5 13 "JumpBoardModel" "mover" "[I") (by decide +kernel)
  refine lv_iconst (v := 0) hx hb dX5_material_0 (by decide) ?_
  refine lv_topi (fun x2 ex2 => ?_)
  refine lv_istore_n (lv' := [(2, .int x2), (0, .ref ob), (1, .int x1)]) hx hb dX5_material_1 rfl hl (by decide) rfl (fun ls hl => ?_)
  refine lv_iconst (v := 0) hx hb dX5_material_2 (by decide) ?_
  refine lv_topi (fun x3 ex3 => ?_)
  refine lv_istore_n (lv' := [(3, .int x3), (2, .int x2), (0, .ref ob), (1, .int x1)]) hx hb dX5_material_3 rfl hl (by decide) rfl (fun ls hl => ?_)
  have LP : ∀ (k : Nat) (i : Nat) (x2 x3 : Int32) (H : Heap) (locs : List Loc) (ls : Array Slot), i + k = 18 → x3 = nI i → x2 = mtL S p0 i → mm_V A D L M s H locs → lv_has ls 6 [(0, .ref ob), (1, .int x1), (2, .int x2), (3, .int x3)] → W p l e R s m args below meth c H locs 0 0 Q (F0 m 4 ls []) := by
    intro k
    induction k with
    | zero =>
      intro i x2 x3 H locs ls hik hx3 hx2 hV hl
      refine lv_iload_n hx hb dX5_material_4 rfl (lv_at hl 3 rfl) ?_
      refine lv_bipush (v := 18) hx hb dX5_material_5 (by decide) ?_
      refine lv_icmp_ge (tgt := 79) hx hb dX5_material_7 (by decide) (fun c7 => ?_) (fun c7 => ?_)
      · refine lv_iload_n hx hb dX5_material_79 rfl (lv_at hl 2 rfl) ?_
        exact hret (v := x2) dX5_material_80 hV (by decide) (by decide) ⟨by rw [hx2, show i = 18 by omega], rfl, rfl⟩
      · exact absurd (by rw [hx3]; exact nI_le (a := 18) (by omega) (by omega)) c7
    | succ k ih =>
      intro i x2 x3 H locs ls hik hx3 hx2 hV hl
      refine lv_iload_n hx hb dX5_material_4 rfl (lv_at hl 3 rfl) ?_
      refine lv_bipush (v := 18) hx hb dX5_material_5 (by decide) ?_
      refine lv_icmp_ge (tgt := 79) hx hb dX5_material_7 (by decide) (fun c7 => ?_) (fun c7 => ?_)
      · exact absurd c7 (by rw [hx3]; exact nI_ge (b := 18) (by omega) (by decide))
      · refine lv_aload_n hx hb dX5_material_10 rfl (lv_at hl 0 rfl) ?_
        refine mm_get (ci := 5) (C := RX5) (T := TX5) (N := 20) hx hb hts in_X5 hown hK hV i_ob m_ob rfl 0 (by decide) f_7 (fun _ h => h) rfl dX5_material_11 ?_
        refine lv_bipush (v := 18) hx hb dX5_material_14 (by decide) ?_
        refine lv_iload_n hx hb dX5_material_16 rfl (lv_at hl 1 rfl) ?_
        refine lv_imul hx hb dX5_material_17 ?_
        refine lv_iload_n hx hb dX5_material_18 rfl (lv_at hl 3 rfl) ?_
        refine lv_iadd hx hb dX5_material_19 ?_
        refine mm_ialdN (j := (18 * p0 + i)) hx hb hK hV (hA.i 0 rfl) (show M (ad 0) = .inl (dA 0, 108, .inl (S 0)) from hA.m 0 rfl) (ixR (c := 18) rfl hp hx3) (by omega) (by decide) dX5_material_20 ?_
        refine lv_topi (fun x4 ex4 => ?_)
        refine lv_istore (lv' := [(4, .int x4), (0, .ref ob), (1, .int x1), (2, .int x2), (3, .int x3)]) hx hb dX5_material_21 hl (by decide) rfl (fun ls hl => ?_)
        refine lv_iload hx hb dX5_material_23 (lv_at hl 0 rfl) ?_
        have J45 : ∀ (v45 : Int32) (H : Heap) (locs : List Loc), v45 = (if x4 = 0 then 0 else (if kingR x4 = 0 then 2 else 3)) → mm_V A D L M s H locs → W p l e R s m args below meth c H locs 0 0 Q (F0 m 45 ls [.int v45]) := by
          intro v45 H locs ev45 hV
          refine lv_istore (lv' := [(5, .int v45), (4, .int x4), (0, .ref ob), (1, .int x1), (2, .int x2), (3, .int x3)]) hx hb dX5_material_45 hl (by decide) rfl (fun ls hl => ?_)
          refine lv_iload hx hb dX5_material_47 (lv_at hl 1 rfl) ?_
          refine mm_Sp (v := (sideR x4)) (As := [.int x4]) (rest := []) ⟨hx, hb, hml, hown, hts⟩ hK hV (c_sideR l D dA x4) (va_cwS 1 hts gX5_material_X5_sideOf rfl rfl rfl (by decide +kernel) (mm_levR hR (by omega) (by decide))) rfl hl.1 rfl (Nat.le_of_ble_eq_true rfl) dX5_material_49 ⟨Nat.zero_le _, Nat.zero_le _⟩ (fun H locs hV => ?_)
          refine lv_aload_n hx hb dX5_material_52 rfl (lv_at hl 2 rfl) ?_
          refine mm_get (ci := 5) (C := RX5) (T := TX5) (N := 20) hx hb hts in_X5 hown hK hV i_ob m_ob rfl 1 (by decide) f_13 (fun _ h => h) rfl dX5_material_53 ?_
          refine lv_iload_n hx hb dX5_material_56 rfl (lv_at hl 3 rfl) ?_
          refine mm_ialdN (j := p0) hx hb hK hV (hA.i 1 rfl) (show M (ad 1) = .inl (dA 0, 6, .inl (S 1)) from hA.m 1 rfl) hp (by omega) (by decide) dX5_material_57 ?_
          have J72 : ∀ (v72 : Int32), v72 = (if sideR x4 = (S 1) p0 then (x2 + v45) else (x2 - v45)) → W p l e R s m args below meth c H locs 0 0 Q (F0 m 72 ls [.int v72]) := by
            intro v72 ev72
            refine lv_istore_n (lv' := [(2, .int v72), (5, .int v45), (4, .int x4), (0, .ref ob), (1, .int x1), (3, .int x3)]) hx hb dX5_material_72 rfl hl (by decide) rfl (fun ls hl => ?_)
            obtain ⟨x3_n, ex3_n⟩ : ∃ y : Int32, y = x3 + 1 := ⟨_, rfl⟩
            refine lv_iinc (v := x3_n) (lv' := [(3, .int x3_n), (2, .int v72), (5, .int v45), (4, .int x4), (0, .ref ob), (1, .int x1)]) hx hb dX5_material_73 hl (k := 5) rfl (by rw [ex3_n]; rfl) (by decide) rfl (fun ls hl => ?_)
            refine lv_goto (tgt := 4) hx hb dX5_material_76 (by decide) ?_
            exact ih (i + 1) v72 x3_n _ _ ls (by omega) (by rw [ex3_n, hx3]; exact nI_1 i) (by rw [ev72, ev45, ex4, hx2]; rfl) hV (lv_sub hl [4, 5, 1, 0] rfl)
          refine lv_icmp_ne (tgt := 68) hx hb dX5_material_58 (by decide) (fun c58 => ?_) (fun c58 => ?_)
          · refine lv_iload_n hx hb dX5_material_68 rfl (lv_at hl 4 rfl) ?_
            refine lv_iload hx hb dX5_material_69 (lv_at hl 0 rfl) ?_
            refine lv_isub hx hb dX5_material_71 ?_
            exact J72 _ (by rw [if_neg c58])
          · refine lv_iload_n hx hb dX5_material_61 rfl (lv_at hl 4 rfl) ?_
            refine lv_iload hx hb dX5_material_62 (lv_at hl 0 rfl) ?_
            refine lv_iadd hx hb dX5_material_64 ?_
            refine lv_goto (tgt := 72) hx hb dX5_material_65 (by decide) ?_
            exact J72 _ (by rw [if_pos c58])
        refine lv_if_ne (tgt := 32) hx hb dX5_material_25 (by decide) (fun c25 => ?_) (fun c25 => ?_)
        · refine lv_iload hx hb dX5_material_32 (lv_at hl 0 rfl) ?_
          refine mm_Sp (v := (kingR x4)) (As := [.int x4]) (rest := []) ⟨hx, hb, hml, hown, hts⟩ hK hV (c_kingR l D dA x4) (va_cwS 1 hts gX5_material_X5_isKing rfl rfl rfl (by decide +kernel) (mm_levR hR (by omega) (by decide))) rfl hl.1 rfl (Nat.le_of_ble_eq_true rfl) dX5_material_34 ⟨Nat.zero_le _, Nat.zero_le _⟩ (fun H locs hV => ?_)
          refine lv_if_eq (tgt := 44) hx hb dX5_material_37 (by decide) (fun c37 => ?_) (fun c37 => ?_)
          · refine lv_iconst (v := 2) hx hb dX5_material_44 (by decide) ?_
            exact J45 _ _ _ (by rw [if_neg c25, if_pos c37]) hV
          · refine lv_iconst (v := 3) hx hb dX5_material_40 (by decide) ?_
            refine lv_goto (tgt := 45) hx hb dX5_material_41 (by decide) ?_
            exact J45 _ _ _ (by rw [if_neg c25, if_neg c37]) hV
        · refine lv_iconst (v := 0) hx hb dX5_material_28 (by decide) ?_
          refine lv_goto (tgt := 45) hx hb dX5_material_29 (by decide) ?_
          exact J45 _ _ _ (by rw [if_pos c25]) hV
  exact LP 18 0 x2 x3 H locs ls rfl (by rw [ex3]; rfl) (by rw [ex2]; rfl) hV (lv_sub hl [2, 3, 1, 0] rfl)

theorem EqB.of18 {p : Nat} {A B : Nat → Nat → Int32} (h : ∀ q, q ≠ 18 → q ≠ 19 → A q = B q) : EqB p A B := ⟨fun i _ => by rw [h 0 (by decide) (by decide)], fun i _ => by rw [h 1 (by decide) (by decide)], fun i _ => by rw [h 2 (by decide) (by decide)], fun k a b i _ => by rw [h k (by omega) (by omega)], h 7 (by decide) (by decide), h 8 (by decide) (by decide), h 15 (by decide) (by decide), h 16 (by decide) (by decide)⟩

set_option maxHeartbeats 1000000 in
set_option maxRecDepth 100000 in
theorem c_verdR (l : Launch) (D : va_G) (dA : Nat → ClassId) {L : List Nat} {M : mm_M} {ob : Nat} {ad : Nat → Nat} {S : Nat → Nat → Int32} {pl qu so : Int32} {P : Ps} {WF : Ps → Prop} {KT : Nat → Int32} {fu : Nat} (i_ob : ob ∈ L) (m_ob : M ob = rO ad pl qu so) (hA : rA dA L M ad S) (h7 : S 7 = nearR) (h8 : S 8 = farR) (hko : kOK KT so S) (hFT : rgR (FTi 2592)) (hslv : slvR (FTi 2592) fu 1 (K0i 2592) = some KT) (hrow : rowOK S 0 P) (hwf : WF P) (ES : EndSem WF KT) : mm_Cn l D dA yX5_verdict wsX5_verdict 3 [.ref ob] L M (fun r M1 => r = verdVR P ∧ ∃ S1 so1, EqB 0 S1 S ∧ kOK KT so1 S1 ∧ rA dA L M1 ad S1 ∧ M1 ob = rO ad pl qu so1 ∧ rF L ad ob M M1) := by
  have hA0 := hA
  have m_ob0 := m_ob
  have fR : rF L ad ob M M := rF.rf
  refine mm_enter_i (cc := cX5_verdict) (maxL := 3) (by decide) rfl (Nat.le_of_ble_eq_true rfl) ?_
  intro p e R s m args below meth c A ls H locs Q hR hx hb hml hin hown hts hK hV hl hret
  have hl : lv_has ls 3 [(0, .ref ob)] := hl
  have hown : s.vm.findClass RX5 = some m.cls := hown
  have f_59 := hts (.fieldLink RX5 59 "JumpBoardModel" "known" "[I") (by decide +kernel)
  have in_X5 : ∀ w ∈ wsX50, w ∈ wsX5_verdict := by decide +kernel
  refine lv_aload_n hx hb dX5_verdict_0 rfl (lv_at hl 0 rfl) ?_
  refine lv_iconst (v := 0) hx hb dX5_verdict_1 (by decide) ?_
  refine mm_Vp (v := (enR S 0)) (ci := 5) (As := [.int 0]) (rest := []) ⟨hx, hb, hml, hown, hts⟩ hK hV (c_enR l D dA (p0 := 0) 0 i_ob m_ob hA rfl (by decide)) (cwV 1 hts gX5_verdict_X5_ending rfl rfl rfl (by decide +kernel) (mm_levR hR (by omega) (by decide))) i_ob m_ob rfl rfl hl.1 rfl (Nat.le_of_ble_eq_true rfl) dX5_verdict_2 ⟨Nat.zero_le _, Nat.zero_le _⟩ (fun H locs hV => ?_)
  refine lv_topi (fun x1 ex1 => ?_)
  refine lv_istore_n (lv' := [(1, .int x1), (0, .ref ob)]) hx hb dX5_verdict_5 rfl hl (by decide) rfl (fun ls hl => ?_)
  refine lv_iload_n hx hb dX5_verdict_6 rfl (lv_at hl 0 rfl) ?_
  refine lv_if_ge (tgt := 14) hx hb dX5_verdict_7 (by decide) (fun c7 => ?_) (fun c7 => ?_)
  · have ho9 : ¬ oneP P = 0 := fun h => absurd ((ES S 0 P (by decide) hrow hwf).1 h) (Int32.not_lt.mpr (by rw [← ex1]; exact c7))
    obtain ⟨e9, he1, he2, ha9, hv9⟩ := (ES S 0 P (by decide) hrow hwf).2 ho9
    refine lv_aload_n hx hb dX5_verdict_14 rfl (lv_at hl 1 rfl) ?_
    refine mm_Vm (ci := 5) (As := []) (rest := []) ⟨hx, hb, hml, hown, hts⟩ hK hV (c_solveR l D dA i_ob m_ob hA h7 h8 hko hFT hslv) (cwV 0 hts gX5_verdict_X5_solve rfl rfl rfl (by decide +kernel) (mm_levR hR (by omega) (by decide))) i_ob m_ob rfl rfl hl.1 rfl (Nat.le_of_ble_eq_true rfl) dX5_verdict_15 ⟨Nat.zero_le _, Nat.zero_le _⟩ (fun M_1 H locs hp9 hV => ?_)
    obtain ⟨S2, hq2, h192, hA, m_ob, fR9⟩ := hp9
    have fR : rF L ad ob M M_1 := fR.tr fR9
    have hB9 : EqB 0 S2 S := EqB.of18 hq2
    refine lv_aload_n hx hb dX5_verdict_18 rfl (lv_at hl 1 rfl) ?_
    refine mm_get (ci := 5) (C := RX5) (T := TX5) (N := 20) hx hb hts in_X5 hown hK hV i_ob m_ob rfl 19 (by decide) f_59 (fun _ h => h) rfl dX5_verdict_19 ?_
    refine lv_iload_n hx hb dX5_verdict_22 rfl (lv_at hl 0 rfl) ?_
    refine mm_ialdN (j := e9) hx hb hK hV (hA.i 19 rfl) (show M_1 (ad 19) = .inl (dA 0, 2592, .inl (S2 19)) from hA.m 19 rfl) (by rw [ex1]; exact he1) (by omega) (by decide) dX5_verdict_23 ?_
    refine lv_topi (fun x2 ex2 => ?_)
    refine lv_istore_n (lv' := [(2, .int x2), (1, .int x1), (0, .ref ob)]) hx hb dX5_verdict_24 rfl hl (by decide) rfl (fun ls hl => ?_)
    have hk2 : x2 = KT e9 := by rw [ex2, h192]
    refine lv_iload_n hx hb dX5_verdict_25 rfl (lv_at hl 0 rfl) ?_
    refine lv_iconst (v := (-1)) hx hb dX5_verdict_26 (by decide) ?_
    refine lv_icmp_ne (tgt := 35) hx hb dX5_verdict_27 (by decide) (fun c27 => ?_) (fun c27 => ?_)
    · refine lv_iload_n hx hb dX5_verdict_35 rfl (lv_at hl 0 rfl) ?_
      refine lv_if_le (tgt := 45) hx hb dX5_verdict_36 (by decide) (fun c36 => ?_) (fun c36 => ?_)
      · refine lv_iload_n hx hb dX5_verdict_45 rfl (lv_at hl 0 rfl) ?_
        refine lv_if_ge (tgt := 55) hx hb dX5_verdict_46 (by decide) (fun c46 => ?_) (fun c46 => ?_)
        · refine lv_iconst (v := 0) hx hb dX5_verdict_55 (by decide) ?_
          exact hret (v := 0) dX5_verdict_56 hV (by decide) (by decide) ⟨rfl, by unfold verdVR; rw [if_neg ho9, ← hv9]; unfold vdV; rw [if_neg (by rw [← hk2]; exact c27), if_pos (by rw [← hk2]; exact c36), if_pos (by rw [← hk2]; exact c46)], S2, 1, hB9, Or.inr ⟨rfl, h192⟩, hA, m_ob, fR⟩
        · refine lv_iload_n hx hb dX5_verdict_49 rfl (lv_at hl 0 rfl) ?_
          refine lv_iconst (v := 1) hx hb dX5_verdict_50 (by decide) ?_
          refine lv_iadd hx hb dX5_verdict_51 ?_
          refine lv_goto (tgt := 56) hx hb dX5_verdict_52 (by decide) ?_
          exact hret (v := (x2 + 1)) dX5_verdict_56 hV (by decide) (by decide) ⟨rfl, by unfold verdVR; rw [if_neg ho9, ← hv9]; unfold vdV; rw [if_neg (by rw [← hk2]; exact c27), if_pos (by rw [← hk2]; exact c36), if_neg (by rw [← hk2]; exact c46), hk2], S2, 1, hB9, Or.inr ⟨rfl, h192⟩, hA, m_ob, fR⟩
      · refine lv_iload_n hx hb dX5_verdict_39 rfl (lv_at hl 0 rfl) ?_
        refine lv_iconst (v := 1) hx hb dX5_verdict_40 (by decide) ?_
        refine lv_isub hx hb dX5_verdict_41 ?_
        refine lv_goto (tgt := 56) hx hb dX5_verdict_42 (by decide) ?_
        exact hret (v := (x2 - 1)) dX5_verdict_56 hV (by decide) (by decide) ⟨rfl, by unfold verdVR; rw [if_neg ho9, ← hv9]; unfold vdV; rw [if_neg (by rw [← hk2]; exact c27), if_neg (by rw [← hk2]; exact c36), hk2], S2, 1, hB9, Or.inr ⟨rfl, h192⟩, hA, m_ob, fR⟩
    · refine lv_bipush (v := (-100)) hx hb dX5_verdict_30 (by decide) ?_
      refine lv_goto (tgt := 56) hx hb dX5_verdict_32 (by decide) ?_
      exact hret (v := (-100)) dX5_verdict_56 hV (by decide) (by decide) ⟨rfl, by unfold verdVR; rw [if_neg ho9, ← hv9]; unfold vdV; rw [if_pos (by rw [← hk2]; exact c27)], S2, 1, hB9, Or.inr ⟨rfl, h192⟩, hA, m_ob, fR⟩
  · have ho9 : oneP P = 0 := Decidable.byContradiction (fun h => by obtain ⟨e9, h1, h2, -, -⟩ := ((ES S 0 P (by decide) hrow hwf).2 h); exact c7 (by rw [ex1, h1]; exact nI_pos' (by omega)))
    refine lv_sipush (v := (-2000)) hx hb dX5_verdict_10 (by decide) ?_
    exact hret (v := (-2000)) dX5_verdict_13 hV (by decide) (by decide) ⟨rfl, by unfold verdVR; rw [if_pos ho9], S, so, EqB.rf, hko, hA, m_ob, fR⟩

set_option maxHeartbeats 1000000 in
set_option maxRecDepth 100000 in
theorem c_aoR (l : Launch) (D : va_G) (dA : Nat → ClassId) {L : List Nat} {M : mm_M} {ob : Nat} {ad : Nat → Nat} {S : Nat → Nat → Int32} {pl qu so : Int32} {P : Ps} {WF : Ps → Prop} {KT : Nat → Int32} {fu : Nat} {d : Nat} {p0 : Nat} (x1 : Int32) (i_ob : ob ∈ L) (m_ob : M ob = rO ad pl qu so) (hA : rA dA L M ad S) (h7 : S 7 = nearR) (h8 : S 8 = farR) (hko : kOK KT so S) (hFT : rgR (FTi 2592)) (hslv : slvR (FTi 2592) fu 1 (K0i 2592) = some KT) (hp : x1 = nI p0) (hp6 : p0 < 6) (GS : GenSem WF) (hrow : rowOK S p0 P) (hwf : WF P) (ES : EndSem WF KT) (MT : MatSem WF) (hd : S 4 p0 = nI d) (hd9 : d < 100) : mm_Cn l D dA yX5_atOnce wsX5_atOnce 4 [.ref ob, .int x1] L M (fun r M1 => r = aoR d P ∧ ∃ S1 so1, EqB p0 S1 S ∧ (∀ k, 4 ≤ k → k ≤ 6 → S1 k = S k) ∧ (oneP P = 0 → lstOK S1 p0 P) ∧ kOK KT so1 S1 ∧ rA dA L M1 ad S1 ∧ M1 ob = rO ad pl qu so1 ∧ rF L ad ob M M1) := by
  have hA0 := hA
  have m_ob0 := m_ob
  have fR : rF L ad ob M M := rF.rf
  refine mm_enter_i (cc := cX5_atOnce) (maxL := 4) (by decide) rfl (Nat.le_of_ble_eq_true rfl) ?_
  intro p e R s m args below meth c A ls H locs Q hR hx hb hml hin hown hts hK hV hl hret
  have hl : lv_has ls 4 [(0, .ref ob), (1, .int x1)] := hl
  have hown : s.vm.findClass RX5 = some m.cls := hown
  have f_19 := hts (.fieldLink RX5 19 "JumpBoardModel" "count" "[I") (by decide +kernel)
  have in_X5 : ∀ w ∈ wsX50, w ∈ wsX5_atOnce := by decide +kernel
  have f_22 := hts (.fieldLink RX5 22 "JumpBoardModel" "left" "[I") (by decide +kernel)
  have f_59 := hts (.fieldLink RX5 59 "JumpBoardModel" "known" "[I") (by decide +kernel)
  refine lv_aload_n hx hb dX5_atOnce_0 rfl (lv_at hl 0 rfl) ?_
  refine lv_iload_n hx hb dX5_atOnce_1 rfl (lv_at hl 1 rfl) ?_
  refine mm_Vp (v := (enR S p0)) (ci := 5) (As := [.int x1]) (rest := []) ⟨hx, hb, hml, hown, hts⟩ hK hV (c_enR l D dA (p0 := p0) x1 i_ob m_ob hA hp hp6) (cwV 1 hts gX5_atOnce_X5_ending rfl rfl rfl (by decide +kernel) (mm_levR hR (by omega) (by decide))) i_ob m_ob rfl rfl hl.1 rfl (Nat.le_of_ble_eq_true rfl) dX5_atOnce_2 ⟨Nat.zero_le _, Nat.zero_le _⟩ (fun H locs hV => ?_)
  refine lv_topi (fun x2 ex2 => ?_)
  refine lv_istore_n (lv' := [(2, .int x2), (0, .ref ob), (1, .int x1)]) hx hb dX5_atOnce_5 rfl hl (by decide) rfl (fun ls hl => ?_)
  refine lv_iload_n hx hb dX5_atOnce_6 rfl (lv_at hl 0 rfl) ?_
  refine lv_if_lt (tgt := 48) hx hb dX5_atOnce_7 (by decide) (fun c7 => ?_) (fun c7 => ?_)
  · have ho9 : oneP P = 0 := Decidable.byContradiction (fun h => by obtain ⟨e9, h1, h2, -, -⟩ := ((ES S p0 P hp6 hrow hwf).2 h); exact absurd (by rw [← h1, ← ex2]; exact c7) (nI_pos (n := e9) (by omega)))
    refine lv_aload_n hx hb dX5_atOnce_48 rfl (lv_at hl 1 rfl) ?_
    refine lv_iload_n hx hb dX5_atOnce_49 rfl (lv_at hl 2 rfl) ?_
    obtain ⟨R9, hR9, hG9⟩ := GS S p0 P hp6 hrow hwf h7 h8
    refine mm_Vm (ci := 5) (As := [.int x1]) (rest := []) ⟨hx, hb, hml, hown, hts⟩ hK hV (c_genR l D dA (p0 := p0) (RG := R9) x1 i_ob m_ob hA h7 h8 hp hp6 hR9) (cwV 1 hts gX5_atOnce_X5_generate rfl rfl rfl (by decide +kernel) (mm_levR hR (by omega) (by decide))) i_ob m_ob rfl rfl hl.1 rfl (Nat.le_of_ble_eq_true rfl) dX5_atOnce_50 ⟨Nat.zero_le _, Nat.zero_le _⟩ (fun M_1 H locs hp9 hV => ?_)
    obtain ⟨S2, hE9, hA, m_ob, fR9⟩ := hp9
    have fR : rF L ad ob M M_1 := fR.tr fR9
    have hG2 : GenP S2 S p0 P := hE9.G hG9
    have hko2 : kOK KT so S2 := by unfold kOK; rw [hG2.2.2.2.1, hG2.2.2.2.2]; exact hko
    have hrow2 : rowOK S2 p0 P := hG2.2.1.row (Nat.le_refl _) hrow
    have hd2 : S2 4 p0 = nI d := by rw [hG2.2.2.1 4 (by decide) (by decide)]; exact hd
    refine lv_aload_n hx hb dX5_atOnce_53 rfl (lv_at hl 1 rfl) ?_
    refine mm_get (ci := 5) (C := RX5) (T := TX5) (N := 20) hx hb hts in_X5 hown hK hV i_ob m_ob rfl 3 (by decide) f_19 (fun _ h => h) rfl dX5_atOnce_54 ?_
    refine lv_iload_n hx hb dX5_atOnce_57 rfl (lv_at hl 2 rfl) ?_
    refine mm_ialdN (j := p0) hx hb hK hV (hA.i 3 rfl) (show M_1 (ad 3) = .inl (dA 0, 6, .inl (S2 3)) from hA.m 3 rfl) hp (by omega) (by decide) dX5_atOnce_58 ?_
    refine lv_if_ne (tgt := 66) hx hb dX5_atOnce_59 (by decide) (fun c59 => ?_) (fun c59 => ?_)
    · have hn0 : ¬ mvN P = 0 := fun h => c59 (by rw [hG2.1.1, h]; rfl)
      refine lv_aload_n hx hb dX5_atOnce_66 rfl (lv_at hl 1 rfl) ?_
      refine mm_get (ci := 5) (C := RX5) (T := TX5) (N := 20) hx hb hts in_X5 hown hK hV i_ob m_ob rfl 4 (by decide) f_22 (fun _ h => h) rfl dX5_atOnce_67 ?_
      refine lv_iload_n hx hb dX5_atOnce_70 rfl (lv_at hl 2 rfl) ?_
      refine mm_ialdN (j := p0) hx hb hK hV (hA.i 4 rfl) (show M_1 (ad 4) = .inl (dA 0, 6, .inl (S2 4)) from hA.m 4 rfl) hp (by omega) (by decide) dX5_atOnce_71 ?_
      refine lv_if_ne (tgt := 83) hx hb dX5_atOnce_72 (by decide) (fun c72 => ?_) (fun c72 => ?_)
      · have hd0 : ¬ d = 0 := fun h => c72 (by rw [hd2, h]; rfl)
        refine lv_sipush (v := (-9999)) hx hb dX5_atOnce_83 (by decide) ?_
        exact hret (v := (-9999)) dX5_atOnce_86 hV (by decide) (by decide) ⟨rfl, by unfold aoR; rw [if_pos ho9, if_neg hn0, if_neg hd0], S2, so, hG2.2.1, hG2.2.2.1, fun _ => hG2.1, hko2, hA, m_ob, fR⟩
      · have hd0 : d = 0 := mm_zr (by omega) (by rw [← hd2]; exact c72)
        refine lv_aload_n hx hb dX5_atOnce_75 rfl (lv_at hl 1 rfl) ?_
        refine lv_iload_n hx hb dX5_atOnce_76 rfl (lv_at hl 2 rfl) ?_
        refine mm_Vp (v := (mtL S2 p0 18)) (ci := 5) (As := [.int x1]) (rest := []) ⟨hx, hb, hml, hown, hts⟩ hK hV (c_mtR l D dA (p0 := p0) x1 i_ob m_ob hA hp hp6) (cwV 1 hts gX5_atOnce_X5_material rfl rfl rfl (by decide +kernel) (mm_levR hR (by omega) (by decide))) i_ob m_ob rfl rfl hl.1 rfl (Nat.le_of_ble_eq_true rfl) dX5_atOnce_77 ⟨Nat.zero_le _, Nat.zero_le _⟩ (fun H locs hV => ?_)
        refine lv_goto (tgt := 86) hx hb dX5_atOnce_80 (by decide) ?_
        exact hret (v := mtL S2 p0 18) dX5_atOnce_86 hV (by decide) (by decide) ⟨rfl, by unfold aoR; rw [if_pos ho9, if_neg hn0, if_pos hd0, MT S2 p0 P hrow2 hwf], S2, so, hG2.2.1, hG2.2.2.1, fun _ => hG2.1, hko2, hA, m_ob, fR⟩
    · have hn0 : mvN P = 0 := mm_zr (by have := mvN_le P; omega) (by rw [← hG2.1.1]; exact c59)
      refine lv_sipush (v := (-1000)) hx hb dX5_atOnce_62 (by decide) ?_
      exact hret (v := (-1000)) dX5_atOnce_65 hV (by decide) (by decide) ⟨rfl, by unfold aoR; rw [if_pos ho9, if_pos hn0], S2, so, hG2.2.1, hG2.2.2.1, fun _ => hG2.1, hko2, hA, m_ob, fR⟩
  · have ho9 : ¬ oneP P = 0 := fun h => c7 (by rw [ex2]; exact (ES S p0 P hp6 hrow hwf).1 h)
    obtain ⟨e9, he1, he2, ha9, hv9⟩ := (ES S p0 P hp6 hrow hwf).2 ho9
    refine lv_aload_n hx hb dX5_atOnce_10 rfl (lv_at hl 1 rfl) ?_
    refine mm_Vm (ci := 5) (As := []) (rest := []) ⟨hx, hb, hml, hown, hts⟩ hK hV (c_solveR l D dA i_ob m_ob hA h7 h8 hko hFT hslv) (cwV 0 hts gX5_atOnce_X5_solve rfl rfl rfl (by decide +kernel) (mm_levR hR (by omega) (by decide))) i_ob m_ob rfl rfl hl.1 rfl (Nat.le_of_ble_eq_true rfl) dX5_atOnce_11 ⟨Nat.zero_le _, Nat.zero_le _⟩ (fun M_2 H locs hp9 hV => ?_)
    obtain ⟨S2, hq2, h192, hA, m_ob, fR9⟩ := hp9
    have fR : rF L ad ob M M_2 := fR.tr fR9
    refine lv_aload_n hx hb dX5_atOnce_14 rfl (lv_at hl 1 rfl) ?_
    refine mm_get (ci := 5) (C := RX5) (T := TX5) (N := 20) hx hb hts in_X5 hown hK hV i_ob m_ob rfl 19 (by decide) f_59 (fun _ h => h) rfl dX5_atOnce_15 ?_
    refine lv_iload_n hx hb dX5_atOnce_18 rfl (lv_at hl 0 rfl) ?_
    refine mm_ialdN (j := e9) hx hb hK hV (hA.i 19 rfl) (show M_2 (ad 19) = .inl (dA 0, 2592, .inl (S2 19)) from hA.m 19 rfl) (by rw [ex2]; exact he1) (by omega) (by decide) dX5_atOnce_19 ?_
    refine lv_topi (fun x3 ex3 => ?_)
    refine lv_istore_n (lv' := [(3, .int x3), (2, .int x2), (0, .ref ob), (1, .int x1)]) hx hb dX5_atOnce_20 rfl hl (by decide) rfl (fun ls hl => ?_)
    have hk2 : x3 = KT e9 := by rw [ex3, h192]
    refine lv_iload_n hx hb dX5_atOnce_21 rfl (lv_at hl 0 rfl) ?_
    refine lv_if_le (tgt := 33) hx hb dX5_atOnce_22 (by decide) (fun c22 => ?_) (fun c22 => ?_)
    · refine lv_iload_n hx hb dX5_atOnce_33 rfl (lv_at hl 0 rfl) ?_
      refine lv_if_ge (tgt := 46) hx hb dX5_atOnce_34 (by decide) (fun c34 => ?_) (fun c34 => ?_)
      · refine lv_iconst (v := 0) hx hb dX5_atOnce_46 (by decide) ?_
        exact hret (v := 0) dX5_atOnce_47 hV (by decide) (by decide) ⟨rfl, by unfold aoR; rw [if_neg ho9, ← ha9]; unfold aoV; rw [if_pos (by rw [← hk2]; exact c22), if_pos (by rw [← hk2]; exact c34)], S2, 1, EqB.of18 hq2, fun q a b => hq2 q (by omega) (by omega), fun h => absurd h ho9, Or.inr ⟨rfl, h192⟩, hA, m_ob, fR⟩
      · refine lv_iload_n hx hb dX5_atOnce_37 rfl (lv_at hl 0 rfl) ?_
        refine lv_ineg hx hb dX5_atOnce_38 ?_
        refine lv_sipush (v := 1001) hx hb dX5_atOnce_39 (by decide) ?_
        refine lv_isub hx hb dX5_atOnce_42 ?_
        refine lv_goto (tgt := 47) hx hb dX5_atOnce_43 (by decide) ?_
        exact hret (v := ((-x3) - 1001)) dX5_atOnce_47 hV (by decide) (by decide) ⟨rfl, by unfold aoR; rw [if_neg ho9, ← ha9]; unfold aoV; rw [if_pos (by rw [← hk2]; exact c22), if_neg (by rw [← hk2]; exact c34), hk2], S2, 1, EqB.of18 hq2, fun q a b => hq2 q (by omega) (by omega), fun h => absurd h ho9, Or.inr ⟨rfl, h192⟩, hA, m_ob, fR⟩
    · refine lv_sipush (v := 1001) hx hb dX5_atOnce_25 (by decide) ?_
      refine lv_iload_n hx hb dX5_atOnce_28 rfl (lv_at hl 0 rfl) ?_
      refine lv_isub hx hb dX5_atOnce_29 ?_
      refine lv_goto (tgt := 47) hx hb dX5_atOnce_30 (by decide) ?_
      exact hret (v := (1001 - x3)) dX5_atOnce_47 hV (by decide) (by decide) ⟨rfl, by unfold aoR; rw [if_neg ho9, ← ha9]; unfold aoV; rw [if_neg (by rw [← hk2]; exact c22), hk2], S2, 1, EqB.of18 hq2, fun q a b => hq2 q (by omega) (by omega), fun h => absurd h ho9, Or.inr ⟨rfl, h192⟩, hA, m_ob, fR⟩

set_option maxHeartbeats 1000000 in
set_option maxRecDepth 100000 in
theorem c_entR (l : Launch) (D : va_G) (dA : Nat → ClassId) {L : List Nat} {M : mm_M} {ob : Nat} {ad : Nat → Nat} {S : Nat → Nat → Int32} {pl qu so : Int32} {P : Ps} {WF : Ps → Prop} {KT : Nat → Int32} {fu : Nat} {d : Nat} {p0 : Nat} (x1 : Int32) (i_ob : ob ∈ L) (m_ob : M ob = rO ad pl qu so) (hA : rA dA L M ad S) (h7 : S 7 = nearR) (h8 : S 8 = farR) (hko : kOK KT so S) (hFT : rgR (FTi 2592)) (hslv : slvR (FTi 2592) fu 1 (K0i 2592) = some KT) (hp : x1 = nI p0) (hp6 : p0 < 6) (GS : GenSem WF) (hrow : rowOK S p0 P) (hwf : WF P) (ES : EndSem WF KT) (MT : MatSem WF) (hd : S 4 p0 = nI d) (hd9 : d < 100) : mm_Cn l D dA yX5_enter wsX5_enter 5 [.ref ob, .int x1] L M (fun r M1 => r = aoR d P ∧ ∃ S1 so1, EqB p0 S1 S ∧ S1 4 = S 4 ∧ S1 5 p0 = 0 ∧ S1 6 p0 = -9999 ∧ (oneP P = 0 → lstOK S1 p0 P) ∧ kOK KT so1 S1 ∧ rA dA L M1 ad S1 ∧ M1 ob = rO ad pl qu so1 ∧ rF L ad ob M M1) := by
  have hA0 := hA
  have m_ob0 := m_ob
  have fR : rF L ad ob M M := rF.rf
  refine mm_enter_i (cc := cX5_enter) (maxL := 2) (by decide) rfl (Nat.le_of_ble_eq_true rfl) ?_
  intro p e R s m args below meth c A ls H locs Q hR hx hb hml hin hown hts hK hV hl hret
  have hl : lv_has ls 2 [(0, .ref ob), (1, .int x1)] := hl
  have hown : s.vm.findClass RX5 = some m.cls := hown
  have f_25 := hts (.fieldLink RX5 25 "JumpBoardModel" "index" "[I") (by decide +kernel)
  have in_X5 : ∀ w ∈ wsX50, w ∈ wsX5_enter := by decide +kernel
  have f_28 := hts (.fieldLink RX5 28 "JumpBoardModel" "top" "[I") (by decide +kernel)
  refine lv_aload_n hx hb dX5_enter_0 rfl (lv_at hl 0 rfl) ?_
  refine mm_get (ci := 5) (C := RX5) (T := TX5) (N := 20) hx hb hts in_X5 hown hK hV i_ob m_ob rfl 5 (by decide) f_25 (fun _ h => h) rfl dX5_enter_1 ?_
  refine lv_iload_n hx hb dX5_enter_4 rfl (lv_at hl 1 rfl) ?_
  refine lv_iconst (v := 0) hx hb dX5_enter_5 (by decide) ?_
  refine mm_iastN (j := p0) (x := 0) hx hb hK hV (hA.i 5 rfl) (show M (ad 5) = .inl (dA 0, 6, .inl (S 5)) from hA.m 5 rfl) hp (by omega) (by decide) dX5_enter_6 (fun M_1 H locs eM_1 hV => ?_)
  obtain ⟨Sa, eSa⟩ : ∃ z, z = va_up S 5 (upd (S 5) p0 0) := ⟨_, rfl⟩
  have hA : rA dA L M_1 ad Sa := by rw [eSa]; exact hA.up 5 rfl eM_1
  have m_ob : M_1 ob = rO ad pl qu so := (congrFun eM_1 ob).trans ((va_up_ne _ _ (fun h => hA0.nob 5 rfl m_ob0 h)).trans m_ob)
  have fR : rF L ad ob M M_1 := fR.up 5 rfl eM_1
  refine lv_aload_n hx hb dX5_enter_7 rfl (lv_at hl 0 rfl) ?_
  refine mm_get (ci := 5) (C := RX5) (T := TX5) (N := 20) hx hb hts in_X5 hown hK hV i_ob m_ob rfl 6 (by decide) f_28 (fun _ h => h) rfl dX5_enter_8 ?_
  refine lv_iload_n hx hb dX5_enter_11 rfl (lv_at hl 1 rfl) ?_
  refine lv_sipush (v := (-9999)) hx hb dX5_enter_12 (by decide) ?_
  refine mm_iastN (j := p0) (x := (-9999)) hx hb hK hV (hA.i 6 rfl) (show M_1 (ad 6) = .inl (dA 0, 6, .inl (Sa 6)) from hA.m 6 rfl) hp (by omega) (by decide) dX5_enter_15 (fun M_2 H locs eM_2 hV => ?_)
  obtain ⟨Sb, eSb⟩ : ∃ z, z = va_up Sa 6 (upd (Sa 6) p0 (-9999)) := ⟨_, rfl⟩
  have hA : rA dA L M_2 ad Sb := by rw [eSb]; exact hA.up 6 rfl eM_2
  have m_ob : M_2 ob = rO ad pl qu so := (congrFun eM_2 ob).trans ((va_up_ne _ _ (fun h => hA0.nob 6 rfl m_ob0 h)).trans m_ob)
  have fR : rF L ad ob M M_2 := fR.up 6 rfl eM_2
  have hsb : ∀ q, q ≠ 5 → q ≠ 6 → Sb q = S q := fun q a b => by rw [eSb, va_up_ne _ _ b, eSa, va_up_ne _ _ a]
  have hrb : rowOK Sb p0 P := ⟨fun i hi => by rw [hsb 0 (by decide) (by decide)]; exact hrow.1 i hi, by rw [hsb 1 (by decide) (by decide)]; exact hrow.2⟩
  have hkb : kOK KT so Sb := by unfold kOK; rw [hsb 18 (by decide) (by decide), hsb 19 (by decide) (by decide)]; exact hko
  have hBb : EqB p0 Sb S := by
    refine ⟨fun i _ => by rw [hsb 0 (by decide) (by decide)], fun i _ => by rw [hsb 1 (by decide) (by decide)], fun i _ => by rw [hsb 2 (by decide) (by decide)], fun k a b i hi => ?_, hsb 7 (by decide) (by decide), hsb 8 (by decide) (by decide), hsb 15 (by decide) (by decide), hsb 16 (by decide) (by decide)⟩
    by_cases h6 : k = 6
    · subst h6; rw [eSb, va_up_self, pk_un (by omega), eSa, va_up_ne _ _ (by decide)]
    · by_cases h5 : k = 5
      · subst h5; rw [eSb, va_up_ne _ _ (by decide), eSa, va_up_self, pk_un (by omega)]
      · rw [hsb k h5 h6]
  refine lv_aload_n hx hb dX5_enter_16 rfl (lv_at hl 0 rfl) ?_
  refine lv_iload_n hx hb dX5_enter_17 rfl (lv_at hl 1 rfl) ?_
  refine mm_Vn (ci := 5) (As := [.int x1]) (rest := []) ⟨hx, hb, hml, hown, hts⟩ hK hV (c_aoR l D dA (p0 := p0) (d := d) (P := P) x1 i_ob m_ob hA (by rw [hsb 7 (by decide) (by decide)]; exact h7) (by rw [hsb 8 (by decide) (by decide)]; exact h8) hkb hFT hslv hp hp6 GS hrb hwf ES MT (by rw [hsb 4 (by decide) (by decide)]; exact hd) hd9) (cwV 1 hts gX5_enter_X5_atOnce rfl rfl rfl (by decide +kernel) (mm_levR hR (by omega) (by decide))) i_ob m_ob rfl rfl hl.1 rfl (Nat.le_of_ble_eq_true rfl) dX5_enter_18 ⟨Nat.zero_le _, Nat.zero_le _⟩ (fun r9 M_3 H locs hp9 hV => ?_)
  obtain ⟨er9, S2, so2, hB2, h42, hl2, hk2, hA, m_ob, fR9⟩ := hp9
  have fR : rF L ad ob M M_3 := fR.tr fR9
  exact hret (v := r9) dX5_enter_21 hV (by decide) (by decide) ⟨rfl, er9, S2, so2, hB2.tr hBb, by rw [h42 4 (by decide) (by decide), hsb 4 (by decide) (by decide)], by rw [h42 5 (by decide) (by decide), eSb, va_up_ne _ _ (by decide), eSa, va_up_self, pk_us], by rw [h42 6 (by decide) (by decide), eSb, va_up_self, pk_us], hl2, hk2, hA, m_ob, fR⟩
