def tbR (n : Int32) (c : Nat) : Nat → Int32 := fun j => if j < c then reachR (nI (j / 4)) (nI (j % 4)) n else 0
def nearR (j : Nat) : Int32 := tbR 1 72 j
def farR (j : Nat) : Int32 := tbR 2 72 j
theorem nr_ok : ∀ j, j < 72 → nearR j < 0 ∨ ((nearR j).toNatClampNeg < 18 ∧ nearR j = nI (nearR j).toNatClampNeg) := by decide +kernel
theorem fr_ok : ∀ j, j < 72 → farR j < 0 ∨ ((farR j).toNatClampNeg < 18 ∧ farR j = nI (farR j).toNatClampNeg ∧ ¬ nearR j < 0) := by decide +kernel
def nrN (j : Nat) : Nat := (nearR j).toNatClampNeg
def frN (j : Nat) : Nat := (farR j).toNatClampNeg
/-- may a piece of ply p that began on fm leap from u in direction w, T being taken -/
def leapR (S : Nat → Nat → Int32) (p : Nat) (fm : Int32) (u w : Nat) (T : Int32) : Int32 :=
  if farR (4 * u + w) < 0 then 0 else if (T >>> (nearR (4 * u + w) &&& 31)) &&& 1 = 1 then 0 else
  if sideR (S 0 (18 * p + nrN (4 * u + w))) = 1 - S 1 p then (if S 0 (18 * p + frN (4 * u + w)) = 0 then 1 else (if farR (4 * u + w) = fm then 1 else 0)) else 0

set_option maxHeartbeats 1000000 in
set_option maxRecDepth 100000 in
theorem c_leapR (l : Launch) (D : va_G) (dA : Nat → ClassId) {L : List Nat} {M : mm_M} {ob : Nat} {ad : Nat → Nat} {S : Nat → Nat → Int32} {pl qu so : Int32} {p0 u0 w0 : Nat} (x1 x2 x3 x4 x5 : Int32) (i_ob : ob ∈ L) (m_ob : M ob = rO ad pl qu so) (hA : rA dA L M ad S) (h7 : S 7 = nearR) (h8 : S 8 = farR) (hp : x1 = nI p0) (hp6 : p0 < 6) (hu : x3 = nI u0) (hu18 : u0 < 18) (hw : x5 = nI w0) (hw4 : w0 < 4) : mm_Cp l D dA yX5_leap wsX5_leap 1 [.ref ob, .int x1, .int x2, .int x3, .int x4, .int x5] L M (leapR S p0 x2 u0 w0 x4) := by
  have hA0 := hA
  have m_ob0 := m_ob
  have fR : rF L ad ob M M := rF.rf
  refine mm_enter_z (cc := cX5_leap) (maxL := 8) (by decide) rfl (Nat.le_of_ble_eq_true rfl) ?_
  intro p e R s m args below meth c A ls H locs Q hR hx hb hml hin hown hts hK hV hl hret
  have hl : lv_has ls 8 [(0, .ref ob), (1, .int x1), (2, .int x2), (3, .int x3), (4, .int x4), (5, .int x5)] := hl
  have hown : s.vm.findClass RX5 = some m.cls := hown
  have f_31 := hts (.fieldLink RX5 31 "JumpBoardModel" "near" "[I") (by decide +kernel)
  have in_X5 : ∀ w ∈ wsX50, w ∈ wsX5_leap := by decide +kernel
  have f_34 := hts (.fieldLink RX5 34 "JumpBoardModel" "far" "[I") (by decide +kernel)
  have f_7 := hts (.fieldLink RX5 7 "JumpBoardModel" "board" "[I") (by decide +kernel)
  have f_13 := hts (.fieldLink RX5 13 "JumpBoardModel" "mover" "[I") (by decide +kernel)
  refine lv_aload_n hx hb dX5_leap_0 rfl (lv_at hl 0 rfl) ?_
  refine mm_get (ci := 5) (C := RX5) (T := TX5) (N := 20) hx hb hts in_X5 hown hK hV i_ob m_ob rfl 7 (by decide) f_31 (fun _ h => h) rfl dX5_leap_1 ?_
  refine lv_iconst (v := 4) hx hb dX5_leap_4 (by decide) ?_
  refine lv_iload_n hx hb dX5_leap_5 rfl (lv_at hl 3 rfl) ?_
  refine lv_imul hx hb dX5_leap_6 ?_
  refine lv_iload hx hb dX5_leap_7 (lv_at hl 5 rfl) ?_
  refine lv_iadd hx hb dX5_leap_9 ?_
  refine mm_ialdN (j := (4 * u0 + w0)) hx hb hK hV (hA.i 7 rfl) (show M (ad 7) = .inl (dA 0, 72, .inl (S 7)) from hA.m 7 rfl) (ixR (c := 4) rfl hu hw) (by omega) (by decide) dX5_leap_10 ?_
  refine lv_topi (fun x6 ex6 => ?_)
  refine lv_istore (lv' := [(6, .int x6), (0, .ref ob), (1, .int x1), (2, .int x2), (3, .int x3), (4, .int x4), (5, .int x5)]) hx hb dX5_leap_11 hl (by decide) rfl (fun ls hl => ?_)
  have hx6 : x6 = nearR (4 * u0 + w0) := by rw [ex6, h7]
  refine lv_aload_n hx hb dX5_leap_13 rfl (lv_at hl 1 rfl) ?_
  refine mm_get (ci := 5) (C := RX5) (T := TX5) (N := 20) hx hb hts in_X5 hown hK hV i_ob m_ob rfl 8 (by decide) f_34 (fun _ h => h) rfl dX5_leap_14 ?_
  refine lv_iconst (v := 4) hx hb dX5_leap_17 (by decide) ?_
  refine lv_iload_n hx hb dX5_leap_18 rfl (lv_at hl 4 rfl) ?_
  refine lv_imul hx hb dX5_leap_19 ?_
  refine lv_iload hx hb dX5_leap_20 (lv_at hl 6 rfl) ?_
  refine lv_iadd hx hb dX5_leap_22 ?_
  refine mm_ialdN (j := (4 * u0 + w0)) hx hb hK hV (hA.i 8 rfl) (show M (ad 8) = .inl (dA 0, 72, .inl (S 8)) from hA.m 8 rfl) (ixR (c := 4) rfl hu hw) (by omega) (by decide) dX5_leap_23 ?_
  refine lv_topi (fun x7 ex7 => ?_)
  refine lv_istore (lv' := [(7, .int x7), (6, .int x6), (0, .ref ob), (1, .int x1), (2, .int x2), (3, .int x3), (4, .int x4), (5, .int x5)]) hx hb dX5_leap_24 hl (by decide) rfl (fun ls hl => ?_)
  have hx7 : x7 = farR (4 * u0 + w0) := by rw [ex7, h8]
  refine lv_iload hx hb dX5_leap_26 (lv_at hl 0 rfl) ?_
  refine lv_if_lt (tgt := 42) hx hb dX5_leap_28 (by decide) (fun c28 => ?_) (fun c28 => ?_)
  · have hL : leapR S p0 x2 u0 w0 x4 = 0 := by unfold leapR; rw [if_pos (by rw [← hx7]; exact c28)]
    refine lv_iconst (v := 0) hx hb dX5_leap_42 (by decide) ?_
    exact hret (v := 0) dX5_leap_43 hV (by decide) (by decide) (by subst_vars; (repeat' split) <;> first | exact Or.inl rfl | exact Or.inr rfl) ⟨hL.symm, rfl, rfl⟩
  · have hf := (fr_ok (4 * u0 + w0) (by omega)).resolve_left (by rw [← hx7]; exact c28)
    have hn := (nr_ok (4 * u0 + w0) (by omega)).resolve_left hf.2.2
    have hy6 : x6 = nI (nrN (4 * u0 + w0)) := by rw [hx6]; exact hn.2
    have hy7 : x7 = nI (frN (4 * u0 + w0)) := by rw [hx7]; exact hf.2.1
    have hn18 : nrN (4 * u0 + w0) < 18 := hn.1
    have hf18 : frN (4 * u0 + w0) < 18 := hf.1
    refine lv_iload hx hb dX5_leap_31 (lv_at hl 6 rfl) ?_
    refine lv_iload hx hb dX5_leap_33 (lv_at hl 1 rfl) ?_
    refine lv_ishr hx hb dX5_leap_35 ?_
    refine lv_iconst (v := 1) hx hb dX5_leap_36 (by decide) ?_
    refine lv_iand hx hb dX5_leap_37 ?_
    refine lv_iconst (v := 1) hx hb dX5_leap_38 (by decide) ?_
    refine lv_icmp_ne (tgt := 44) hx hb dX5_leap_39 (by decide) (fun c39 => ?_) (fun c39 => ?_)
    · refine lv_aload_n hx hb dX5_leap_44 rfl (lv_at hl 2 rfl) ?_
      refine mm_get (ci := 5) (C := RX5) (T := TX5) (N := 20) hx hb hts in_X5 hown hK hV i_ob m_ob rfl 0 (by decide) f_7 (fun _ h => h) rfl dX5_leap_45 ?_
      refine lv_bipush (v := 18) hx hb dX5_leap_48 (by decide) ?_
      refine lv_iload_n hx hb dX5_leap_50 rfl (lv_at hl 3 rfl) ?_
      refine lv_imul hx hb dX5_leap_51 ?_
      refine lv_iload hx hb dX5_leap_52 (lv_at hl 1 rfl) ?_
      refine lv_iadd hx hb dX5_leap_54 ?_
      refine mm_ialdN (j := (18 * p0 + nrN (4 * u0 + w0))) hx hb hK hV (hA.i 0 rfl) (show M (ad 0) = .inl (dA 0, 108, .inl (S 0)) from hA.m 0 rfl) (ixR (c := 18) rfl hp hy6) (by omega) (by decide) dX5_leap_55 ?_
      refine mm_Sp (v := (sideR ((S 0) (18 * p0 + nrN (4 * u0 + w0))))) (As := [.int ((S 0) (18 * p0 + nrN (4 * u0 + w0)))]) (rest := []) ⟨hx, hb, hml, hown, hts⟩ hK hV (c_sideR l D dA ((S 0) (18 * p0 + nrN (4 * u0 + w0)))) (va_cwS 1 hts gX5_leap_X5_sideOf rfl rfl rfl (by decide +kernel) (mm_levR hR (by omega) (by decide))) rfl hl.1 rfl (Nat.le_of_ble_eq_true rfl) dX5_leap_56 ⟨Nat.zero_le _, Nat.zero_le _⟩ (fun H locs hV => ?_)
      refine lv_iconst (v := 1) hx hb dX5_leap_59 (by decide) ?_
      refine lv_aload_n hx hb dX5_leap_60 rfl (lv_at hl 2 rfl) ?_
      refine mm_get (ci := 5) (C := RX5) (T := TX5) (N := 20) hx hb hts in_X5 hown hK hV i_ob m_ob rfl 1 (by decide) f_13 (fun _ h => h) rfl dX5_leap_61 ?_
      refine lv_iload_n hx hb dX5_leap_64 rfl (lv_at hl 3 rfl) ?_
      refine mm_ialdN (j := p0) hx hb hK hV (hA.i 1 rfl) (show M (ad 1) = .inl (dA 0, 6, .inl (S 1)) from hA.m 1 rfl) hp (by omega) (by decide) dX5_leap_65 ?_
      refine lv_isub hx hb dX5_leap_66 ?_
      refine lv_icmp_ne (tgt := 95) hx hb dX5_leap_67 (by decide) (fun c67 => ?_) (fun c67 => ?_)
      · refine lv_iconst (v := 0) hx hb dX5_leap_95 (by decide) ?_
        exact hret (v := 0) dX5_leap_96 hV (by decide) (by decide) (by subst_vars; (repeat' split) <;> first | exact Or.inl rfl | exact Or.inr rfl) ⟨by unfold leapR; rw [if_neg (by rw [← hx7]; exact c28), if_neg (by rw [← hx6]; exact c39), if_neg c67], rfl, rfl⟩
      · refine lv_aload_n hx hb dX5_leap_70 rfl (lv_at hl 2 rfl) ?_
        refine mm_get (ci := 5) (C := RX5) (T := TX5) (N := 20) hx hb hts in_X5 hown hK hV i_ob m_ob rfl 0 (by decide) f_7 (fun _ h => h) rfl dX5_leap_71 ?_
        refine lv_bipush (v := 18) hx hb dX5_leap_74 (by decide) ?_
        refine lv_iload_n hx hb dX5_leap_76 rfl (lv_at hl 3 rfl) ?_
        refine lv_imul hx hb dX5_leap_77 ?_
        refine lv_iload hx hb dX5_leap_78 (lv_at hl 0 rfl) ?_
        refine lv_iadd hx hb dX5_leap_80 ?_
        refine mm_ialdN (j := (18 * p0 + frN (4 * u0 + w0))) hx hb hK hV (hA.i 0 rfl) (show M (ad 0) = .inl (dA 0, 108, .inl (S 0)) from hA.m 0 rfl) (ixR (c := 18) rfl hp hy7) (by omega) (by decide) dX5_leap_81 ?_
        refine lv_if_eq (tgt := 91) hx hb dX5_leap_82 (by decide) (fun c82 => ?_) (fun c82 => ?_)
        · refine lv_iconst (v := 1) hx hb dX5_leap_91 (by decide) ?_
          refine lv_goto (tgt := 96) hx hb dX5_leap_92 (by decide) ?_
          exact hret (v := 1) dX5_leap_96 hV (by decide) (by decide) (by subst_vars; (repeat' split) <;> first | exact Or.inl rfl | exact Or.inr rfl) ⟨by unfold leapR; rw [if_neg (by rw [← hx7]; exact c28), if_neg (by rw [← hx6]; exact c39), if_pos c67, if_pos c82], rfl, rfl⟩
        · refine lv_iload hx hb dX5_leap_85 (lv_at hl 0 rfl) ?_
          refine lv_iload_n hx hb dX5_leap_87 rfl (lv_at hl 4 rfl) ?_
          refine lv_icmp_ne (tgt := 95) hx hb dX5_leap_88 (by decide) (fun c88 => ?_) (fun c88 => ?_)
          · refine lv_iconst (v := 0) hx hb dX5_leap_95 (by decide) ?_
            exact hret (v := 0) dX5_leap_96 hV (by decide) (by decide) (by subst_vars; (repeat' split) <;> first | exact Or.inl rfl | exact Or.inr rfl) ⟨by unfold leapR; rw [if_neg (by rw [← hx7]; exact c28), if_neg (by rw [← hx6]; exact c39), if_pos c67, if_neg c82, if_neg (by rw [← hx7]; exact c88)], rfl, rfl⟩
          · refine lv_iconst (v := 1) hx hb dX5_leap_91 (by decide) ?_
            refine lv_goto (tgt := 96) hx hb dX5_leap_92 (by decide) ?_
            exact hret (v := 1) dX5_leap_96 hV (by decide) (by decide) (by subst_vars; (repeat' split) <;> first | exact Or.inl rfl | exact Or.inr rfl) ⟨by unfold leapR; rw [if_neg (by rw [← hx7]; exact c28), if_neg (by rw [← hx6]; exact c39), if_pos c67, if_neg c82, if_pos (by rw [← hx7]; exact c88)], rfl, rfl⟩
    · have hL : leapR S p0 x2 u0 w0 x4 = 0 := by unfold leapR; rw [if_neg (by rw [← hx7]; exact c28), if_pos (by rw [← hx6]; exact c39)]
      refine lv_iconst (v := 0) hx hb dX5_leap_42 (by decide) ?_
      exact hret (v := 0) dX5_leap_43 hV (by decide) (by decide) (by subst_vars; (repeat' split) <;> first | exact Or.inl rfl | exact Or.inr rfl) ⟨hL.symm, rfl, rfl⟩

def cntR (S : Nat → Nat → Int32) (p : Nat) : Nat := (S 3 p).toNatClampNeg
/-- one direction of a step; then all of them -/
def stp1 (p f : Nat) (pc : Int32) (w : Nat) (S : Nat → Nat → Int32) : Nat → Nat → Int32 :=
  if nearR (4 * f + w) < 0 then S else if goesR pc (nI w) = 0 then S else if S 0 (18 * p + nrN (4 * f + w)) = 0 then noteR S p (cntR S p) (keyR (nI f) (nearR (4 * f + w)) 0) else S
def stpL (p f : Nat) (pc : Int32) : Nat → Nat → (Nat → Nat → Int32) → Nat → Nat → Int32
  | 0, _, S => S
  | k + 1, w, S => stpL p f pc k (w + 1) (stp1 p f pc w S)
def stpR (p f : Nat) (S : Nat → Nat → Int32) : Nat → Nat → Int32 := stpL p f (S 0 (18 * p + f)) 4 0 S
theorem noteR_ne {S : Nat → Nat → Int32} {p n : Nat} {v : Int32} {k : Nat} (h2 : k ≠ 2) (h3 : k ≠ 3) : noteR S p n v k = S k := by
  unfold noteR
  split
  · rfl
  · rw [va_up_ne _ _ h3, va_up_ne _ _ h2]
theorem noteR_cnt {S : Nat → Nat → Int32} {p n : Nat} {v : Int32} (h : S 3 p = nI n) : ∃ m, m ≤ n + 1 ∧ n ≤ m ∧ noteR S p n v 3 p = nI m := by
  unfold noteR
  split
  · exact ⟨n, by omega, Nat.le_refl _, h⟩
  · exact ⟨n + 1, Nat.le_refl _, by omega, by rw [va_up_self, pk_us]⟩
theorem cntR_eq {S : Nat → Nat → Int32} {p n : Nat} (h : S 3 p = nI n) (hn : n < 2 ^ 31) : cntR S p = n := by unfold cntR; rw [h, nI_clamp hn]

set_option maxHeartbeats 1000000 in
set_option maxRecDepth 100000 in
theorem c_stepsR (l : Launch) (D : va_G) (dA : Nat → ClassId) {L : List Nat} {M : mm_M} {ob : Nat} {ad : Nat → Nat} {S : Nat → Nat → Int32} {pl qu so : Int32} {p0 f0 n : Nat} (x1 x2 : Int32) (i_ob : ob ∈ L) (m_ob : M ob = rO ad pl qu so) (hA : rA dA L M ad S) (h7 : S 7 = nearR) (hp : x1 = nI p0) (hp6 : p0 < 6) (hf : x2 = nI f0) (hf18 : f0 < 18) (hcn : S 3 p0 = nI n) (hn : n ≤ 76) : mm_Cm l D dA yX5_steps wsX5_steps 2 [.ref ob, .int x1, .int x2] L M (fun M1 => rA dA L M1 ad (stpR p0 f0 S) ∧ M1 ob = rO ad pl qu so ∧ rF L ad ob M M1) := by
  have hA0 := hA
  have m_ob0 := m_ob
  have fR : rF L ad ob M M := rF.rf
  refine mm_enter_v (cc := cX5_steps) (maxL := 6) (by decide) rfl (Nat.le_of_ble_eq_true rfl) ?_
  intro p e R s m args below meth c A ls H locs Q hR hx hb hml hin hown hts hK hV hl hret
  have hl : lv_has ls 6 [(0, .ref ob), (1, .int x1), (2, .int x2)] := hl
  have hown : s.vm.findClass RX5 = some m.cls := hown
  have f_7 := hts (.fieldLink RX5 7 "JumpBoardModel" "board" "[I") (by decide +kernel)
  have in_X5 : ∀ w ∈ wsX50, w ∈ wsX5_steps := by decide +kernel
  have f_31 := hts (.fieldLink RX5 31 "JumpBoardModel" "near" "[I") (by decide +kernel)
  refine lv_aload_n hx hb dX5_steps_0 rfl (lv_at hl 0 rfl) ?_
  refine mm_get (ci := 5) (C := RX5) (T := TX5) (N := 20) hx hb hts in_X5 hown hK hV i_ob m_ob rfl 0 (by decide) f_7 (fun _ h => h) rfl dX5_steps_1 ?_
  refine lv_bipush (v := 18) hx hb dX5_steps_4 (by decide) ?_
  refine lv_iload_n hx hb dX5_steps_6 rfl (lv_at hl 1 rfl) ?_
  refine lv_imul hx hb dX5_steps_7 ?_
  refine lv_iload_n hx hb dX5_steps_8 rfl (lv_at hl 2 rfl) ?_
  refine lv_iadd hx hb dX5_steps_9 ?_
  refine mm_ialdN (j := (18 * p0 + f0)) hx hb hK hV (hA.i 0 rfl) (show M (ad 0) = .inl (dA 0, 108, .inl (S 0)) from hA.m 0 rfl) (ixR (c := 18) rfl hp hf) (by omega) (by decide) dX5_steps_10 ?_
  refine lv_topi (fun x3 ex3 => ?_)
  refine lv_istore_n (lv' := [(3, .int x3), (0, .ref ob), (1, .int x1), (2, .int x2)]) hx hb dX5_steps_11 rfl hl (by decide) rfl (fun ls hl => ?_)
  refine lv_iconst (v := 0) hx hb dX5_steps_12 (by decide) ?_
  refine lv_topi (fun x4 ex4 => ?_)
  refine lv_istore (lv' := [(4, .int x4), (3, .int x3), (0, .ref ob), (1, .int x1), (2, .int x2)]) hx hb dX5_steps_13 hl (by decide) rfl (fun ls hl => ?_)
  have LP : ∀ (k w n : Nat) (x4 : Int32) (S1 : Nat → Nat → Int32) (M1 : mm_M) (H : Heap) (locs : List Loc) (ls : Array Slot), w + k = 4 → x4 = nI w → S1 3 p0 = nI n → n + k ≤ 80 → S1 7 = nearR → stpL p0 f0 x3 k w S1 = stpR p0 f0 S → mm_V A D L M1 s H locs → rA dA L M1 ad S1 → M1 ob = rO ad pl qu so → rF L ad ob M M1 → lv_has ls 6 [(0, .ref ob), (1, .int x1), (2, .int x2), (3, .int x3), (4, .int x4)] → W p l e R s m args below meth c H locs 0 0 Q (F0 m 15 ls []) := by
    intro k
    induction k with
    | zero =>
      intro w n x4 S1 M1 H locs ls hwk hx4 hcn hn80 h7 hres hV hA m_ob fR hl
      refine lv_iload hx hb dX5_steps_15 (lv_at hl 4 rfl) ?_
      refine lv_iconst (v := 4) hx hb dX5_steps_17 (by decide) ?_
      refine lv_icmp_ge (tgt := 78) hx hb dX5_steps_18 (by decide) (fun c18 => ?_) (fun c18 => ?_)
      · have hres2 : S1 = stpR p0 f0 S := hres
        exact hret dX5_steps_78 hV (by decide) (by decide) ⟨rfl, by rw [← hres2]; exact hA, m_ob, fR⟩
      · exact absurd (by rw [hx4]; exact nI_le (a := 4) (by omega) (by omega)) c18
    | succ k ih =>
      intro w n x4 S1 M1 H locs ls hwk hx4 hcn hn80 h7 hres hV hA m_ob fR hl
      refine lv_iload hx hb dX5_steps_15 (lv_at hl 4 rfl) ?_
      refine lv_iconst (v := 4) hx hb dX5_steps_17 (by decide) ?_
      refine lv_icmp_ge (tgt := 78) hx hb dX5_steps_18 (by decide) (fun c18 => ?_) (fun c18 => ?_)
      · exact absurd c18 (by rw [hx4]; exact nI_ge (b := 4) (by omega) (by decide))
      · refine lv_aload_n hx hb dX5_steps_21 rfl (lv_at hl 0 rfl) ?_
        refine mm_get (ci := 5) (C := RX5) (T := TX5) (N := 20) hx hb hts in_X5 hown hK hV i_ob m_ob rfl 7 (by decide) f_31 (fun _ h => h) rfl dX5_steps_22 ?_
        refine lv_iconst (v := 4) hx hb dX5_steps_25 (by decide) ?_
        refine lv_iload_n hx hb dX5_steps_26 rfl (lv_at hl 2 rfl) ?_
        refine lv_imul hx hb dX5_steps_27 ?_
        refine lv_iload hx hb dX5_steps_28 (lv_at hl 4 rfl) ?_
        refine lv_iadd hx hb dX5_steps_30 ?_
        refine mm_ialdN (j := (4 * f0 + w)) hx hb hK hV (hA.i 7 rfl) (show M1 (ad 7) = .inl (dA 0, 72, .inl (S1 7)) from hA.m 7 rfl) (ixR (c := 4) rfl hf hx4) (by omega) (by decide) dX5_steps_31 ?_
        refine lv_topi (fun x5 ex5 => ?_)
        refine lv_istore (lv' := [(5, .int x5), (0, .ref ob), (1, .int x1), (2, .int x2), (3, .int x3), (4, .int x4)]) hx hb dX5_steps_32 hl (by decide) rfl (fun ls hl => ?_)
        have hx5 : x5 = nearR (4 * f0 + w) := by rw [ex5, h7]
        refine lv_iload hx hb dX5_steps_34 (lv_at hl 0 rfl) ?_
        refine lv_if_lt (tgt := 72) hx hb dX5_steps_36 (by decide) (fun c36 => ?_) (fun c36 => ?_)
        · obtain ⟨x4_n, ex4_n⟩ : ∃ y : Int32, y = x4 + 1 := ⟨_, rfl⟩
          refine lv_iinc (v := x4_n) (lv' := [(4, .int x4_n), (5, .int x5), (0, .ref ob), (1, .int x1), (2, .int x2), (3, .int x3)]) hx hb dX5_steps_72 hl (k := 5) rfl (by rw [ex4_n]; rfl) (by decide) rfl (fun ls hl => ?_)
          refine lv_goto (tgt := 15) hx hb dX5_steps_75 (by decide) ?_
          exact ih (w + 1) n x4_n S1 M1 _ _ ls (by omega) (by rw [ex4_n, hx4]; exact nI_1 w) hcn (by omega) h7 (by rw [← hres, stpL, stp1, ← hx5, if_pos c36]) hV hA m_ob fR (lv_sub hl [2, 3, 4, 5, 0] rfl)
        · have hn9 := (nr_ok (4 * f0 + w) (by omega)).resolve_left (by rw [← hx5]; exact c36)
          have hy5 : x5 = nI (nrN (4 * f0 + w)) := by rw [hx5]; exact hn9.2
          have hn18 : nrN (4 * f0 + w) < 18 := hn9.1
          refine lv_iload_n hx hb dX5_steps_39 rfl (lv_at hl 4 rfl) ?_
          refine lv_iload hx hb dX5_steps_40 (lv_at hl 5 rfl) ?_
          refine mm_Sp (v := (goesR x3 x4)) (As := [.int x3, .int x4]) (rest := []) ⟨hx, hb, hml, hown, hts⟩ hK hV (c_goesR l D dA x3 x4) (va_cwS 2 hts gX5_steps_X5_goes rfl rfl rfl (by decide +kernel) (mm_levR hR (by omega) (by decide))) rfl hl.1 rfl (Nat.le_of_ble_eq_true rfl) dX5_steps_42 ⟨Nat.zero_le _, Nat.zero_le _⟩ (fun H locs hV => ?_)
          refine lv_if_eq (tgt := 72) hx hb dX5_steps_45 (by decide) (fun c45 => ?_) (fun c45 => ?_)
          · obtain ⟨x4_n, ex4_n⟩ : ∃ y : Int32, y = x4 + 1 := ⟨_, rfl⟩
            refine lv_iinc (v := x4_n) (lv' := [(4, .int x4_n), (5, .int x5), (0, .ref ob), (1, .int x1), (2, .int x2), (3, .int x3)]) hx hb dX5_steps_72 hl (k := 5) rfl (by rw [ex4_n]; rfl) (by decide) rfl (fun ls hl => ?_)
            refine lv_goto (tgt := 15) hx hb dX5_steps_75 (by decide) ?_
            exact ih (w + 1) n x4_n S1 M1 _ _ ls (by omega) (by rw [ex4_n, hx4]; exact nI_1 w) hcn (by omega) h7 (by rw [← hres, stpL, stp1, ← hx5, if_neg c36, ← hx4, if_pos c45]) hV hA m_ob fR (lv_sub hl [2, 3, 4, 5, 0] rfl)
          · refine lv_aload_n hx hb dX5_steps_48 rfl (lv_at hl 1 rfl) ?_
            refine mm_get (ci := 5) (C := RX5) (T := TX5) (N := 20) hx hb hts in_X5 hown hK hV i_ob m_ob rfl 0 (by decide) f_7 (fun _ h => h) rfl dX5_steps_49 ?_
            refine lv_bipush (v := 18) hx hb dX5_steps_52 (by decide) ?_
            refine lv_iload_n hx hb dX5_steps_54 rfl (lv_at hl 2 rfl) ?_
            refine lv_imul hx hb dX5_steps_55 ?_
            refine lv_iload hx hb dX5_steps_56 (lv_at hl 0 rfl) ?_
            refine lv_iadd hx hb dX5_steps_58 ?_
            refine mm_ialdN (j := (18 * p0 + nrN (4 * f0 + w))) hx hb hK hV (hA.i 0 rfl) (show M1 (ad 0) = .inl (dA 0, 108, .inl (S1 0)) from hA.m 0 rfl) (ixR (c := 18) rfl hp hy5) (by omega) (by decide) dX5_steps_59 ?_
            refine lv_if_ne (tgt := 72) hx hb dX5_steps_60 (by decide) (fun c60 => ?_) (fun c60 => ?_)
            · obtain ⟨x4_n, ex4_n⟩ : ∃ y : Int32, y = x4 + 1 := ⟨_, rfl⟩
              refine lv_iinc (v := x4_n) (lv' := [(4, .int x4_n), (5, .int x5), (0, .ref ob), (1, .int x1), (2, .int x2), (3, .int x3)]) hx hb dX5_steps_72 hl (k := 5) rfl (by rw [ex4_n]; rfl) (by decide) rfl (fun ls hl => ?_)
              refine lv_goto (tgt := 15) hx hb dX5_steps_75 (by decide) ?_
              exact ih (w + 1) n x4_n S1 M1 _ _ ls (by omega) (by rw [ex4_n, hx4]; exact nI_1 w) hcn (by omega) h7 (by rw [← hres, stpL, stp1, ← hx5, if_neg c36, ← hx4, if_neg c45, if_neg c60]) hV hA m_ob fR (lv_sub hl [2, 3, 4, 5, 0] rfl)
            · refine lv_aload_n hx hb dX5_steps_63 rfl (lv_at hl 1 rfl) ?_
              refine lv_iload_n hx hb dX5_steps_64 rfl (lv_at hl 2 rfl) ?_
              refine lv_iload_n hx hb dX5_steps_65 rfl (lv_at hl 3 rfl) ?_
              refine lv_iload hx hb dX5_steps_66 (lv_at hl 0 rfl) ?_
              refine lv_iconst (v := 0) hx hb dX5_steps_68 (by decide) ?_
              refine mm_Vm (ci := 5) (As := [.int x1, .int x2, .int x5, .int 0]) (rest := []) ⟨hx, hb, hml, hown, hts⟩ hK hV (c_noteR l D dA (p0 := p0) (n := n) x1 x2 x5 0 i_ob m_ob hA hp hp6 hcn (by omega)) (cwV 4 hts gX5_steps_X5_note rfl rfl rfl (by decide +kernel) (mm_levR hR (by omega) (by decide))) i_ob m_ob rfl rfl hl.1 rfl (Nat.le_of_ble_eq_true rfl) dX5_steps_69 ⟨Nat.zero_le _, Nat.zero_le _⟩ (fun M_1 H locs hp hV => ?_)
              obtain ⟨hA, m_ob, fR9⟩ := hp
              have fR : rF L ad ob M M_1 := fR.tr fR9
              obtain ⟨S_2, eS_2⟩ : ∃ z, z = noteR S1 p0 n (keyR x2 x5 0) := ⟨_, rfl⟩
              rw [← eS_2] at hA
              obtain ⟨x4_n, ex4_n⟩ : ∃ y : Int32, y = x4 + 1 := ⟨_, rfl⟩
              refine lv_iinc (v := x4_n) (lv' := [(4, .int x4_n), (5, .int x5), (0, .ref ob), (1, .int x1), (2, .int x2), (3, .int x3)]) hx hb dX5_steps_72 hl (k := 5) rfl (by rw [ex4_n]; rfl) (by decide) rfl (fun ls hl => ?_)
              refine lv_goto (tgt := 15) hx hb dX5_steps_75 (by decide) ?_
              obtain ⟨m9, hm1, hm2, hm3⟩ := noteR_cnt (v := keyR x2 x5 0) hcn
              rw [← eS_2] at hm3
              exact ih (w + 1) m9 x4_n S_2 M_1 _ _ ls (by omega) (by rw [ex4_n, hx4]; exact nI_1 w) hm3 (by omega) (by rw [eS_2, noteR_ne (by decide) (by decide)]; exact h7) (by rw [← hres, stpL, stp1, ← hx5, if_neg c36, ← hx4, if_neg c45, if_pos c60, cntR_eq hcn (by omega), ← hf, ← eS_2]) hV hA m_ob fR (lv_sub hl [2, 3, 4, 5, 0] rfl)
  exact LP 4 0 n x4 S M H locs ls rfl (by rw [ex4]; rfl) hcn (by omega) h7 (by rw [ex3]; rfl) hV hA m_ob fR (lv_sub hl [2, 3, 4, 1, 0] rfl)
