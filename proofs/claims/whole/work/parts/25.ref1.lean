def keyR (a b t : Int32) : Int32 := 262144 * (18 * a + b) + t
/-- the first place from j on, of k, whose entry isn't below v -/
def rplc (f : Nat → Int32) (v : Int32) : Nat → Nat → Nat
  | 0, j => j
  | k + 1, j => if v ≤ f j then j else rplc f v k (j + 1)
theorem rplc_le (f : Nat → Int32) (v : Int32) : ∀ k j, j ≤ rplc f v k j ∧ rplc f v k j ≤ j + k
  | 0, j => ⟨Nat.le_refl _, Nat.le_refl _⟩
  | k + 1, j => by
    unfold rplc
    split
    · exact ⟨Nat.le_refl _, by omega⟩
    · have := rplc_le f v k (j + 1); omega
def insF (f : Nat → Int32) (a e : Nat) (v : Int32) : Nat → Int32 := fun i => if i < a then f i else if i = a then v else if i ≤ e then f (i - 1) else f i
/-- the list of ply p, of n moves, with a move more -/
def noteR (S : Nat → Nat → Int32) (p n : Nat) (v : Int32) : Nat → Nat → Int32 :=
  if rplc (S 2) v n (80 * p) < 80 * p + n ∧ S 2 (rplc (S 2) v n (80 * p)) = v then S
  else va_up (va_up S 2 (insF (S 2) (rplc (S 2) v n (80 * p)) (80 * p + n) v)) 3 (upd (S 3) p (nI (n + 1)))
theorem mulN {c a : Nat} {x y : Int32} (hx : x = nI c) (hy : y = nI a) : x * y = nI (c * a) := by subst hx; subst hy; exact pk_mul c a
theorem addN {c a : Nat} {x y : Int32} (hx : x = nI c) (hy : y = nI a) : x + y = nI (c + a) := by subst hx; subst hy; exact nI_add c a
theorem ixR {c a b : Nat} {z x y : Int32} (hz : z = nI c) (hx : x = nI a) (hy : y = nI b) : z * x + y = nI (c * a + b) := addN (mulN hz hx) hy

set_option maxHeartbeats 1000000 in
set_option maxRecDepth 100000 in
theorem c_noteR (l : Launch) (D : va_G) (dA : Nat → ClassId) {L : List Nat} {M : mm_M} {ob : Nat} {ad : Nat → Nat} {S : Nat → Nat → Int32} {pl qu so : Int32} {p0 n : Nat} (x1 x2 x3 x4 : Int32) (i_ob : ob ∈ L) (m_ob : M ob = rO ad pl qu so) (hA : rA dA L M ad S) (hp : x1 = nI p0) (hp6 : p0 < 6) (hcn : S 3 p0 = nI n) (hn : n < 80) : mm_Cm l D dA yX5_note wsX5_note 0 [.ref ob, .int x1, .int x2, .int x3, .int x4] L M (fun M1 => rA dA L M1 ad (noteR S p0 n (keyR x2 x3 x4)) ∧ M1 ob = rO ad pl qu so ∧ rF L ad ob M M1) := by
  have hA0 := hA
  have m_ob0 := m_ob
  have fR : rF L ad ob M M := rF.rf
  refine mm_enter_v (cc := cX5_note) (maxL := 9) (by decide) rfl (Nat.le_of_ble_eq_true rfl) ?_
  intro p e R s m args below meth c A ls H locs Q hR hx hb hml hin hown hts hK hV hl hret
  have hl : lv_has ls 9 [(0, .ref ob), (1, .int x1), (2, .int x2), (3, .int x3), (4, .int x4)] := hl
  have hown : s.vm.findClass RX5 = some m.cls := hown
  have f_19 := hts (.fieldLink RX5 19 "JumpBoardModel" "count" "[I") (by decide +kernel)
  have in_X5 : ∀ w ∈ wsX50, w ∈ wsX5_note := by decide +kernel
  have f_16 := hts (.fieldLink RX5 16 "JumpBoardModel" "list" "[I") (by decide +kernel)
  refine lv_ldc hx hb hown (hts (.constant RX5 77 (262144)) (by decide +kernel)) dX5_note_0 ?_
  refine lv_bipush (v := 18) hx hb dX5_note_2 (by decide) ?_
  refine lv_iload_n hx hb dX5_note_4 rfl (lv_at hl 2 rfl) ?_
  refine lv_imul hx hb dX5_note_5 ?_
  refine lv_iload_n hx hb dX5_note_6 rfl (lv_at hl 3 rfl) ?_
  refine lv_iadd hx hb dX5_note_7 ?_
  refine lv_imul hx hb dX5_note_8 ?_
  refine lv_iload hx hb dX5_note_9 (lv_at hl 4 rfl) ?_
  refine lv_iadd hx hb dX5_note_11 ?_
  refine lv_topi (fun x5 ex5 => ?_)
  refine lv_istore (lv' := [(5, .int x5), (0, .ref ob), (1, .int x1), (2, .int x2), (3, .int x3), (4, .int x4)]) hx hb dX5_note_12 hl (by decide) rfl (fun ls hl => ?_)
  have hx5 : x5 = keyR x2 x3 x4 := ex5
  refine lv_bipush (v := 80) hx hb dX5_note_14 (by decide) ?_
  refine lv_iload_n hx hb dX5_note_16 rfl (lv_at hl 2 rfl) ?_
  refine lv_imul hx hb dX5_note_17 ?_
  refine lv_topi (fun x6 ex6 => ?_)
  refine lv_istore (lv' := [(6, .int x6), (5, .int x5), (0, .ref ob), (1, .int x1), (2, .int x2), (3, .int x3), (4, .int x4)]) hx hb dX5_note_18 hl (by decide) rfl (fun ls hl => ?_)
  have hx6 : x6 = nI (80 * p0) := by rw [ex6]; exact mulN (c := 80) rfl hp
  refine lv_iload hx hb dX5_note_20 (lv_at hl 0 rfl) ?_
  refine lv_aload_n hx hb dX5_note_22 rfl (lv_at hl 2 rfl) ?_
  refine mm_get (ci := 5) (C := RX5) (T := TX5) (N := 20) hx hb hts in_X5 hown hK hV i_ob m_ob rfl 3 (by decide) f_19 (fun _ h => h) rfl dX5_note_23 ?_
  refine lv_iload_n hx hb dX5_note_26 rfl (lv_at hl 3 rfl) ?_
  refine mm_ialdN (j := p0) hx hb hK hV (hA.i 3 rfl) (show M (ad 3) = .inl (dA 0, 6, .inl (S 3)) from hA.m 3 rfl) hp (by omega) (by decide) dX5_note_27 ?_
  refine lv_iadd hx hb dX5_note_28 ?_
  refine lv_topi (fun x7 ex7 => ?_)
  refine lv_istore (lv' := [(7, .int x7), (6, .int x6), (5, .int x5), (0, .ref ob), (1, .int x1), (2, .int x2), (3, .int x3), (4, .int x4)]) hx hb dX5_note_29 hl (by decide) rfl (fun ls hl => ?_)
  have hx7 : x7 = nI (80 * p0 + n) := by rw [ex7]; exact addN hx6 hcn
  have K56 : ∀ (j : Nat) (x6 : Int32) (ls : Array Slot), x6 = nI j → 80 * p0 ≤ j → j ≤ 80 * p0 + n → rplc (S 2) x5 n (80 * p0) = j → lv_has ls 9 [(0, .ref ob), (1, .int x1), (5, .int x5), (6, .int x6), (7, .int x7)] → W p l e R s m args below meth c H locs 0 0 Q (F0 m 56 ls []) := by
    intro j x6 ls hx6 hj0 hj hpl hl
    refine lv_iload hx hb dX5_note_56 (lv_at hl 3 rfl) ?_
    refine lv_iload hx hb dX5_note_58 (lv_at hl 4 rfl) ?_
    refine lv_icmp_ge (tgt := 76) hx hb dX5_note_60 (by decide) (fun c60 => ?_) (fun c60 => ?_)
    · have hjn : ¬ j < 80 * p0 + n := fun h => absurd c60 (by rw [hx6, hx7]; exact nI_ge h (by omega))
      have hno : ¬ (rplc (S 2) x5 n (80 * p0) < 80 * p0 + n ∧ S 2 (rplc (S 2) x5 n (80 * p0)) = x5) := fun h => hjn (by rw [← hpl]; exact h.1)
      refine lv_iload hx hb dX5_note_76 (lv_at hl 4 rfl) ?_
      refine lv_topi (fun x8 ex8 => ?_)
      refine lv_istore (lv' := [(8, .int x8), (0, .ref ob), (1, .int x1), (5, .int x5), (6, .int x6), (7, .int x7)]) hx hb dX5_note_78 hl (by decide) rfl (fun ls hl => ?_)
      have LQ : ∀ (d i : Nat) (x8 : Int32) (S1 : Nat → Nat → Int32) (M1 : mm_M) (H : Heap) (locs : List Loc) (ls : Array Slot), i = j + d → i ≤ 80 * p0 + n → x8 = nI i → S1 = va_up S 2 (shF (S 2) (80 * p0 + n) i) → mm_V A D L M1 s H locs → rA dA L M1 ad S1 → M1 ob = rO ad pl qu so → rF L ad ob M M1 → lv_has ls 9 [(0, .ref ob), (1, .int x1), (5, .int x5), (6, .int x6), (8, .int x8)] → W p l e R s m args below meth c H locs 0 0 Q (F0 m 80 ls []) := by
        intro d
        induction d with
        | zero =>
          intro i x8 S1 M1 H locs ls hd hi hx8 hS1 hV hA m_ob fR hl
          refine lv_iload hx hb dX5_note_80 (lv_at hl 4 rfl) ?_
          refine lv_iload hx hb dX5_note_82 (lv_at hl 3 rfl) ?_
          refine lv_icmp_le (tgt := 109) hx hb dX5_note_84 (by decide) (fun c84 => ?_) (fun c84 => ?_)
          · have hij : i = j := by omega
            subst hij
            refine lv_aload_n hx hb dX5_note_109 rfl (lv_at hl 0 rfl) ?_
            refine mm_get (ci := 5) (C := RX5) (T := TX5) (N := 20) hx hb hts in_X5 hown hK hV i_ob m_ob rfl 2 (by decide) f_16 (fun _ h => h) rfl dX5_note_110 ?_
            refine lv_iload hx hb dX5_note_113 (lv_at hl 3 rfl) ?_
            refine lv_iload hx hb dX5_note_115 (lv_at hl 2 rfl) ?_
            refine mm_iastN (j := i) (x := x5) hx hb hK hV (hA.i 2 rfl) (show M1 (ad 2) = .inl (dA 0, 480, .inl (S1 2)) from hA.m 2 rfl) hx6 (by omega) (by decide) dX5_note_117 (fun M_1 H locs eM_1 hV => ?_)
            obtain ⟨S2, eS2⟩ : ∃ z, z = va_up S1 2 (upd (S1 2) i x5) := ⟨_, rfl⟩
            have hA : rA dA L M_1 ad S2 := by rw [eS2]; exact hA.up 2 rfl eM_1
            have m_ob : M_1 ob = rO ad pl qu so := (congrFun eM_1 ob).trans ((va_up_ne _ _ (fun h => hA0.nob 2 rfl m_ob0 h)).trans m_ob)
            have fR : rF L ad ob M M_1 := fR.up 2 rfl eM_1
            refine lv_aload_n hx hb dX5_note_118 rfl (lv_at hl 0 rfl) ?_
            refine mm_get (ci := 5) (C := RX5) (T := TX5) (N := 20) hx hb hts in_X5 hown hK hV i_ob m_ob rfl 3 (by decide) f_19 (fun _ h => h) rfl dX5_note_119 ?_
            refine lv_iload_n hx hb dX5_note_122 rfl (lv_at hl 1 rfl) ?_
            refine lv_dup2_11 hx hb dX5_note_123 rfl rfl ?_
            refine mm_ialdN (j := p0) hx hb hK hV (hA.i 3 rfl) (show M_1 (ad 3) = .inl (dA 0, 6, .inl (S2 3)) from hA.m 3 rfl) hp (by omega) (by decide) dX5_note_124 ?_
            refine lv_iconst (v := 1) hx hb dX5_note_125 (by decide) ?_
            refine lv_iadd hx hb dX5_note_126 ?_
            refine lv_topi (fun cn ecn => ?_)
            refine mm_iastN (j := p0) (x := cn) hx hb hK hV (hA.i 3 rfl) (show M_1 (ad 3) = .inl (dA 0, 6, .inl (S2 3)) from hA.m 3 rfl) hp (by omega) (by decide) dX5_note_127 (fun M_2 H locs eM_2 hV => ?_)
            obtain ⟨S3, eS3⟩ : ∃ z, z = va_up S2 3 (upd (S2 3) p0 cn) := ⟨_, rfl⟩
            have hA : rA dA L M_2 ad S3 := by rw [eS3]; exact hA.up 3 rfl eM_2
            have m_ob : M_2 ob = rO ad pl qu so := (congrFun eM_2 ob).trans ((va_up_ne _ _ (fun h => hA0.nob 3 rfl m_ob0 h)).trans m_ob)
            have fR : rF L ad ob M M_2 := fR.up 3 rfl eM_2
            have hfin : noteR S p0 n x5 = S3 := by
              unfold noteR
              rw [if_neg hno, hpl, eS3, eS2, ecn, eS2, hS1, va_up_self, bx_uu, shF_end _ _ _ _ hi, va_up_ne _ _ (by decide), hcn, nI_1]
              rfl
            exact hret dX5_note_128 hV (by decide) (by decide) ⟨rfl, by rw [← hx5, show noteR S p0 n x5 = S3 from hfin]; exact hA, m_ob, fR⟩
          · exact absurd (by rw [hx8, hx6, hd]; exact Int32.le_refl _) c84
        | succ d ih =>
          intro i x8 S1 M1 H locs ls hd hi hx8 hS1 hV hA m_ob fR hl
          refine lv_iload hx hb dX5_note_80 (lv_at hl 4 rfl) ?_
          refine lv_iload hx hb dX5_note_82 (lv_at hl 3 rfl) ?_
          refine lv_icmp_le (tgt := 109) hx hb dX5_note_84 (by decide) (fun c84 => ?_) (fun c84 => ?_)
          · exact absurd c84 (by rw [hx8, hx6, hd]; exact nI_ge (by omega) (by omega))
          · refine lv_aload_n hx hb dX5_note_87 rfl (lv_at hl 0 rfl) ?_
            refine mm_get (ci := 5) (C := RX5) (T := TX5) (N := 20) hx hb hts in_X5 hown hK hV i_ob m_ob rfl 2 (by decide) f_16 (fun _ h => h) rfl dX5_note_88 ?_
            refine lv_iload hx hb dX5_note_91 (lv_at hl 4 rfl) ?_
            refine lv_aload_n hx hb dX5_note_93 rfl (lv_at hl 0 rfl) ?_
            refine mm_get (ci := 5) (C := RX5) (T := TX5) (N := 20) hx hb hts in_X5 hown hK hV i_ob m_ob rfl 2 (by decide) f_16 (fun _ h => h) rfl dX5_note_94 ?_
            refine lv_iload hx hb dX5_note_97 (lv_at hl 4 rfl) ?_
            refine lv_iconst (v := 1) hx hb dX5_note_99 (by decide) ?_
            refine lv_isub hx hb dX5_note_100 ?_
            refine mm_ialdN (j := (i - 1)) hx hb hK hV (hA.i 2 rfl) (show M1 (ad 2) = .inl (dA 0, 480, .inl (S1 2)) from hA.m 2 rfl) (by rw [hx8]; exact mm_pred (by omega)) (by omega) (by decide) dX5_note_101 ?_
            refine lv_topi (fun va eva => ?_)
            refine mm_iastN (j := i) (x := va) hx hb hK hV (hA.i 2 rfl) (show M1 (ad 2) = .inl (dA 0, 480, .inl (S1 2)) from hA.m 2 rfl) hx8 (by omega) (by decide) dX5_note_102 (fun M_3 H locs eM_3 hV => ?_)
            obtain ⟨S2, eS2⟩ : ∃ z, z = va_up S1 2 (upd (S1 2) i va) := ⟨_, rfl⟩
            have hA : rA dA L M_3 ad S2 := by rw [eS2]; exact hA.up 2 rfl eM_3
            have m_ob : M_3 ob = rO ad pl qu so := (congrFun eM_3 ob).trans ((va_up_ne _ _ (fun h => hA0.nob 2 rfl m_ob0 h)).trans m_ob)
            have fR : rF L ad ob M M_3 := fR.up 2 rfl eM_3
            obtain ⟨x8_n, ex8_n⟩ : ∃ y : Int32, y = x8 + (-1) := ⟨_, rfl⟩
            refine lv_iinc (v := x8_n) (lv' := [(8, .int x8_n), (0, .ref ob), (1, .int x1), (5, .int x5), (6, .int x6)]) hx hb dX5_note_103 hl (k := 4) rfl (by rw [ex8_n]; rfl) (by decide) rfl (fun ls hl => ?_)
            refine lv_goto (tgt := 80) hx hb dX5_note_106 (by decide) ?_
            exact ih (i - 1) x8_n S2 M_3 _ _ ls (by omega) (by omega) (by rw [ex8_n, hx8]; exact mm_pred' (by omega)) (by rw [eS2, eva, hS1, va_up_self, bx_uu, shF_step (by omega) hi]) hV hA m_ob fR (lv_sub hl [1, 2, 3, 4, 0] rfl)
      exact LQ (80 * p0 + n - j) (80 * p0 + n) x8 S M H locs ls (by omega) (Nat.le_refl _) (by rw [ex8]; exact hx7) (by rw [shF_0]; funext q; by_cases h : q = 2; subst h; rw [va_up_self]; rw [va_up_ne _ _ h]) hV hA m_ob fR (lv_sub hl [1, 2, 3, 4, 0] rfl)
    · have hjn : j < 80 * p0 + n := (nI_ltI (by omega) (by omega)).mp (by rw [← hx6, ← hx7]; exact Int32.not_le.mp c60)
      refine lv_aload_n hx hb dX5_note_63 rfl (lv_at hl 0 rfl) ?_
      refine mm_get (ci := 5) (C := RX5) (T := TX5) (N := 20) hx hb hts in_X5 hown hK hV i_ob m_ob rfl 2 (by decide) f_16 (fun _ h => h) rfl dX5_note_64 ?_
      refine lv_iload hx hb dX5_note_67 (lv_at hl 3 rfl) ?_
      refine mm_ialdN (j := j) hx hb hK hV (hA.i 2 rfl) (show M (ad 2) = .inl (dA 0, 480, .inl (S 2)) from hA.m 2 rfl) hx6 (by omega) (by decide) dX5_note_69 ?_
      refine lv_iload hx hb dX5_note_70 (lv_at hl 2 rfl) ?_
      refine lv_icmp_ne (tgt := 76) hx hb dX5_note_72 (by decide) (fun c72 => ?_) (fun c72 => ?_)
      · have hno : ¬ (rplc (S 2) x5 n (80 * p0) < 80 * p0 + n ∧ S 2 (rplc (S 2) x5 n (80 * p0)) = x5) := fun h => c72 (by rw [← hpl]; exact h.2)
        refine lv_iload hx hb dX5_note_76 (lv_at hl 4 rfl) ?_
        refine lv_topi (fun x8 ex8 => ?_)
        refine lv_istore (lv' := [(8, .int x8), (0, .ref ob), (1, .int x1), (5, .int x5), (6, .int x6), (7, .int x7)]) hx hb dX5_note_78 hl (by decide) rfl (fun ls hl => ?_)
        have LQ : ∀ (d i : Nat) (x8 : Int32) (S1 : Nat → Nat → Int32) (M1 : mm_M) (H : Heap) (locs : List Loc) (ls : Array Slot), i = j + d → i ≤ 80 * p0 + n → x8 = nI i → S1 = va_up S 2 (shF (S 2) (80 * p0 + n) i) → mm_V A D L M1 s H locs → rA dA L M1 ad S1 → M1 ob = rO ad pl qu so → rF L ad ob M M1 → lv_has ls 9 [(0, .ref ob), (1, .int x1), (5, .int x5), (6, .int x6), (8, .int x8)] → W p l e R s m args below meth c H locs 0 0 Q (F0 m 80 ls []) := by
          intro d
          induction d with
          | zero =>
            intro i x8 S1 M1 H locs ls hd hi hx8 hS1 hV hA m_ob fR hl
            refine lv_iload hx hb dX5_note_80 (lv_at hl 4 rfl) ?_
            refine lv_iload hx hb dX5_note_82 (lv_at hl 3 rfl) ?_
            refine lv_icmp_le (tgt := 109) hx hb dX5_note_84 (by decide) (fun c84 => ?_) (fun c84 => ?_)
            · have hij : i = j := by omega
              subst hij
              refine lv_aload_n hx hb dX5_note_109 rfl (lv_at hl 0 rfl) ?_
              refine mm_get (ci := 5) (C := RX5) (T := TX5) (N := 20) hx hb hts in_X5 hown hK hV i_ob m_ob rfl 2 (by decide) f_16 (fun _ h => h) rfl dX5_note_110 ?_
              refine lv_iload hx hb dX5_note_113 (lv_at hl 3 rfl) ?_
              refine lv_iload hx hb dX5_note_115 (lv_at hl 2 rfl) ?_
              refine mm_iastN (j := i) (x := x5) hx hb hK hV (hA.i 2 rfl) (show M1 (ad 2) = .inl (dA 0, 480, .inl (S1 2)) from hA.m 2 rfl) hx6 (by omega) (by decide) dX5_note_117 (fun M_4 H locs eM_4 hV => ?_)
              obtain ⟨S2, eS2⟩ : ∃ z, z = va_up S1 2 (upd (S1 2) i x5) := ⟨_, rfl⟩
              have hA : rA dA L M_4 ad S2 := by rw [eS2]; exact hA.up 2 rfl eM_4
              have m_ob : M_4 ob = rO ad pl qu so := (congrFun eM_4 ob).trans ((va_up_ne _ _ (fun h => hA0.nob 2 rfl m_ob0 h)).trans m_ob)
              have fR : rF L ad ob M M_4 := fR.up 2 rfl eM_4
              refine lv_aload_n hx hb dX5_note_118 rfl (lv_at hl 0 rfl) ?_
              refine mm_get (ci := 5) (C := RX5) (T := TX5) (N := 20) hx hb hts in_X5 hown hK hV i_ob m_ob rfl 3 (by decide) f_19 (fun _ h => h) rfl dX5_note_119 ?_
              refine lv_iload_n hx hb dX5_note_122 rfl (lv_at hl 1 rfl) ?_
              refine lv_dup2_11 hx hb dX5_note_123 rfl rfl ?_
              refine mm_ialdN (j := p0) hx hb hK hV (hA.i 3 rfl) (show M_4 (ad 3) = .inl (dA 0, 6, .inl (S2 3)) from hA.m 3 rfl) hp (by omega) (by decide) dX5_note_124 ?_
              refine lv_iconst (v := 1) hx hb dX5_note_125 (by decide) ?_
              refine lv_iadd hx hb dX5_note_126 ?_
              refine lv_topi (fun cn ecn => ?_)
              refine mm_iastN (j := p0) (x := cn) hx hb hK hV (hA.i 3 rfl) (show M_4 (ad 3) = .inl (dA 0, 6, .inl (S2 3)) from hA.m 3 rfl) hp (by omega) (by decide) dX5_note_127 (fun M_5 H locs eM_5 hV => ?_)
              obtain ⟨S3, eS3⟩ : ∃ z, z = va_up S2 3 (upd (S2 3) p0 cn) := ⟨_, rfl⟩
              have hA : rA dA L M_5 ad S3 := by rw [eS3]; exact hA.up 3 rfl eM_5
              have m_ob : M_5 ob = rO ad pl qu so := (congrFun eM_5 ob).trans ((va_up_ne _ _ (fun h => hA0.nob 3 rfl m_ob0 h)).trans m_ob)
              have fR : rF L ad ob M M_5 := fR.up 3 rfl eM_5
              have hfin : noteR S p0 n x5 = S3 := by
                unfold noteR
                rw [if_neg hno, hpl, eS3, eS2, ecn, eS2, hS1, va_up_self, bx_uu, shF_end _ _ _ _ hi, va_up_ne _ _ (by decide), hcn, nI_1]
                rfl
              exact hret dX5_note_128 hV (by decide) (by decide) ⟨rfl, by rw [← hx5, show noteR S p0 n x5 = S3 from hfin]; exact hA, m_ob, fR⟩
            · exact absurd (by rw [hx8, hx6, hd]; exact Int32.le_refl _) c84
          | succ d ih =>
            intro i x8 S1 M1 H locs ls hd hi hx8 hS1 hV hA m_ob fR hl
            refine lv_iload hx hb dX5_note_80 (lv_at hl 4 rfl) ?_
            refine lv_iload hx hb dX5_note_82 (lv_at hl 3 rfl) ?_
            refine lv_icmp_le (tgt := 109) hx hb dX5_note_84 (by decide) (fun c84 => ?_) (fun c84 => ?_)
            · exact absurd c84 (by rw [hx8, hx6, hd]; exact nI_ge (by omega) (by omega))
            · refine lv_aload_n hx hb dX5_note_87 rfl (lv_at hl 0 rfl) ?_
              refine mm_get (ci := 5) (C := RX5) (T := TX5) (N := 20) hx hb hts in_X5 hown hK hV i_ob m_ob rfl 2 (by decide) f_16 (fun _ h => h) rfl dX5_note_88 ?_
              refine lv_iload hx hb dX5_note_91 (lv_at hl 4 rfl) ?_
              refine lv_aload_n hx hb dX5_note_93 rfl (lv_at hl 0 rfl) ?_
              refine mm_get (ci := 5) (C := RX5) (T := TX5) (N := 20) hx hb hts in_X5 hown hK hV i_ob m_ob rfl 2 (by decide) f_16 (fun _ h => h) rfl dX5_note_94 ?_
              refine lv_iload hx hb dX5_note_97 (lv_at hl 4 rfl) ?_
              refine lv_iconst (v := 1) hx hb dX5_note_99 (by decide) ?_
              refine lv_isub hx hb dX5_note_100 ?_
              refine mm_ialdN (j := (i - 1)) hx hb hK hV (hA.i 2 rfl) (show M1 (ad 2) = .inl (dA 0, 480, .inl (S1 2)) from hA.m 2 rfl) (by rw [hx8]; exact mm_pred (by omega)) (by omega) (by decide) dX5_note_101 ?_
              refine lv_topi (fun va eva => ?_)
              refine mm_iastN (j := i) (x := va) hx hb hK hV (hA.i 2 rfl) (show M1 (ad 2) = .inl (dA 0, 480, .inl (S1 2)) from hA.m 2 rfl) hx8 (by omega) (by decide) dX5_note_102 (fun M_6 H locs eM_6 hV => ?_)
              obtain ⟨S2, eS2⟩ : ∃ z, z = va_up S1 2 (upd (S1 2) i va) := ⟨_, rfl⟩
              have hA : rA dA L M_6 ad S2 := by rw [eS2]; exact hA.up 2 rfl eM_6
              have m_ob : M_6 ob = rO ad pl qu so := (congrFun eM_6 ob).trans ((va_up_ne _ _ (fun h => hA0.nob 2 rfl m_ob0 h)).trans m_ob)
              have fR : rF L ad ob M M_6 := fR.up 2 rfl eM_6
              obtain ⟨x8_n, ex8_n⟩ : ∃ y : Int32, y = x8 + (-1) := ⟨_, rfl⟩
              refine lv_iinc (v := x8_n) (lv' := [(8, .int x8_n), (0, .ref ob), (1, .int x1), (5, .int x5), (6, .int x6)]) hx hb dX5_note_103 hl (k := 4) rfl (by rw [ex8_n]; rfl) (by decide) rfl (fun ls hl => ?_)
              refine lv_goto (tgt := 80) hx hb dX5_note_106 (by decide) ?_
              exact ih (i - 1) x8_n S2 M_6 _ _ ls (by omega) (by omega) (by rw [ex8_n, hx8]; exact mm_pred' (by omega)) (by rw [eS2, eva, hS1, va_up_self, bx_uu, shF_step (by omega) hi]) hV hA m_ob fR (lv_sub hl [1, 2, 3, 4, 0] rfl)
        exact LQ (80 * p0 + n - j) (80 * p0 + n) x8 S M H locs ls (by omega) (Nat.le_refl _) (by rw [ex8]; exact hx7) (by rw [shF_0]; funext q; by_cases h : q = 2; subst h; rw [va_up_self]; rw [va_up_ne _ _ h]) hV hA m_ob fR (lv_sub hl [1, 2, 3, 4, 0] rfl)
      · have hsame : noteR S p0 n x5 = S := by unfold noteR; rw [if_pos ⟨by rw [hpl]; exact hjn, by rw [hpl]; exact c72⟩]
        exact hret dX5_note_75 hV (by decide) (by decide) ⟨rfl, by rw [← hx5, hsame]; exact hA, m_ob, fR⟩
  have LP : ∀ (k j : Nat) (x6 : Int32) (ls : Array Slot), j + k = 80 * p0 + n → 80 * p0 ≤ j → x6 = nI j → rplc (S 2) x5 n (80 * p0) = rplc (S 2) x5 k j → lv_has ls 9 [(0, .ref ob), (1, .int x1), (5, .int x5), (6, .int x6), (7, .int x7)] → W p l e R s m args below meth c H locs 0 0 Q (F0 m 31 ls []) := by
    intro k
    induction k with
    | zero =>
      intro j x6 ls hjk hj0 hx6 hpl hl
      refine lv_iload hx hb dX5_note_31 (lv_at hl 3 rfl) ?_
      refine lv_iload hx hb dX5_note_33 (lv_at hl 4 rfl) ?_
      refine lv_icmp_ge (tgt := 56) hx hb dX5_note_35 (by decide) (fun c35 => ?_) (fun c35 => ?_)
      · exact K56 j x6 ls hx6 hj0 (by omega) (by rw [hpl]; rfl) (lv_sub hl [0, 1, 2, 3, 4] rfl)
      · exact absurd (by rw [hx6, hx7]; exact nI_le (by omega) (by omega)) c35
    | succ k ih =>
      intro j x6 ls hjk hj0 hx6 hpl hl
      refine lv_iload hx hb dX5_note_31 (lv_at hl 3 rfl) ?_
      refine lv_iload hx hb dX5_note_33 (lv_at hl 4 rfl) ?_
      refine lv_icmp_ge (tgt := 56) hx hb dX5_note_35 (by decide) (fun c35 => ?_) (fun c35 => ?_)
      · exact absurd c35 (by rw [hx6, hx7]; exact nI_ge (by omega) (by omega))
      · refine lv_aload_n hx hb dX5_note_38 rfl (lv_at hl 0 rfl) ?_
        refine mm_get (ci := 5) (C := RX5) (T := TX5) (N := 20) hx hb hts in_X5 hown hK hV i_ob m_ob rfl 2 (by decide) f_16 (fun _ h => h) rfl dX5_note_39 ?_
        refine lv_iload hx hb dX5_note_42 (lv_at hl 3 rfl) ?_
        refine mm_ialdN (j := j) hx hb hK hV (hA.i 2 rfl) (show M (ad 2) = .inl (dA 0, 480, .inl (S 2)) from hA.m 2 rfl) hx6 (by omega) (by decide) dX5_note_44 ?_
        refine lv_iload hx hb dX5_note_45 (lv_at hl 2 rfl) ?_
        refine lv_icmp_ge (tgt := 56) hx hb dX5_note_47 (by decide) (fun c47 => ?_) (fun c47 => ?_)
        · exact K56 j x6 ls hx6 hj0 (by omega) (by rw [hpl]; unfold rplc; rw [if_pos c47]) (lv_sub hl [0, 1, 2, 3, 4] rfl)
        · obtain ⟨x6_n, ex6_n⟩ : ∃ y : Int32, y = x6 + 1 := ⟨_, rfl⟩
          refine lv_iinc (v := x6_n) (lv' := [(6, .int x6_n), (0, .ref ob), (1, .int x1), (5, .int x5), (7, .int x7)]) hx hb dX5_note_50 hl (k := 3) rfl (by rw [ex6_n]; rfl) (by decide) rfl (fun ls hl => ?_)
          refine lv_goto (tgt := 31) hx hb dX5_note_53 (by decide) ?_
          exact ih (j + 1) x6_n ls (by omega) (by omega) (by rw [ex6_n, hx6]; exact nI_1 j) (by rw [hpl]; conv => lhs; unfold rplc; rw [if_neg c47]) (lv_sub hl [1, 2, 3, 0, 4] rfl)
  exact LP n (80 * p0) x6 ls rfl (Nat.le_refl _) hx6 rfl (lv_sub hl [3, 4, 2, 1, 0] rfl)
