/-! The list of moves: an array of 72 ints, the first n are in use -/
def oL (pk : Nat) (n : Int32) : va_E := .inr (1, [.ref pk, .int n])
/-- how many of the first n stand before v -/
def plc (f : Nat → Int32) (v : Int32) : Nat → Nat
  | 0 => 0
  | n + 1 => if f n ≤ v then n + 1 else plc f v n
theorem plc_le (f : Nat → Int32) (v : Int32) : ∀ n, plc f v n ≤ n
  | 0 => Nat.le_refl _
  | n + 1 => by
    unfold plc
    split
    · exact Nat.le_refl _
    · exact Nat.le_succ_of_le (plc_le f v n)
def enterF (f : Nat → Int32) (n : Nat) (v : Int32) : (Nat → Int32) × Nat :=
  if (0 < plc f v n ∧ f (plc f v n - 1) = v) ∨ 72 ≤ n then (f, n)
  else (fun i => if i < plc f v n then f i else if i = plc f v n then v else if i ≤ n then f (i - 1) else f i, n + 1)
def packF (x y z : Int32) : Int32 := ((x <<< ((23 : Int32) &&& 31)) ||| (y <<< ((18 : Int32) &&& 31))) ||| z
theorem mm_if2 {P Q : Prop} [Decidable P] [Decidable Q] {v : Int32} (e : v = if P then 0 else (if Q then 1 else 0)) (h : ¬ v = 0) : ¬ P ∧ Q := by
  subst e
  by_cases hp : P
  · rw [if_pos hp] at h; exact absurd rfl h
  · rw [if_neg hp] at h
    by_cases hq : Q
    · exact ⟨hp, hq⟩
    · rw [if_neg hq] at h; exact absurd rfl h
theorem mm_pred {j : Nat} (h : 0 < j) : nI j - 1 = nI (j - 1) := by
  obtain ⟨k, rfl⟩ : ∃ k, j = k + 1 := ⟨j - 1, by omega⟩
  exact nI_pred k
theorem mm_pred' {j : Nat} (h : 0 < j) : nI j + (-1) = nI (j - 1) := by
  obtain ⟨k, rfl⟩ : ∃ k, j = k + 1 := ⟨j - 1, by omega⟩
  exact pk_m1 k
theorem mm_pos {j : Nat} (hj : j < 2 ^ 31) (h : ¬ nI j ≤ 0) : 0 < j := by
  rcases Nat.eq_zero_or_pos j with h0 | h0
  · subst h0; exact absurd (by decide +kernel) h
  · exact h0
theorem mm_zero {j : Nat} (hj : j < 2 ^ 31) (h : nI j ≤ 0) : j = 0 := by
  rcases Nat.eq_zero_or_pos j with h0 | h0
  · exact h0
  · exact absurd h (nI_nle h0 hj)
/-- the array while the shift goes: places above i hold what stood one below -/
def shF (f : Nat → Int32) (n i : Nat) : Nat → Int32 := fun q => if i < q ∧ q ≤ n then f (q - 1) else f q
theorem shF_step {f : Nat → Int32} {n i : Nat} (h0 : 0 < i) (hi : i ≤ n) : upd (shF f n i) i (shF f n i (i - 1)) = shF f n (i - 1) := by
  funext q
  by_cases hq : q = i
  · subst hq
    rw [pk_us]
    unfold shF
    rw [if_neg (by omega), if_pos (by omega)]
  · rw [pk_un hq]
    unfold shF
    by_cases h : i < q ∧ q ≤ n
    · rw [if_pos h, if_pos (by omega)]
    · rw [if_neg h, if_neg (by omega)]
theorem shF_0 (f : Nat → Int32) (n : Nat) : shF f n n = f := by
  funext q; unfold shF; rw [if_neg (by omega)]
theorem shF_end (f : Nat → Int32) (n j : Nat) (v : Int32) (hj : j ≤ n) : upd (shF f n j) j v = fun i => if i < j then f i else if i = j then v else if i ≤ n then f (i - 1) else f i := by
  funext q
  by_cases hq : q = j
  · subst hq
    rw [pk_us, if_neg (by omega), if_pos rfl]
  · rw [pk_un hq]
    unfold shF
    by_cases h1 : q < j
    · rw [if_neg (by omega), if_pos h1]
    · rw [if_neg h1, if_neg hq]
      by_cases h2 : q ≤ n
      · rw [if_pos (by omega), if_pos h2]
      · rw [if_neg (by omega), if_neg h2]

set_option maxHeartbeats 4000000 in
set_option maxRecDepth 100000 in
theorem c_enter (l : Launch) (D : va_G) (dA : Nat → ClassId) {L : List Nat} {M : mm_M} {t pk : Nat} {f : Nat → Int32} {n : Nat} (x y z : Int32) (hn : n ≤ 72) (i_t : t ∈ L) (i_pk : pk ∈ L) (m_t : M t = oL pk (nI n)) (m_pk : M pk = .inl (dA 0, 72, .inl f)) : mm_Cm l D dA yX1_enter wsX1_enter 0 [.ref t, .int x, .int y, .int z] L M (fun M1 => M1 = va_up (va_up M t (oL pk (nI (enterF f n (packF x y z)).2))) pk (.inl (dA 0, 72, .inl (enterF f n (packF x y z)).1))) := by
  have m_t : M t = .inr (1, [.ref pk, .int (nI n)]) := m_t
  refine mm_enter_v (cc := cX1_enter) (maxL := 8) (by decide) rfl (Nat.le_of_ble_eq_true rfl) ?_
  intro p e R s m args below meth c A ls H locs Q hR hx hb hml hin hown hts hK hV hl hret
  have hl : lv_has ls 8 [(0, .ref t), (1, .int x), (2, .int y), (3, .int z)] := hl
  have hown : s.vm.findClass RX1 = some m.cls := hown
  have f_16 := hts (.fieldLink RX1 16 "JumpBoard$MoveList" "count" "I") (by decide +kernel)
  have in_X1 : ∀ w ∈ wsX10, w ∈ wsX1_enter := by decide +kernel
  have f_11 := hts (.fieldLink RX1 11 "JumpBoard$MoveList" "packed" "[I") (by decide +kernel)
  refine lv_iload_n hx hb dX1_enter_0 rfl (lv_at hl 1 rfl) ?_
  refine lv_bipush (v := 23) hx hb dX1_enter_1 (by decide) ?_
  refine lv_ishl hx hb dX1_enter_3 ?_
  refine lv_iload_n hx hb dX1_enter_4 rfl (lv_at hl 2 rfl) ?_
  refine lv_bipush (v := 18) hx hb dX1_enter_5 (by decide) ?_
  refine lv_ishl hx hb dX1_enter_7 ?_
  refine lv_ior hx hb dX1_enter_8 ?_
  refine lv_iload_n hx hb dX1_enter_9 rfl (lv_at hl 3 rfl) ?_
  refine lv_ior hx hb dX1_enter_10 ?_
  refine lv_topi (fun x4 ex4 => ?_)
  refine lv_istore (lv' := [(4, .int x4), (0, .ref t), (1, .int x), (2, .int y), (3, .int z)]) hx hb dX1_enter_11 hl (by decide) rfl (fun ls hl => ?_)
  have hx4 : x4 = packF x y z := ex4
  refine lv_aload_n hx hb dX1_enter_13 rfl (lv_at hl 1 rfl) ?_
  refine mm_get (ci := 1) (C := RX1) (T := TX1) (N := 2) hx hb hts in_X1 hown hK hV i_t m_t rfl 1 (by decide) f_16 (fun _ h => h) rfl dX1_enter_14 ?_
  refine lv_topi (fun x5 ex5 => ?_)
  refine lv_istore (lv' := [(5, .int x5), (4, .int x4), (0, .ref t), (1, .int x), (2, .int y), (3, .int z)]) hx hb dX1_enter_17 hl (by decide) rfl (fun ls hl => ?_)
  have K44 : ∀ (j : Nat) (x5 : Int32) (ls : Array Slot), x5 = nI j → j ≤ n → plc f x4 n = j → lv_has ls 8 [(0, .ref t), (4, .int x4), (5, .int x5)] → W p l e R s m args below meth c H locs 0 0 Q (F0 m 44 ls []) := by
    intro j x5 ls ex5 hj hpl hl
    refine lv_iload hx hb dX1_enter_44 (lv_at hl 2 rfl) ?_
    have J68 : ∀ (v68 : Int32), v68 = (if x5 ≤ 0 then 0 else (if f (j - 1) = x4 then 1 else 0)) → W p l e R s m args below meth c H locs 0 0 Q (F0 m 68 ls [.int v68]) := by
      intro v68 ev68
      refine lv_istore (lv' := [(6, .int v68), (0, .ref t), (4, .int x4), (5, .int x5)]) hx hb dX1_enter_68 hl (by decide) rfl (fun ls hl => ?_)
      refine lv_iload hx hb dX1_enter_70 (lv_at hl 0 rfl) ?_
      refine lv_if_ne (tgt := 84) hx hb dX1_enter_72 (by decide) (fun c72 => ?_) (fun c72 => ?_)
      · have hk := mm_if2 ev68 c72
        have hsame : enterF f n (packF x y z) = (f, n) := by rw [← hx4]; unfold enterF; rw [if_pos (Or.inl (by rw [hpl]; exact ⟨mm_pos (by omega) (by rw [← ex5]; exact hk.1), hk.2⟩))]
        exact hret dX1_enter_84 hV (by decide) (by decide) ⟨rfl, by rw [hsame]; exact mm_fin2 m_t m_pk (mm_neq m_t m_pk (by intro h; cases h)) (fun q _ _ => rfl)⟩
      · refine lv_aload_n hx hb dX1_enter_75 rfl (lv_at hl 1 rfl) ?_
        refine mm_get (ci := 1) (C := RX1) (T := TX1) (N := 2) hx hb hts in_X1 hown hK hV i_t m_t rfl 1 (by decide) f_16 (fun _ h => h) rfl dX1_enter_76 ?_
        refine lv_bipush (v := 72) hx hb dX1_enter_79 (by decide) ?_
        refine lv_icmp_lt (tgt := 85) hx hb dX1_enter_81 (by decide) (fun c81 => ?_) (fun c81 => ?_)
        · refine lv_aload_n hx hb dX1_enter_85 rfl (lv_at hl 1 rfl) ?_
          refine mm_get (ci := 1) (C := RX1) (T := TX1) (N := 2) hx hb hts in_X1 hown hK hV i_t m_t rfl 1 (by decide) f_16 (fun _ h => h) rfl dX1_enter_86 ?_
          refine lv_topi (fun x7 ex7 => ?_)
          refine lv_istore (lv' := [(7, .int x7), (6, .int v68), (0, .ref t), (4, .int x4), (5, .int x5)]) hx hb dX1_enter_89 hl (by decide) rfl (fun ls hl => ?_)
          have hpc : ¬ ((0 < plc f x4 n ∧ f (plc f x4 n - 1) = x4) ∨ 72 ≤ n) := by
            rintro (h | h)
            · rw [hpl] at h
              rw [ev68, ex5, if_neg (nI_nle h.1 (by omega)), if_pos h.2] at c72
              exact absurd c72 (by decide)
            · exact absurd c81 (nI_nlt (b := 72) h (by omega))
          have hent : enterF f n x4 = (fun i => if i < j then f i else if i = j then x4 else if i ≤ n then f (i - 1) else f i, n + 1) := by unfold enterF; rw [if_neg hpc, hpl]
          have LQ : ∀ (d i : Nat) (x7 : Int32) (M1 : mm_M) (H : Heap) (locs : List Loc) (ls : Array Slot), i = j + d → i ≤ n → x7 = nI i → mm_V A D L M1 s H locs → M1 t = .inr (1, [.ref pk, .int (nI n)]) → M1 pk = .inl (dA 0, 72, .inl (shF f n i)) → (∀ q : Nat, q ≠ pk → M1 q = M q) → lv_has ls 8 [(0, .ref t), (4, .int x4), (5, .int x5), (7, .int x7)] → W p l e R s m args below meth c H locs 0 0 Q (F0 m 91 ls []) := by
            intro d
            induction d with
            | zero =>
              intro i x7 M1 H locs ls hd hin7 ex7 hV m_t m_pk fr hl
              refine lv_iload hx hb dX1_enter_91 (lv_at hl 3 rfl) ?_
              refine lv_iload hx hb dX1_enter_93 (lv_at hl 2 rfl) ?_
              refine lv_icmp_le (tgt := 120) hx hb dX1_enter_95 (by decide) (fun c95 => ?_) (fun c95 => ?_)
              · refine lv_aload_n hx hb dX1_enter_120 rfl (lv_at hl 0 rfl) ?_
                refine mm_get (ci := 1) (C := RX1) (T := TX1) (N := 2) hx hb hts in_X1 hown hK hV i_t m_t rfl 0 (by decide) f_11 (fun _ h => h) rfl dX1_enter_121 ?_
                refine lv_iload hx hb dX1_enter_124 (lv_at hl 2 rfl) ?_
                refine lv_iload hx hb dX1_enter_126 (lv_at hl 1 rfl) ?_
                refine mm_iastN (j := j) (x := x4) hx hb hK hV i_pk m_pk ex5 (by omega) (by decide) dX1_enter_128 (fun M_1 H locs eM_1 hV => ?_)
                have m_t : M_1 t = _ := (congrFun eM_1 t).trans ((va_up_ne _ _ (mm_neq m_t m_pk (by intro h; cases h))).trans m_t)
                have m_pk : M_1 pk = .inl (dA 0, 72, .inl (upd (shF f n i) j x4)) := by rw [eM_1]; exact va_up_self _ _ _
                have fr : ∀ q : Nat, q ≠ pk → M_1 q = M q := fun q h0 => (congrFun eM_1 q).trans ((va_up_ne _ _ h0).trans (fr q h0))
                refine lv_aload_n hx hb dX1_enter_129 rfl (lv_at hl 0 rfl) ?_
                refine lv_dup hx hb dX1_enter_130 rfl ?_
                refine mm_get (ci := 1) (C := RX1) (T := TX1) (N := 2) hx hb hts in_X1 hown hK hV i_t m_t rfl 1 (by decide) f_16 (fun _ h => h) rfl dX1_enter_131 ?_
                refine lv_iconst (v := 1) hx hb dX1_enter_134 (by decide) ?_
                refine lv_iadd hx hb dX1_enter_135 ?_
                refine lv_topi (fun cn ecn => ?_)
                refine mm_put (ci := 1) (v := .int cn) (fs' := [.ref pk, .int cn]) (ty := .int) (C := RX1) (T := TX1) (N := 2) hx hb hts in_X1 tyX1 tyX1_ok nmX1 hown hK hV i_t m_t rfl 1 (by decide) f_16 (fun _ h => h) rfl (by decide +kernel) rfl rfl (Nat.le_of_ble_eq_true rfl) rfl dX1_enter_136 (fun M_2 H locs eM_2 hV => ?_)
                have m_pk : M_2 pk = _ := (congrFun eM_2 pk).trans ((va_up_ne _ _ (mm_neq m_pk m_t (by intro h; cases h))).trans m_pk)
                have m_t : M_2 t = .inr (1, [.ref pk, .int cn]) := by rw [eM_2]; exact va_up_self _ _ _
                have fr : ∀ q : Nat, q ≠ pk → q ≠ t → M_2 q = M q := fun q h0 h1 => (congrFun eM_2 q).trans ((va_up_ne _ _ h1).trans (fr q h0))
                exact hret dX1_enter_139 hV (by decide) (by decide) ⟨rfl, by rw [← hx4, hent]; exact mm_fin2 (by rw [m_t, ecn]; exact congrArg (fun z => Sum.inr (1, [Value.ref pk, Value.int z])) (nI_1 n)) (by rw [m_pk, show i = j by omega, shF_end f n j x4 hj]) (mm_neq m_t m_pk (by intro h; cases h)) (fun q h0 h1 => fr q h1 h0)⟩
              · exact absurd (by rw [ex7, ex5, hd]; exact Int32.le_refl _) c95
            | succ d ih =>
              intro i x7 M1 H locs ls hd hin7 ex7 hV m_t m_pk fr hl
              refine lv_iload hx hb dX1_enter_91 (lv_at hl 3 rfl) ?_
              refine lv_iload hx hb dX1_enter_93 (lv_at hl 2 rfl) ?_
              refine lv_icmp_le (tgt := 120) hx hb dX1_enter_95 (by decide) (fun c95 => ?_) (fun c95 => ?_)
              · exact absurd c95 (by rw [ex7, ex5, hd]; exact nI_ge (by omega) (by omega))
              · refine lv_aload_n hx hb dX1_enter_98 rfl (lv_at hl 0 rfl) ?_
                refine mm_get (ci := 1) (C := RX1) (T := TX1) (N := 2) hx hb hts in_X1 hown hK hV i_t m_t rfl 0 (by decide) f_11 (fun _ h => h) rfl dX1_enter_99 ?_
                refine lv_iload hx hb dX1_enter_102 (lv_at hl 3 rfl) ?_
                refine lv_aload_n hx hb dX1_enter_104 rfl (lv_at hl 0 rfl) ?_
                refine mm_get (ci := 1) (C := RX1) (T := TX1) (N := 2) hx hb hts in_X1 hown hK hV i_t m_t rfl 0 (by decide) f_11 (fun _ h => h) rfl dX1_enter_105 ?_
                refine lv_iload hx hb dX1_enter_108 (lv_at hl 3 rfl) ?_
                refine lv_iconst (v := 1) hx hb dX1_enter_110 (by decide) ?_
                refine lv_isub hx hb dX1_enter_111 ?_
                refine mm_ialdN (j := (i - 1)) hx hb hK hV i_pk m_pk (by rw [ex7]; exact mm_pred (by omega)) (by omega) (by decide) dX1_enter_112 ?_
                refine lv_topi (fun v113 ev113 => ?_)
                refine mm_iastN (j := i) (x := v113) hx hb hK hV i_pk m_pk ex7 (by omega) (by decide) dX1_enter_113 (fun M_3 H locs eM_3 hV => ?_)
                have m_t : M_3 t = _ := (congrFun eM_3 t).trans ((va_up_ne _ _ (mm_neq m_t m_pk (by intro h; cases h))).trans m_t)
                have m_pk : M_3 pk = .inl (dA 0, 72, .inl (upd (shF f n i) i v113)) := by rw [eM_3]; exact va_up_self _ _ _
                have fr : ∀ q : Nat, q ≠ pk → M_3 q = M q := fun q h0 => (congrFun eM_3 q).trans ((va_up_ne _ _ h0).trans (fr q h0))
                obtain ⟨x7_n, ex7_n⟩ : ∃ y : Int32, y = x7 + (-1) := ⟨_, rfl⟩
                refine lv_iinc (v := x7_n) (lv' := [(7, .int x7_n), (0, .ref t), (4, .int x4), (5, .int x5)]) hx hb dX1_enter_114 hl (k := 3) rfl (by rw [ex7_n]; rfl) (by decide) rfl (fun ls hl => ?_)
                refine lv_goto (tgt := 91) hx hb dX1_enter_117 (by decide) ?_
                exact ih (i - 1) x7_n M_3 _ _ ls (by omega) (by omega) (by rw [ex7_n, ex7]; exact mm_pred' (by omega)) hV m_t (by rw [m_pk, ev113, shF_step (by omega) hin7]) fr (lv_sub hl [1, 2, 3, 0] rfl)
          exact LQ (n - j) n x7 M H locs ls (by omega) (Nat.le_refl n) ex7 hV m_t (by rw [m_pk, shF_0]) (fun q _ => rfl) (lv_sub hl [2, 3, 4, 0] rfl)
        · have hfull : 72 ≤ n := Nat.not_lt.mp (fun h => c81 (nI_lt h (by decide)))
          have hsame : enterF f n (packF x y z) = (f, n) := by unfold enterF; rw [if_pos (Or.inr hfull)]
          exact hret dX1_enter_84 hV (by decide) (by decide) ⟨rfl, by rw [hsame]; exact mm_fin2 m_t m_pk (mm_neq m_t m_pk (by intro h; cases h)) (fun q _ _ => rfl)⟩
    refine lv_if_le (tgt := 67) hx hb dX1_enter_46 (by decide) (fun c46 => ?_) (fun c46 => ?_)
    · refine lv_iconst (v := 0) hx hb dX1_enter_67 (by decide) ?_
      exact J68 _ (by rw [if_pos c46])
    · have hj0 : 0 < j := mm_pos (by omega) (by rw [← ex5]; exact c46)
      refine lv_aload_n hx hb dX1_enter_49 rfl (lv_at hl 0 rfl) ?_
      refine mm_get (ci := 1) (C := RX1) (T := TX1) (N := 2) hx hb hts in_X1 hown hK hV i_t m_t rfl 0 (by decide) f_11 (fun _ h => h) rfl dX1_enter_50 ?_
      refine lv_iload hx hb dX1_enter_53 (lv_at hl 2 rfl) ?_
      refine lv_iconst (v := 1) hx hb dX1_enter_55 (by decide) ?_
      refine lv_isub hx hb dX1_enter_56 ?_
      refine mm_ialdN (j := (j - 1)) hx hb hK hV i_pk m_pk (by rw [ex5]; exact mm_pred hj0) (by omega) (by decide) dX1_enter_57 ?_
      refine lv_iload hx hb dX1_enter_58 (lv_at hl 1 rfl) ?_
      refine lv_icmp_ne (tgt := 67) hx hb dX1_enter_60 (by decide) (fun c60 => ?_) (fun c60 => ?_)
      · refine lv_iconst (v := 0) hx hb dX1_enter_67 (by decide) ?_
        exact J68 _ (by rw [if_neg c46, if_neg c60])
      · refine lv_iconst (v := 1) hx hb dX1_enter_63 (by decide) ?_
        refine lv_goto (tgt := 68) hx hb dX1_enter_64 (by decide) ?_
        exact J68 _ (by rw [if_neg c46, if_pos c60])
  have LP : ∀ (j : Nat) (x5 : Int32) (ls : Array Slot), x5 = nI j → j ≤ n → plc f x4 n = plc f x4 j → lv_has ls 8 [(0, .ref t), (4, .int x4), (5, .int x5)] → W p l e R s m args below meth c H locs 0 0 Q (F0 m 19 ls []) := by
    intro j
    induction j with
    | zero =>
      intro x5 ls ex5 hj hpl hl
      refine lv_iload hx hb dX1_enter_19 (lv_at hl 2 rfl) ?_
      refine lv_if_le (tgt := 44) hx hb dX1_enter_21 (by decide) (fun c21 => ?_) (fun c21 => ?_)
      · exact K44 0 x5 ls ex5 hj hpl (lv_sub hl [0, 1, 2] rfl)
      · exact absurd (by rw [ex5]; decide +kernel) c21
    | succ j ih =>
      intro x5 ls ex5 hj hpl hl
      have hj0 : 0 < j + 1 := Nat.succ_pos j
      refine lv_iload hx hb dX1_enter_19 (lv_at hl 2 rfl) ?_
      refine lv_if_le (tgt := 44) hx hb dX1_enter_21 (by decide) (fun c21 => ?_) (fun c21 => ?_)
      · exact absurd (by rw [← ex5]; exact c21) (nI_nle hj0 (by omega))
      · refine lv_aload_n hx hb dX1_enter_24 rfl (lv_at hl 0 rfl) ?_
        refine mm_get (ci := 1) (C := RX1) (T := TX1) (N := 2) hx hb hts in_X1 hown hK hV i_t m_t rfl 0 (by decide) f_11 (fun _ h => h) rfl dX1_enter_25 ?_
        refine lv_iload hx hb dX1_enter_28 (lv_at hl 2 rfl) ?_
        refine lv_iconst (v := 1) hx hb dX1_enter_30 (by decide) ?_
        refine lv_isub hx hb dX1_enter_31 ?_
        refine mm_ialdN (j := j) hx hb hK hV i_pk m_pk (by rw [ex5]; exact nI_pred j) (by omega) (by decide) dX1_enter_32 ?_
        refine lv_iload hx hb dX1_enter_33 (lv_at hl 1 rfl) ?_
        refine lv_icmp_le (tgt := 44) hx hb dX1_enter_35 (by decide) (fun c35 => ?_) (fun c35 => ?_)
        · exact K44 (j + 1) x5 ls ex5 hj (by rw [hpl]; unfold plc; rw [if_pos c35]) (lv_sub hl [0, 1, 2] rfl)
        · obtain ⟨x5_n, ex5_n⟩ : ∃ y : Int32, y = x5 + (-1) := ⟨_, rfl⟩
          refine lv_iinc (v := x5_n) (lv' := [(5, .int x5_n), (0, .ref t), (4, .int x4)]) hx hb dX1_enter_38 hl (k := 2) rfl (by rw [ex5_n]; rfl) (by decide) rfl (fun ls hl => ?_)
          refine lv_goto (tgt := 19) hx hb dX1_enter_41 (by decide) ?_
          exact ih x5_n ls (by rw [ex5_n, ex5]; exact pk_m1 j) (by omega) (by rw [hpl]; conv => lhs; unfold plc; rw [if_neg c35]) (lv_sub hl [1, 2, 0] rfl)
  exact LP n x5 ls ex5 (Nat.le_refl n) rfl (lv_sub hl [2, 1, 0] rfl)
