theorem tbF_s (n : Int32) (s w : Nat) (hw : w < 4) : upd (tbF n (4 * s + w)) (4 * s + w) (reachF (nI s) (nI w) n) = tbF n (4 * s + w + 1) := by
  funext q
  by_cases hq : q = 4 * s + w
  · subst hq
    rw [pk_us]; unfold tbF
    rw [if_pos (by omega), show (4 * s + w) / 4 = s by omega, show (4 * s + w) % 4 = w by omega]
  · rw [pk_un hq]; unfold tbF
    by_cases h : q < 4 * s + w
    · rw [if_pos h, if_pos (by omega)]
    · rw [if_neg h, if_neg (by omega)]
theorem tbF_0 (n : Int32) : (fun _ => 0) = tbF n 0 := by
  funext q; unfold tbF; rw [if_neg (by omega)]

set_option maxHeartbeats 1000000 in
set_option maxRecDepth 100000 in
theorem c_X3_init (l : Launch) (D : va_G) (dA : Nat → ClassId) {L : List Nat} {M : mm_M} {r : Nat} (i_r : r ∈ L) (m_r : M r = .inr (3, [.null, .null])) : mm_Cv l D dA yX3_init wsX3_init 1 2 144 [.ref r] L M (fun L1 M1 => ∃ nr bh, L1 = (L ++ [nr]) ++ [bh] ∧ nr ∉ L ∧ bh ∉ L ++ [nr] ∧ ruW dA L1 M1 r nr bh ∧ ∀ q, q ∈ L → q ≠ r → M1 q = M q) := by
  have hsub : ∀ x, x ∈ L → x ∈ L := fun _ h => h
  have fE : ∀ q : Nat, q ∈ L → q ≠ r → M q = M q := fun _ _ _ => rfl
  refine mm_enter_v (cc := cX3_init) (maxL := 3) (by decide) rfl (Nat.le_of_ble_eq_true rfl) ?_
  intro p e R s m args below meth c A ls H locs Q hR hx hb hml hin hown hts hK hV hl hret
  have hl : lv_has ls 3 [(0, .ref r)] := hl
  have hown : s.vm.findClass RX3 = some m.cls := hown
  have hin : meth.name = "<init>" := hin
  have f_9 := hts (.fieldLink RX3 9 "JumpBoard$Rules" "near" "[I") (by decide +kernel)
  have in_X3 : ∀ w ∈ wsX30, w ∈ wsX3_init := by decide +kernel
  have f_15 := hts (.fieldLink RX3 15 "JumpBoard$Rules" "behind" "[I") (by decide +kernel)
  refine lv_aload_n hx hb dX3_init_0 rfl (lv_at hl 0 rfl) ?_
  refine W.objInit hx hb hown (hts (.methodLink RX3 3 objectInit) (by decide +kernel)) (hts (.instanceMethod objectInit) (by decide +kernel)) (hts (.code objectInit ⟨#[0xb1]⟩ 1 none) (by decide +kernel)) rfl (by rw [hml]; exact hl.1) rfl dX3_init_1 (by rw [hR]; decide) (by rw [hR]; exact Nat.le_of_ble_eq_true rfl) ?_
  refine W.eq (g2 := F0 m 4 ls []) rfl ?_
  refine lv_aload_n hx hb dX3_init_4 rfl (lv_at hl 0 rfl) ?_
  refine lv_bipush (v := 72) hx hb dX3_init_5 (by decide) ?_
  refine mm_newa (atype := .int) (ty := .int) (N' := 72) hx hb (hts (.arrayClass .int) (by decide +kernel)) rfl 0 rfl (fun _ h => h) rfl hK hV (by decide) (by decide +kernel) (by decide +kernel) (by rw [hR]; exact Nat.le_of_ble_eq_true rfl) (by rw [hR]; exact Nat.le_of_ble_eq_true rfl) dX3_init_7 (fun nr H hq_nr hV => ?_)
  refine W.widen (k := 1) (n := 72) (Nat.le_refl _) (Nat.le_refl _) ?_
  obtain ⟨L_1, eL_1⟩ : ∃ z, z = L ++ [nr] := ⟨_, rfl⟩
  obtain ⟨M_2, eM_2⟩ : ∃ z, z = va_up M nr (.inl (dA 0, 72, .inl (fun _ => 0))) := ⟨_, rfl⟩
  rw [← eL_1, ← eM_2] at hV
  have n_r_nr : r ≠ nr := fun h => hq_nr (by rw [← h]; exact i_r)
  have m_r : M_2 r = _ := (congrFun eM_2 r).trans ((va_up_ne _ _ n_r_nr).trans m_r)
  have i_r : r ∈ L_1 := by rw [eL_1]; exact List.mem_append_left _ i_r
  have o_nr : nr ∉ L := fun h => hq_nr (hsub nr h)
  have hsub : ∀ x, x ∈ L → x ∈ L_1 := fun x h => by rw [eL_1]; exact List.mem_append_left _ (hsub x h)
  have i_nr : nr ∈ L_1 := by rw [eL_1]; exact List.mem_append_right _ (List.mem_singleton.mpr rfl)
  have m_nr : M_2 nr = .inl (dA 0, 72, .inl (fun _ => 0)) := by rw [eM_2]; exact va_up_self _ _ _
  have fE : ∀ q : Nat, q ∈ L → q ≠ r → M_2 q = M q := fun q h0 h1 => (congrFun eM_2 q).trans ((va_up_ne _ _ (fun h => o_nr (by rw [← h]; exact h0))).trans (fE q h0 h1))
  refine mm_putF (ci := 3) (v := .ref nr) (fs' := [.ref nr, .null]) (ty := .array .int) (C := RX3) (T := TX3) (N := 2) hx hb hts in_X3 tyX3 tyX3_ok nmX3 hown hK hV i_r m_r rfl 0 (by decide) f_9 (fun _ h => h) rfl hin rfl (by decide +kernel) rfl rfl (Nat.le_of_ble_eq_true rfl) rfl dX3_init_9 (fun M_3 H locs eM_3 hV => ?_)
  have m_nr : M_3 nr = _ := (congrFun eM_3 nr).trans ((va_up_ne _ _ (Ne.symm n_r_nr)).trans m_nr)
  have m_r : M_3 r = .inr (3, [.ref nr, .null]) := by rw [eM_3]; exact va_up_self _ _ _
  have fE : ∀ q : Nat, q ∈ L → q ≠ r → M_3 q = M q := fun q h0 h1 => (congrFun eM_3 q).trans ((va_up_ne _ _ h1).trans (fE q h0 h1))
  refine lv_aload_n hx hb dX3_init_12 rfl (lv_at hl 0 rfl) ?_
  refine lv_bipush (v := 72) hx hb dX3_init_13 (by decide) ?_
  refine mm_newa (atype := .int) (ty := .int) (N' := 72) hx hb (hts (.arrayClass .int) (by decide +kernel)) rfl 0 rfl (fun _ h => h) rfl hK hV (by decide) (by decide +kernel) (by decide +kernel) (by rw [hR]; exact Nat.le_of_ble_eq_true rfl) (by rw [hR]; exact Nat.le_of_ble_eq_true rfl) dX3_init_15 (fun bh H hq_bh hV => ?_)
  refine W.widen (k := 2) (n := 144) (Nat.le_refl _) (Nat.le_refl _) ?_
  obtain ⟨L_4, eL_4⟩ : ∃ z, z = L_1 ++ [bh] := ⟨_, rfl⟩
  obtain ⟨M_5, eM_5⟩ : ∃ z, z = va_up M_3 bh (.inl (dA 0, 72, .inl (fun _ => 0))) := ⟨_, rfl⟩
  rw [← eL_4, ← eM_5] at hV
  have n_r_bh : r ≠ bh := fun h => hq_bh (by rw [← h]; exact i_r)
  have m_r : M_5 r = _ := (congrFun eM_5 r).trans ((va_up_ne _ _ n_r_bh).trans m_r)
  have i_r : r ∈ L_4 := by rw [eL_4]; exact List.mem_append_left _ i_r
  have n_nr_bh : nr ≠ bh := fun h => hq_bh (by rw [← h]; exact i_nr)
  have m_nr : M_5 nr = _ := (congrFun eM_5 nr).trans ((va_up_ne _ _ n_nr_bh).trans m_nr)
  have i_nr : nr ∈ L_4 := by rw [eL_4]; exact List.mem_append_left _ i_nr
  have o_bh : bh ∉ L := fun h => hq_bh (hsub bh h)
  have hsub : ∀ x, x ∈ L → x ∈ L_4 := fun x h => by rw [eL_4]; exact List.mem_append_left _ (hsub x h)
  have i_bh : bh ∈ L_4 := by rw [eL_4]; exact List.mem_append_right _ (List.mem_singleton.mpr rfl)
  have m_bh : M_5 bh = .inl (dA 0, 72, .inl (fun _ => 0)) := by rw [eM_5]; exact va_up_self _ _ _
  have fE : ∀ q : Nat, q ∈ L → q ≠ r → M_5 q = M q := fun q h0 h1 => (congrFun eM_5 q).trans ((va_up_ne _ _ (fun h => o_bh (by rw [← h]; exact h0))).trans (fE q h0 h1))
  refine mm_putF (ci := 3) (v := .ref bh) (fs' := [.ref nr, .ref bh]) (ty := .array .int) (C := RX3) (T := TX3) (N := 2) hx hb hts in_X3 tyX3 tyX3_ok nmX3 hown hK hV i_r m_r rfl 1 (by decide) f_15 (fun _ h => h) rfl hin rfl (by decide +kernel) rfl rfl (Nat.le_of_ble_eq_true rfl) rfl dX3_init_17 (fun M_6 H locs eM_6 hV => ?_)
  have m_nr : M_6 nr = _ := (congrFun eM_6 nr).trans ((va_up_ne _ _ (Ne.symm n_r_nr)).trans m_nr)
  have m_bh : M_6 bh = _ := (congrFun eM_6 bh).trans ((va_up_ne _ _ (Ne.symm n_r_bh)).trans m_bh)
  have m_r : M_6 r = .inr (3, [.ref nr, .ref bh]) := by rw [eM_6]; exact va_up_self _ _ _
  have fE : ∀ q : Nat, q ∈ L → q ≠ r → M_6 q = M q := fun q h0 h1 => (congrFun eM_6 q).trans ((va_up_ne _ _ h1).trans (fE q h0 h1))
  refine lv_iconst (v := 0) hx hb dX3_init_20 (by decide) ?_
  refine lv_topi (fun x1 ex1 => ?_)
  refine lv_istore_n (lv' := [(1, .int x1), (0, .ref r)]) hx hb dX3_init_21 rfl hl (by decide) rfl (fun ls hl => ?_)
  have m_nr : M_6 nr = .inl (dA 0, 72, .inl (tbF 1 (4 * 0))) := m_nr.trans (congrArg (fun z => Sum.inl (dA 0, 72, Sum.inl z)) (tbF_0 1))
  have m_bh : M_6 bh = .inl (dA 0, 72, .inl (tbF 2 (4 * 0))) := m_bh.trans (congrArg (fun z => Sum.inl (dA 0, 72, Sum.inl z)) (tbF_0 2))
  have LP : ∀ (k s0 : Nat) (x1 : Int32) (M1 : mm_M) (H : Heap) (locs : List Loc) (ls : Array Slot), s0 + k = 18 → x1 = nI s0 → mm_V A D L_4 M1 s H locs → M1 r = .inr (3, [.ref nr, .ref bh]) → M1 nr = .inl (dA 0, 72, .inl (tbF 1 (4 * s0))) → M1 bh = .inl (dA 0, 72, .inl (tbF 2 (4 * s0))) → (∀ q : Nat, q ∈ L → q ≠ r → M1 q = M q) → lv_has ls 3 [(0, .ref r), (1, .int x1)] → W p l e R s m args below meth c H locs 2 144 Q (F0 m 22 ls []) := by
    intro k
    induction k with
    | zero =>
      intro s0 x1 M1 H locs ls hsk hx1 hV m_r m_nr m_bh fE hl
      refine lv_iload_n hx hb dX3_init_22 rfl (lv_at hl 1 rfl) ?_
      refine lv_bipush (v := 18) hx hb dX3_init_23 (by decide) ?_
      refine lv_icmp_ge (tgt := 79) hx hb dX3_init_25 (by decide) (fun c25 => ?_) (fun c25 => ?_)
      · have hs18 : s0 = 18 := by omega
        subst hs18
        exact hret dX3_init_79 hV (by decide) (by decide) ⟨nr, bh, (by rw [eL_4, eL_1]), hq_nr, (by rw [← eL_1]; exact hq_bh), ⟨i_r, i_nr, i_bh, m_r, m_nr, m_bh⟩, fE⟩
      · exact absurd (by rw [hx1]; exact nI_le (a := 18) (by omega) (by omega)) c25
    | succ k ih =>
      intro s0 x1 M1 H locs ls hsk hx1 hV m_r m_nr m_bh fE hl
      refine lv_iload_n hx hb dX3_init_22 rfl (lv_at hl 1 rfl) ?_
      refine lv_bipush (v := 18) hx hb dX3_init_23 (by decide) ?_
      refine lv_icmp_ge (tgt := 79) hx hb dX3_init_25 (by decide) (fun c25 => ?_) (fun c25 => ?_)
      · exact absurd c25 (by rw [hx1]; exact nI_ge (b := 18) (by omega) (by decide))
      · refine lv_iconst (v := 0) hx hb dX3_init_28 (by decide) ?_
        refine lv_topi (fun x2 ex2 => ?_)
        refine lv_istore_n (lv' := [(2, .int x2), (0, .ref r), (1, .int x1)]) hx hb dX3_init_29 rfl hl (by decide) rfl (fun ls hl => ?_)
        have LQ : ∀ (j w : Nat) (x2 : Int32) (M2 : mm_M) (H : Heap) (locs : List Loc) (ls : Array Slot), w + j = 4 → x2 = nI w → mm_V A D L_4 M2 s H locs → M2 r = .inr (3, [.ref nr, .ref bh]) → M2 nr = .inl (dA 0, 72, .inl (tbF 1 (4 * s0 + w))) → M2 bh = .inl (dA 0, 72, .inl (tbF 2 (4 * s0 + w))) → (∀ q : Nat, q ∈ L → q ≠ r → M2 q = M q) → lv_has ls 3 [(0, .ref r), (1, .int x1), (2, .int x2)] → W p l e R s m args below meth c H locs 2 144 Q (F0 m 30 ls []) := by
          intro j
          induction j with
          | zero =>
            intro w x2 M2 H locs ls hwj hx2 hV m_r m_nr m_bh fE hl
            refine lv_iload_n hx hb dX3_init_30 rfl (lv_at hl 2 rfl) ?_
            refine lv_iconst (v := 4) hx hb dX3_init_31 (by decide) ?_
            refine lv_icmp_ge (tgt := 73) hx hb dX3_init_32 (by decide) (fun c32 => ?_) (fun c32 => ?_)
            · have hw4 : w = 4 := by omega
              subst hw4
              obtain ⟨x1_n, ex1_n⟩ : ∃ y : Int32, y = x1 + 1 := ⟨_, rfl⟩
              refine lv_iinc (v := x1_n) (lv' := [(1, .int x1_n), (0, .ref r), (2, .int x2)]) hx hb dX3_init_73 hl (k := 1) rfl (by rw [ex1_n]; rfl) (by decide) rfl (fun ls hl => ?_)
              refine lv_goto (tgt := 22) hx hb dX3_init_76 (by decide) ?_
              exact ih (s0 + 1) x1_n M2 _ _ ls (by omega) (by rw [ex1_n, hx1]; exact nI_1 s0) hV m_r m_nr m_bh fE (lv_sub hl [1, 0] rfl)
            · exact absurd (by rw [hx2]; exact nI_le (a := 4) (by omega) (by omega)) c32
          | succ j ih2 =>
            intro w x2 M2 H locs ls hwj hx2 hV m_r m_nr m_bh fE hl
            refine lv_iload_n hx hb dX3_init_30 rfl (lv_at hl 2 rfl) ?_
            refine lv_iconst (v := 4) hx hb dX3_init_31 (by decide) ?_
            refine lv_icmp_ge (tgt := 73) hx hb dX3_init_32 (by decide) (fun c32 => ?_) (fun c32 => ?_)
            · exact absurd c32 (by rw [hx2]; exact nI_ge (b := 4) (by omega) (by decide))
            · refine lv_aload_n hx hb dX3_init_35 rfl (lv_at hl 0 rfl) ?_
              refine mm_get (ci := 3) (C := RX3) (T := TX3) (N := 2) hx hb hts in_X3 hown hK hV i_r m_r rfl 0 (by decide) f_9 (fun _ h => h) rfl dX3_init_36 ?_
              refine lv_iload_n hx hb dX3_init_39 rfl (lv_at hl 1 rfl) ?_
              refine lv_iconst (v := 4) hx hb dX3_init_40 (by decide) ?_
              refine lv_imul hx hb dX3_init_41 ?_
              refine lv_iload_n hx hb dX3_init_42 rfl (lv_at hl 2 rfl) ?_
              refine lv_iadd hx hb dX3_init_43 ?_
              refine lv_iload_n hx hb dX3_init_44 rfl (lv_at hl 1 rfl) ?_
              refine lv_iload_n hx hb dX3_init_45 rfl (lv_at hl 2 rfl) ?_
              refine lv_iconst (v := 1) hx hb dX3_init_46 (by decide) ?_
              refine mm_Sp (v := (reachF x1 x2 1)) (As := [.int x1, .int x2, .int 1]) (rest := [.int ((x1 * 4) + x2), .ref nr]) ⟨hx, hb, hml, hown, hts⟩ hK hV (c_reach l D dA x1 x2 1) (va_cwS 3 hts gX3_init_X3_reach rfl rfl rfl (by decide +kernel) (mm_levR hR (by omega) (by decide))) rfl hl.1 rfl (Nat.le_of_ble_eq_true rfl) dX3_init_47 (by rw [hR]; exact ⟨Nat.le_refl _, Nat.le_refl _⟩) (fun H locs hV => ?_)
              refine lv_topi (fun va eva => ?_)
              refine mm_iastN (j := (4 * s0 + w)) (x := va) hx hb hK hV i_nr m_nr (ixN hx1 hx2) (by omega) (by decide) dX3_init_50 (fun M_7 H locs eM_7 hV => ?_)
              have m_r : M_7 r = _ := (congrFun eM_7 r).trans ((va_up_ne _ _ n_r_nr).trans m_r)
              have m_bh : M_7 bh = _ := (congrFun eM_7 bh).trans ((va_up_ne _ _ (Ne.symm n_nr_bh)).trans m_bh)
              have m_nr : M_7 nr = .inl (dA 0, 72, .inl (upd (tbF 1 (4 * s0 + w)) (4 * s0 + w) va)) := by rw [eM_7]; exact va_up_self _ _ _
              have fE : ∀ q : Nat, q ∈ L → q ≠ r → M_7 q = M q := fun q h0 h1 => (congrFun eM_7 q).trans ((va_up_ne _ _ (fun h => o_nr (by rw [← h]; exact h0))).trans (fE q h0 h1))
              refine lv_aload_n hx hb dX3_init_51 rfl (lv_at hl 0 rfl) ?_
              refine mm_get (ci := 3) (C := RX3) (T := TX3) (N := 2) hx hb hts in_X3 hown hK hV i_r m_r rfl 1 (by decide) f_15 (fun _ h => h) rfl dX3_init_52 ?_
              refine lv_iload_n hx hb dX3_init_55 rfl (lv_at hl 1 rfl) ?_
              refine lv_iconst (v := 4) hx hb dX3_init_56 (by decide) ?_
              refine lv_imul hx hb dX3_init_57 ?_
              refine lv_iload_n hx hb dX3_init_58 rfl (lv_at hl 2 rfl) ?_
              refine lv_iadd hx hb dX3_init_59 ?_
              refine lv_iload_n hx hb dX3_init_60 rfl (lv_at hl 1 rfl) ?_
              refine lv_iload_n hx hb dX3_init_61 rfl (lv_at hl 2 rfl) ?_
              refine lv_iconst (v := 2) hx hb dX3_init_62 (by decide) ?_
              refine mm_Sp (v := (reachF x1 x2 2)) (As := [.int x1, .int x2, .int 2]) (rest := [.int ((x1 * 4) + x2), .ref bh]) ⟨hx, hb, hml, hown, hts⟩ hK hV (c_reach l D dA x1 x2 2) (va_cwS 3 hts gX3_init_X3_reach rfl rfl rfl (by decide +kernel) (mm_levR hR (by omega) (by decide))) rfl hl.1 rfl (Nat.le_of_ble_eq_true rfl) dX3_init_63 (by rw [hR]; exact ⟨Nat.le_refl _, Nat.le_refl _⟩) (fun H locs hV => ?_)
              refine lv_topi (fun vb evb => ?_)
              refine mm_iastN (j := (4 * s0 + w)) (x := vb) hx hb hK hV i_bh m_bh (ixN hx1 hx2) (by omega) (by decide) dX3_init_66 (fun M_8 H locs eM_8 hV => ?_)
              have m_r : M_8 r = _ := (congrFun eM_8 r).trans ((va_up_ne _ _ n_r_bh).trans m_r)
              have m_nr : M_8 nr = _ := (congrFun eM_8 nr).trans ((va_up_ne _ _ n_nr_bh).trans m_nr)
              have m_bh : M_8 bh = .inl (dA 0, 72, .inl (upd (tbF 2 (4 * s0 + w)) (4 * s0 + w) vb)) := by rw [eM_8]; exact va_up_self _ _ _
              have fE : ∀ q : Nat, q ∈ L → q ≠ r → M_8 q = M q := fun q h0 h1 => (congrFun eM_8 q).trans ((va_up_ne _ _ (fun h => o_bh (by rw [← h]; exact h0))).trans (fE q h0 h1))
              obtain ⟨x2_n, ex2_n⟩ : ∃ y : Int32, y = x2 + 1 := ⟨_, rfl⟩
              refine lv_iinc (v := x2_n) (lv' := [(2, .int x2_n), (0, .ref r), (1, .int x1)]) hx hb dX3_init_67 hl (k := 2) rfl (by rw [ex2_n]; rfl) (by decide) rfl (fun ls hl => ?_)
              refine lv_goto (tgt := 30) hx hb dX3_init_70 (by decide) ?_
              exact ih2 (w + 1) x2_n M_8 _ _ ls (by omega) (by rw [ex2_n, hx2]; exact nI_1 w) hV m_r (by rw [m_nr, eva, hx1, hx2, tbF_s 1 s0 w (by omega)]; rfl) (by rw [m_bh, evb, hx1, hx2, tbF_s 2 s0 w (by omega)]; rfl) fE (lv_sub hl [1, 2, 0] rfl)
        exact LQ 4 0 x2 M1 H locs ls rfl (by rw [ex2]; rfl) hV m_r m_nr m_bh fE (lv_sub hl [1, 2, 0] rfl)
  exact LP 18 0 x1 M_6 H locs ls rfl (by rw [ex1]; rfl) hV m_r m_nr m_bh fE (lv_sub hl [1, 0] rfl)
