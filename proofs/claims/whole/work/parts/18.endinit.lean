/-! The endings' tables, as the class makes them -/
def CNx (e : Nat) : Nat := if arrOK (nI e) = 0 then 0 else mnF (mvN (arrP (nI e)))
def NXv (e j : Nat) : Int32 := (numF (followP (arrP (nI e)) (mvA (arrP (nI e)) j))).toInt16.toInt32
def NXx (e j : Nat) : Nat := (NXv e j).toNatClampNeg
def V0 (i : Nat) : Nat → Int32 := fun e => if (e < i ∧ ¬ arrOK (nI e) = 0 ∧ CNx e = 0) ∨ e = 1296 then -100 else 0
def C0 (i : Nat) : Nat → Int32 := fun e => if e < i then nI (CNx e) else 0
def VT : Nat → Int32 := stK CNx NXx 1295 1 1 (V0 1296)
theorem CNx_le (e : Nat) : CNx e ≤ 4 := by
  unfold CNx mnF
  split
  · omega
  · split <;> omega
theorem V0_0 : upd (fun _ => 0) 1296 (-100) = V0 0 := by
  funext q
  by_cases hq : q = 1296
  · subst hq; rw [pk_us]; unfold V0; rw [if_pos (Or.inr rfl)]
  · rw [pk_un hq]; unfold V0; rw [if_neg (by rintro (⟨h, -⟩ | h); omega; exact hq h)]
theorem C0_0 : (fun _ => 0) = C0 0 := by
  funext q; unfold C0; rw [if_neg (by omega)]
theorem CNx_no {i : Nat} (h : arrOK (nI i) = 0) : CNx i = 0 := by unfold CNx; rw [if_pos h]
theorem CNx_ok {i : Nat} (h : ¬ arrOK (nI i) = 0) : CNx i = mnF (mvN (arrP (nI i))) := by unfold CNx; rw [if_neg h]
theorem V0_no {i : Nat} (h : arrOK (nI i) = 0) : V0 (i + 1) = V0 i := by
  funext q; unfold V0
  by_cases hq : q = i
  · subst hq
    by_cases hz : q = 1296
    · rw [if_pos (Or.inr hz), if_pos (Or.inr hz)]
    · rw [if_neg (by rintro (⟨-, h2, -⟩ | h2); exact h2 h; exact hz h2), if_neg (by rintro (⟨h2, -⟩ | h2); omega; exact hz h2)]
  · by_cases hc : (q < i ∧ ¬ arrOK (nI q) = 0 ∧ CNx q = 0) ∨ q = 1296
    · rw [if_pos hc, if_pos (by rcases hc with ⟨a, b⟩ | a; exact Or.inl ⟨by omega, b⟩; exact Or.inr a)]
    · rw [if_neg hc, if_neg (by rintro (⟨a, b⟩ | a); exact hc (Or.inl ⟨by omega, b⟩); exact hc (Or.inr a))]
theorem C0_no {i : Nat} (h : arrOK (nI i) = 0) : C0 (i + 1) = C0 i := by
  funext q; unfold C0
  by_cases hq : q = i
  · subst hq; rw [if_pos (by omega), if_neg (by omega), CNx_no h]; rfl
  · by_cases hc : q < i
    · rw [if_pos hc, if_pos (by omega)]
    · rw [if_neg hc, if_neg (by omega)]
theorem C0_ok (i : Nat) : upd (C0 i) i (nI (CNx i)) = C0 (i + 1) := by
  funext q
  by_cases hq : q = i
  · subst hq; rw [pk_us]; unfold C0; rw [if_pos (by omega)]
  · rw [pk_un hq]; unfold C0
    by_cases hc : q < i
    · rw [if_pos hc, if_pos (by omega)]
    · rw [if_neg hc, if_neg (by omega)]
theorem V0_ok {i : Nat} (h : ¬ arrOK (nI i) = 0) : (if CNx i = 0 then upd (V0 i) i (-100) else V0 i) = V0 (i + 1) := by
  by_cases h0 : CNx i = 0
  · rw [if_pos h0]
    funext q
    by_cases hq : q = i
    · subst hq; rw [pk_us]; unfold V0; rw [if_pos (Or.inl ⟨by omega, h, h0⟩)]
    · rw [pk_un hq]; unfold V0
      by_cases hc : (q < i ∧ ¬ arrOK (nI q) = 0 ∧ CNx q = 0) ∨ q = 1296
      · rw [if_pos hc, if_pos (by rcases hc with ⟨a, b⟩ | a; exact Or.inl ⟨by omega, b⟩; exact Or.inr a)]
      · rw [if_neg hc, if_neg (by rintro (⟨a, b⟩ | a); exact hc (Or.inl ⟨by omega, b⟩); exact hc (Or.inr a))]
  · rw [if_neg h0]
    funext q; unfold V0
    by_cases hc : (q < i ∧ ¬ arrOK (nI q) = 0 ∧ CNx q = 0) ∨ q = 1296
    · rw [if_pos hc, if_pos (by rcases hc with ⟨a, b⟩ | a; exact Or.inl ⟨by omega, b⟩; exact Or.inr a)]
    · rw [if_neg hc, if_neg (by
        rintro (⟨a, b, d⟩ | a)
        · by_cases hq : q = i
          · subst hq; exact h0 d
          · exact hc (Or.inl ⟨by omega, b, d⟩)
        · exact hc (Or.inr a))]
theorem nt_old {nf f : Nat → Int32} {i c : Nat} {P : Ps} (h : ∀ e, e < i → ∀ j, j < CNx e → nf (4 * e + j) = NXv e j) : ∀ e, e < i → ∀ j, j < CNx e → ntF nf i P f c (4 * e + j) = NXv e j := by
  intro e he j hj
  have := CNx_le e
  unfold ntF; rw [if_neg (by omega)]; exact h e he j hj
theorem nt_new {nf f0 : Nat → Int32} {i : Nat} (hok : ¬ arrOK (nI i) = 0) (h : ∀ e, e < i → ∀ j, j < CNx e → nf (4 * e + j) = NXv e j) : ∀ e, e < i + 1 → ∀ j, j < CNx e → ntF nf i (arrP (nI i)) (movesF (arrP (nI i)) f0).1 (mnF (movesF (arrP (nI i)) f0).2) (4 * e + j) = NXv e j := by
  intro e he j hj
  by_cases hei : e = i
  · subst hei
    rw [CNx_ok hok] at hj
    have hm : mnF (mvN (arrP (nI e))) ≤ mvN (arrP (nI e)) := by unfold mnF; split <;> omega
    unfold ntF
    rw [mvN_eq, if_pos (by omega), show 4 * e + j - 4 * e = j by omega, mvA_eq _ _ (by omega)]
    rfl
  · exact nt_old h e (by omega) j hj

set_option maxHeartbeats 1000000 in
set_option maxRecDepth 100000 in
theorem c_X0_init (l : Launch) (D : va_G) (dA : Nat → ClassId) {L : List Nat} {M : mm_M} {en r nr bh : Nat} (htb : ∀ e, e < 1296 → ∀ j, j < CNx e → NXv e j = nI (NXx e j) ∧ NXx e j < 1297) (hr : ruW dA L M r nr bh) (i_en : en ∈ L) (m_en : M en = .inr (0, [.null, .null, .null])) : mm_Cv l D dA yX0_init wsX0_init 22 7 7861 [.ref en, .ref r] L M (fun L1 M1 => ∃ (vd ct nz : Nat) (cf nf : Nat → Int32), enW dA L1 M1 en vd ct nz VT cf nf ∧ (∀ q, q ∈ L → q ∈ L1) ∧ ∀ q, q ∈ L → q ≠ en → M1 q = M q) := by
  obtain ⟨i_r, i_nr, i_bh, m_r, m_nr, m_bh⟩ := hr
  have hsub : ∀ x, x ∈ L → x ∈ L := fun _ h => h
  have fE : ∀ q : Nat, q ∈ L → q ≠ en → M q = M q := fun _ _ _ => rfl
  refine mm_enter_v (cc := cX0_init) (maxL := 6) (by decide) rfl (Nat.le_of_ble_eq_true rfl) ?_
  intro p e R s m args below meth c A ls H locs Q hR hx hb hml hin hown hts hK hV hl hret
  have hl : lv_has ls 6 [(0, .ref en), (1, .ref r)] := hl
  have hown : s.vm.findClass RX0 = some m.cls := hown
  have hin : meth.name = "<init>" := hin
  have f_11 := hts (.fieldLink RX0 11 "JumpBoard$Endings" "verdicts" "[B") (by decide +kernel)
  have in_X0 : ∀ w ∈ wsX00, w ∈ wsX0_init := by decide +kernel
  have f_15 := hts (.fieldLink RX0 15 "JumpBoard$Endings" "counts" "[B") (by decide +kernel)
  have f_18 := hts (.fieldLink RX0 18 "JumpBoard$Endings" "nexts" "[S") (by decide +kernel)
  have in_X1 : ∀ w ∈ wsX10, w ∈ wsX0_init := by decide +kernel
  have in_X2 : ∀ w ∈ wsX20, w ∈ wsX0_init := by decide +kernel
  refine lv_aload_n hx hb dX0_init_0 rfl (lv_at hl 0 rfl) ?_
  refine W.objInit hx hb hown (hts (.methodLink RX0 5 objectInit) (by decide +kernel)) (hts (.instanceMethod objectInit) (by decide +kernel)) (hts (.code objectInit ⟨#[0xb1]⟩ 1 none) (by decide +kernel)) rfl (by rw [hml]; exact hl.1) rfl dX0_init_1 (by rw [hR]; decide) (by rw [hR]; exact Nat.le_of_ble_eq_true rfl) ?_
  refine W.eq (g2 := F0 m 4 ls []) rfl ?_
  refine lv_aload_n hx hb dX0_init_4 rfl (lv_at hl 0 rfl) ?_
  refine lv_sipush (v := 1297) hx hb dX0_init_5 (by decide) ?_
  refine mm_newa (atype := .byte) (ty := .byte) (N' := 1297) hx hb (hts (.arrayClass .byte) (by decide +kernel)) rfl 1 rfl (fun _ h => h) rfl hK hV (by decide) (by decide +kernel) (by decide +kernel) (by rw [hR]; exact Nat.le_of_ble_eq_true rfl) (by rw [hR]; exact Nat.le_of_ble_eq_true rfl) dX0_init_8 (fun vd H hq_vd hV => ?_)
  refine W.widen (k := 1) (n := 1297) (Nat.le_refl _) (Nat.le_refl _) ?_
  obtain ⟨L_1, eL_1⟩ : ∃ z, z = L ++ [vd] := ⟨_, rfl⟩
  obtain ⟨M_2, eM_2⟩ : ∃ z, z = va_up M vd (.inl (dA 1, 1297, .inl (fun _ => 0))) := ⟨_, rfl⟩
  rw [← eL_1, ← eM_2] at hV
  have n_en_vd : en ≠ vd := fun h => hq_vd (by rw [← h]; exact i_en)
  have m_en : M_2 en = _ := (congrFun eM_2 en).trans ((va_up_ne _ _ n_en_vd).trans m_en)
  have i_en : en ∈ L_1 := by rw [eL_1]; exact List.mem_append_left _ i_en
  have n_r_vd : r ≠ vd := fun h => hq_vd (by rw [← h]; exact i_r)
  have m_r : M_2 r = _ := (congrFun eM_2 r).trans ((va_up_ne _ _ n_r_vd).trans m_r)
  have i_r : r ∈ L_1 := by rw [eL_1]; exact List.mem_append_left _ i_r
  have n_nr_vd : nr ≠ vd := fun h => hq_vd (by rw [← h]; exact i_nr)
  have m_nr : M_2 nr = _ := (congrFun eM_2 nr).trans ((va_up_ne _ _ n_nr_vd).trans m_nr)
  have i_nr : nr ∈ L_1 := by rw [eL_1]; exact List.mem_append_left _ i_nr
  have n_bh_vd : bh ≠ vd := fun h => hq_vd (by rw [← h]; exact i_bh)
  have m_bh : M_2 bh = _ := (congrFun eM_2 bh).trans ((va_up_ne _ _ n_bh_vd).trans m_bh)
  have i_bh : bh ∈ L_1 := by rw [eL_1]; exact List.mem_append_left _ i_bh
  have o_vd : vd ∉ L := fun h => hq_vd (hsub vd h)
  have hsub : ∀ x, x ∈ L → x ∈ L_1 := fun x h => by rw [eL_1]; exact List.mem_append_left _ (hsub x h)
  have i_vd : vd ∈ L_1 := by rw [eL_1]; exact List.mem_append_right _ (List.mem_singleton.mpr rfl)
  have m_vd : M_2 vd = .inl (dA 1, 1297, .inl (fun _ => 0)) := by rw [eM_2]; exact va_up_self _ _ _
  have fE : ∀ q : Nat, q ∈ L → q ≠ en → M_2 q = M q := fun q h0 h1 => (congrFun eM_2 q).trans ((va_up_ne _ _ (fun h => o_vd (by rw [← h]; exact h0))).trans (fE q h0 h1))
  refine mm_putF (ci := 0) (v := .ref vd) (fs' := [.ref vd, .null, .null]) (ty := .array .byte) (C := RX0) (T := TX0) (N := 3) hx hb hts in_X0 tyX0 tyX0_ok nmX0 hown hK hV i_en m_en rfl 0 (by decide) f_11 (fun _ h => h) rfl hin rfl (by decide +kernel) rfl rfl (Nat.le_of_ble_eq_true rfl) rfl dX0_init_10 (fun M_3 H locs eM_3 hV => ?_)
  have m_r : M_3 r = _ := (congrFun eM_3 r).trans ((va_up_ne _ _ (mm_neq m_r m_en (by intro h; cases h))).trans m_r)
  have m_nr : M_3 nr = _ := (congrFun eM_3 nr).trans ((va_up_ne _ _ (mm_neq m_nr m_en (by intro h; cases h))).trans m_nr)
  have m_bh : M_3 bh = _ := (congrFun eM_3 bh).trans ((va_up_ne _ _ (mm_neq m_bh m_en (by intro h; cases h))).trans m_bh)
  have m_vd : M_3 vd = _ := (congrFun eM_3 vd).trans ((va_up_ne _ _ (Ne.symm n_en_vd)).trans m_vd)
  have m_en : M_3 en = .inr (0, [.ref vd, .null, .null]) := by rw [eM_3]; exact va_up_self _ _ _
  have fE : ∀ q : Nat, q ∈ L → q ≠ en → M_3 q = M q := fun q h0 h1 => (congrFun eM_3 q).trans ((va_up_ne _ _ h1).trans (fE q h0 h1))
  refine lv_aload_n hx hb dX0_init_13 rfl (lv_at hl 0 rfl) ?_
  refine lv_sipush (v := 1296) hx hb dX0_init_14 (by decide) ?_
  refine mm_newa (atype := .byte) (ty := .byte) (N' := 1296) hx hb (hts (.arrayClass .byte) (by decide +kernel)) rfl 1 rfl (fun _ h => h) rfl hK hV (by decide) (by decide +kernel) (by decide +kernel) (by rw [hR]; exact Nat.le_of_ble_eq_true rfl) (by rw [hR]; exact Nat.le_of_ble_eq_true rfl) dX0_init_17 (fun ct H hq_ct hV => ?_)
  refine W.widen (k := 2) (n := 2593) (Nat.le_refl _) (Nat.le_refl _) ?_
  obtain ⟨L_4, eL_4⟩ : ∃ z, z = L_1 ++ [ct] := ⟨_, rfl⟩
  obtain ⟨M_5, eM_5⟩ : ∃ z, z = va_up M_3 ct (.inl (dA 1, 1296, .inl (fun _ => 0))) := ⟨_, rfl⟩
  rw [← eL_4, ← eM_5] at hV
  have n_en_ct : en ≠ ct := fun h => hq_ct (by rw [← h]; exact i_en)
  have m_en : M_5 en = _ := (congrFun eM_5 en).trans ((va_up_ne _ _ n_en_ct).trans m_en)
  have i_en : en ∈ L_4 := by rw [eL_4]; exact List.mem_append_left _ i_en
  have n_r_ct : r ≠ ct := fun h => hq_ct (by rw [← h]; exact i_r)
  have m_r : M_5 r = _ := (congrFun eM_5 r).trans ((va_up_ne _ _ n_r_ct).trans m_r)
  have i_r : r ∈ L_4 := by rw [eL_4]; exact List.mem_append_left _ i_r
  have n_nr_ct : nr ≠ ct := fun h => hq_ct (by rw [← h]; exact i_nr)
  have m_nr : M_5 nr = _ := (congrFun eM_5 nr).trans ((va_up_ne _ _ n_nr_ct).trans m_nr)
  have i_nr : nr ∈ L_4 := by rw [eL_4]; exact List.mem_append_left _ i_nr
  have n_bh_ct : bh ≠ ct := fun h => hq_ct (by rw [← h]; exact i_bh)
  have m_bh : M_5 bh = _ := (congrFun eM_5 bh).trans ((va_up_ne _ _ n_bh_ct).trans m_bh)
  have i_bh : bh ∈ L_4 := by rw [eL_4]; exact List.mem_append_left _ i_bh
  have n_vd_ct : vd ≠ ct := fun h => hq_ct (by rw [← h]; exact i_vd)
  have m_vd : M_5 vd = _ := (congrFun eM_5 vd).trans ((va_up_ne _ _ n_vd_ct).trans m_vd)
  have i_vd : vd ∈ L_4 := by rw [eL_4]; exact List.mem_append_left _ i_vd
  have o_ct : ct ∉ L := fun h => hq_ct (hsub ct h)
  have hsub : ∀ x, x ∈ L → x ∈ L_4 := fun x h => by rw [eL_4]; exact List.mem_append_left _ (hsub x h)
  have i_ct : ct ∈ L_4 := by rw [eL_4]; exact List.mem_append_right _ (List.mem_singleton.mpr rfl)
  have m_ct : M_5 ct = .inl (dA 1, 1296, .inl (fun _ => 0)) := by rw [eM_5]; exact va_up_self _ _ _
  have fE : ∀ q : Nat, q ∈ L → q ≠ en → M_5 q = M q := fun q h0 h1 => (congrFun eM_5 q).trans ((va_up_ne _ _ (fun h => o_ct (by rw [← h]; exact h0))).trans (fE q h0 h1))
  refine mm_putF (ci := 0) (v := .ref ct) (fs' := [.ref vd, .ref ct, .null]) (ty := .array .byte) (C := RX0) (T := TX0) (N := 3) hx hb hts in_X0 tyX0 tyX0_ok nmX0 hown hK hV i_en m_en rfl 1 (by decide) f_15 (fun _ h => h) rfl hin rfl (by decide +kernel) rfl rfl (Nat.le_of_ble_eq_true rfl) rfl dX0_init_19 (fun M_6 H locs eM_6 hV => ?_)
  have m_r : M_6 r = _ := (congrFun eM_6 r).trans ((va_up_ne _ _ (mm_neq m_r m_en (by intro h; cases h))).trans m_r)
  have m_nr : M_6 nr = _ := (congrFun eM_6 nr).trans ((va_up_ne _ _ (mm_neq m_nr m_en (by intro h; cases h))).trans m_nr)
  have m_bh : M_6 bh = _ := (congrFun eM_6 bh).trans ((va_up_ne _ _ (mm_neq m_bh m_en (by intro h; cases h))).trans m_bh)
  have m_vd : M_6 vd = _ := (congrFun eM_6 vd).trans ((va_up_ne _ _ (Ne.symm n_en_vd)).trans m_vd)
  have m_ct : M_6 ct = _ := (congrFun eM_6 ct).trans ((va_up_ne _ _ (Ne.symm n_en_ct)).trans m_ct)
  have m_en : M_6 en = .inr (0, [.ref vd, .ref ct, .null]) := by rw [eM_6]; exact va_up_self _ _ _
  have fE : ∀ q : Nat, q ∈ L → q ≠ en → M_6 q = M q := fun q h0 h1 => (congrFun eM_6 q).trans ((va_up_ne _ _ h1).trans (fE q h0 h1))
  refine lv_aload_n hx hb dX0_init_22 rfl (lv_at hl 0 rfl) ?_
  refine lv_sipush (v := 5184) hx hb dX0_init_23 (by decide) ?_
  refine mm_newa (atype := .short) (ty := .short) (N' := 5184) hx hb (hts (.arrayClass .short) (by decide +kernel)) rfl 2 rfl (fun _ h => h) rfl hK hV (by decide) (by decide +kernel) (by decide +kernel) (by rw [hR]; exact Nat.le_of_ble_eq_true rfl) (by rw [hR]; exact Nat.le_of_ble_eq_true rfl) dX0_init_26 (fun nz H hq_nz hV => ?_)
  refine W.widen (k := 3) (n := 7777) (Nat.le_refl _) (Nat.le_refl _) ?_
  obtain ⟨L_7, eL_7⟩ : ∃ z, z = L_4 ++ [nz] := ⟨_, rfl⟩
  obtain ⟨M_8, eM_8⟩ : ∃ z, z = va_up M_6 nz (.inl (dA 2, 5184, .inl (fun _ => 0))) := ⟨_, rfl⟩
  rw [← eL_7, ← eM_8] at hV
  have n_en_nz : en ≠ nz := fun h => hq_nz (by rw [← h]; exact i_en)
  have m_en : M_8 en = _ := (congrFun eM_8 en).trans ((va_up_ne _ _ n_en_nz).trans m_en)
  have i_en : en ∈ L_7 := by rw [eL_7]; exact List.mem_append_left _ i_en
  have n_r_nz : r ≠ nz := fun h => hq_nz (by rw [← h]; exact i_r)
  have m_r : M_8 r = _ := (congrFun eM_8 r).trans ((va_up_ne _ _ n_r_nz).trans m_r)
  have i_r : r ∈ L_7 := by rw [eL_7]; exact List.mem_append_left _ i_r
  have n_nr_nz : nr ≠ nz := fun h => hq_nz (by rw [← h]; exact i_nr)
  have m_nr : M_8 nr = _ := (congrFun eM_8 nr).trans ((va_up_ne _ _ n_nr_nz).trans m_nr)
  have i_nr : nr ∈ L_7 := by rw [eL_7]; exact List.mem_append_left _ i_nr
  have n_bh_nz : bh ≠ nz := fun h => hq_nz (by rw [← h]; exact i_bh)
  have m_bh : M_8 bh = _ := (congrFun eM_8 bh).trans ((va_up_ne _ _ n_bh_nz).trans m_bh)
  have i_bh : bh ∈ L_7 := by rw [eL_7]; exact List.mem_append_left _ i_bh
  have n_vd_nz : vd ≠ nz := fun h => hq_nz (by rw [← h]; exact i_vd)
  have m_vd : M_8 vd = _ := (congrFun eM_8 vd).trans ((va_up_ne _ _ n_vd_nz).trans m_vd)
  have i_vd : vd ∈ L_7 := by rw [eL_7]; exact List.mem_append_left _ i_vd
  have n_ct_nz : ct ≠ nz := fun h => hq_nz (by rw [← h]; exact i_ct)
  have m_ct : M_8 ct = _ := (congrFun eM_8 ct).trans ((va_up_ne _ _ n_ct_nz).trans m_ct)
  have i_ct : ct ∈ L_7 := by rw [eL_7]; exact List.mem_append_left _ i_ct
  have o_nz : nz ∉ L := fun h => hq_nz (hsub nz h)
  have hsub : ∀ x, x ∈ L → x ∈ L_7 := fun x h => by rw [eL_7]; exact List.mem_append_left _ (hsub x h)
  have i_nz : nz ∈ L_7 := by rw [eL_7]; exact List.mem_append_right _ (List.mem_singleton.mpr rfl)
  have m_nz : M_8 nz = .inl (dA 2, 5184, .inl (fun _ => 0)) := by rw [eM_8]; exact va_up_self _ _ _
  have fE : ∀ q : Nat, q ∈ L → q ≠ en → M_8 q = M q := fun q h0 h1 => (congrFun eM_8 q).trans ((va_up_ne _ _ (fun h => o_nz (by rw [← h]; exact h0))).trans (fE q h0 h1))
  refine mm_putF (ci := 0) (v := .ref nz) (fs' := [.ref vd, .ref ct, .ref nz]) (ty := .array .short) (C := RX0) (T := TX0) (N := 3) hx hb hts in_X0 tyX0 tyX0_ok nmX0 hown hK hV i_en m_en rfl 2 (by decide) f_18 (fun _ h => h) rfl hin rfl (by decide +kernel) rfl rfl (Nat.le_of_ble_eq_true rfl) rfl dX0_init_28 (fun M_9 H locs eM_9 hV => ?_)
  have m_r : M_9 r = _ := (congrFun eM_9 r).trans ((va_up_ne _ _ (mm_neq m_r m_en (by intro h; cases h))).trans m_r)
  have m_nr : M_9 nr = _ := (congrFun eM_9 nr).trans ((va_up_ne _ _ (mm_neq m_nr m_en (by intro h; cases h))).trans m_nr)
  have m_bh : M_9 bh = _ := (congrFun eM_9 bh).trans ((va_up_ne _ _ (mm_neq m_bh m_en (by intro h; cases h))).trans m_bh)
  have m_vd : M_9 vd = _ := (congrFun eM_9 vd).trans ((va_up_ne _ _ (Ne.symm n_en_vd)).trans m_vd)
  have m_ct : M_9 ct = _ := (congrFun eM_9 ct).trans ((va_up_ne _ _ (Ne.symm n_en_ct)).trans m_ct)
  have m_nz : M_9 nz = _ := (congrFun eM_9 nz).trans ((va_up_ne _ _ (Ne.symm n_en_nz)).trans m_nz)
  have m_en : M_9 en = .inr (0, [.ref vd, .ref ct, .ref nz]) := by rw [eM_9]; exact va_up_self _ _ _
  have fE : ∀ q : Nat, q ∈ L → q ≠ en → M_9 q = M q := fun q h0 h1 => (congrFun eM_9 q).trans ((va_up_ne _ _ h1).trans (fE q h0 h1))
  refine mm_new (ci := 1) (fs := [.null, .int 0]) (C := RX1) (T := TX1) (N := 2) hx hb hts in_X1 tyX1 tyX1_ok hown (hts (.classLink RX0 22 RX1) (by decide +kernel)) (hts (.instantiable RX1 2) (by decide +kernel)) (hts (.initialized RX1) (by decide +kernel)) hK hV rfl (fun j hj => by rcases (show j = 0 ∨ j = 1 by omega) with rfl | rfl <;> rfl) (by rw [hR]; exact Nat.le_of_ble_eq_true rfl) (by rw [hR]; exact Nat.le_of_ble_eq_true rfl) dX0_init_31 (fun t H hq_t hV => ?_)
  refine W.widen (k := 4) (n := 7779) (Nat.le_refl _) (Nat.le_refl _) ?_
  obtain ⟨L_10, eL_10⟩ : ∃ z, z = L_7 ++ [t] := ⟨_, rfl⟩
  obtain ⟨M_11, eM_11⟩ : ∃ z, z = va_up M_9 t (.inr (1, [.null, .int 0])) := ⟨_, rfl⟩
  rw [← eL_10, ← eM_11] at hV
  have n_en_t : en ≠ t := fun h => hq_t (by rw [← h]; exact i_en)
  have m_en : M_11 en = _ := (congrFun eM_11 en).trans ((va_up_ne _ _ n_en_t).trans m_en)
  have i_en : en ∈ L_10 := by rw [eL_10]; exact List.mem_append_left _ i_en
  have n_r_t : r ≠ t := fun h => hq_t (by rw [← h]; exact i_r)
  have m_r : M_11 r = _ := (congrFun eM_11 r).trans ((va_up_ne _ _ n_r_t).trans m_r)
  have i_r : r ∈ L_10 := by rw [eL_10]; exact List.mem_append_left _ i_r
  have n_nr_t : nr ≠ t := fun h => hq_t (by rw [← h]; exact i_nr)
  have m_nr : M_11 nr = _ := (congrFun eM_11 nr).trans ((va_up_ne _ _ n_nr_t).trans m_nr)
  have i_nr : nr ∈ L_10 := by rw [eL_10]; exact List.mem_append_left _ i_nr
  have n_bh_t : bh ≠ t := fun h => hq_t (by rw [← h]; exact i_bh)
  have m_bh : M_11 bh = _ := (congrFun eM_11 bh).trans ((va_up_ne _ _ n_bh_t).trans m_bh)
  have i_bh : bh ∈ L_10 := by rw [eL_10]; exact List.mem_append_left _ i_bh
  have n_vd_t : vd ≠ t := fun h => hq_t (by rw [← h]; exact i_vd)
  have m_vd : M_11 vd = _ := (congrFun eM_11 vd).trans ((va_up_ne _ _ n_vd_t).trans m_vd)
  have i_vd : vd ∈ L_10 := by rw [eL_10]; exact List.mem_append_left _ i_vd
  have n_ct_t : ct ≠ t := fun h => hq_t (by rw [← h]; exact i_ct)
  have m_ct : M_11 ct = _ := (congrFun eM_11 ct).trans ((va_up_ne _ _ n_ct_t).trans m_ct)
  have i_ct : ct ∈ L_10 := by rw [eL_10]; exact List.mem_append_left _ i_ct
  have n_nz_t : nz ≠ t := fun h => hq_t (by rw [← h]; exact i_nz)
  have m_nz : M_11 nz = _ := (congrFun eM_11 nz).trans ((va_up_ne _ _ n_nz_t).trans m_nz)
  have i_nz : nz ∈ L_10 := by rw [eL_10]; exact List.mem_append_left _ i_nz
  have o_t : t ∉ L := fun h => hq_t (hsub t h)
  have hsub : ∀ x, x ∈ L → x ∈ L_10 := fun x h => by rw [eL_10]; exact List.mem_append_left _ (hsub x h)
  have i_t : t ∈ L_10 := by rw [eL_10]; exact List.mem_append_right _ (List.mem_singleton.mpr rfl)
  have m_t : M_11 t = .inr (1, [.null, .int 0]) := by rw [eM_11]; exact va_up_self _ _ _
  have fE : ∀ q : Nat, q ∈ L → q ≠ en → M_11 q = M q := fun q h0 h1 => (congrFun eM_11 q).trans ((va_up_ne _ _ (fun h => o_t (by rw [← h]; exact h0))).trans (fE q h0 h1))
  refine lv_dup hx hb dX0_init_34 rfl ?_
  refine mm_INv (mc := 1) (ms := 72) (host := RX4) (As := []) (rest := [.ref t]) ⟨hx, hb, hml, hown, hts⟩ hK hV (c_X1_init l D dA i_t m_t) ⟨va_cnB 0 hts gX0_init_X1_init_n24 rfl rfl rfl hK.2.1 (hts (.initialized RX1) (by decide +kernel)) (by decide +kernel) (mm_levR hR (by omega) (by decide)), rfl, hts (.instanceMethod yX1_init) (by decide +kernel)⟩ rfl hl.1 rfl (Nat.le_of_ble_eq_true rfl) dX0_init_35 (by rw [hR]; exact ⟨Nat.le_of_ble_eq_true rfl, Nat.le_of_ble_eq_true rfl⟩) (fun L9 M9 H locs hp hV => ?_)
  obtain ⟨pk, hq_pk, eL9, eM9⟩ := hp
  rw [eL9, eM9] at hV
  refine W.widen (k := 5) (n := 7851) (Nat.le_refl _) (Nat.le_refl _) ?_
  obtain ⟨L_12, eL_12⟩ : ∃ z, z = L_10 ++ [pk] := ⟨_, rfl⟩
  obtain ⟨M_13, eM_13⟩ : ∃ z, z = va_up (va_up M_11 pk (.inl (dA 0, 72, .inl (fun _ => 0)))) t (oL pk 0) := ⟨_, rfl⟩
  rw [← eL_12, ← eM_13] at hV
  have n_en_pk : en ≠ pk := fun h => hq_pk (by rw [← h]; exact i_en)
  have n_r_pk : r ≠ pk := fun h => hq_pk (by rw [← h]; exact i_r)
  have n_nr_pk : nr ≠ pk := fun h => hq_pk (by rw [← h]; exact i_nr)
  have n_bh_pk : bh ≠ pk := fun h => hq_pk (by rw [← h]; exact i_bh)
  have n_vd_pk : vd ≠ pk := fun h => hq_pk (by rw [← h]; exact i_vd)
  have n_ct_pk : ct ≠ pk := fun h => hq_pk (by rw [← h]; exact i_ct)
  have n_nz_pk : nz ≠ pk := fun h => hq_pk (by rw [← h]; exact i_nz)
  have n_t_pk : t ≠ pk := fun h => hq_pk (by rw [← h]; exact i_t)
  have m_en : M_13 en = _ := (congrFun eM_13 en).trans ((va_up_ne _ _ n_en_t).trans ((va_up_ne _ _ n_en_pk).trans m_en))
  have m_r : M_13 r = _ := (congrFun eM_13 r).trans ((va_up_ne _ _ n_r_t).trans ((va_up_ne _ _ n_r_pk).trans m_r))
  have m_nr : M_13 nr = _ := (congrFun eM_13 nr).trans ((va_up_ne _ _ n_nr_t).trans ((va_up_ne _ _ n_nr_pk).trans m_nr))
  have m_bh : M_13 bh = _ := (congrFun eM_13 bh).trans ((va_up_ne _ _ n_bh_t).trans ((va_up_ne _ _ n_bh_pk).trans m_bh))
  have m_vd : M_13 vd = _ := (congrFun eM_13 vd).trans ((va_up_ne _ _ n_vd_t).trans ((va_up_ne _ _ n_vd_pk).trans m_vd))
  have m_ct : M_13 ct = _ := (congrFun eM_13 ct).trans ((va_up_ne _ _ n_ct_t).trans ((va_up_ne _ _ n_ct_pk).trans m_ct))
  have m_nz : M_13 nz = _ := (congrFun eM_13 nz).trans ((va_up_ne _ _ n_nz_t).trans ((va_up_ne _ _ n_nz_pk).trans m_nz))
  have i_en : en ∈ L_12 := by rw [eL_12]; exact List.mem_append_left _ i_en
  have i_r : r ∈ L_12 := by rw [eL_12]; exact List.mem_append_left _ i_r
  have i_nr : nr ∈ L_12 := by rw [eL_12]; exact List.mem_append_left _ i_nr
  have i_bh : bh ∈ L_12 := by rw [eL_12]; exact List.mem_append_left _ i_bh
  have i_vd : vd ∈ L_12 := by rw [eL_12]; exact List.mem_append_left _ i_vd
  have i_ct : ct ∈ L_12 := by rw [eL_12]; exact List.mem_append_left _ i_ct
  have i_nz : nz ∈ L_12 := by rw [eL_12]; exact List.mem_append_left _ i_nz
  have i_t : t ∈ L_12 := by rw [eL_12]; exact List.mem_append_left _ i_t
  have m_t : M_13 t = .inr (1, [.ref pk, .int (nI 0)]) := (congrFun eM_13 t).trans (va_up_self _ _ _)
  have o_pk : pk ∉ L := fun h => hq_pk (hsub pk h)
  have hsub : ∀ x, x ∈ L → x ∈ L_12 := fun x h => by rw [eL_12]; exact List.mem_append_left _ (hsub x h)
  have i_pk : pk ∈ L_12 := by rw [eL_12]; exact List.mem_append_right _ (List.mem_singleton.mpr rfl)
  have m_pk : M_13 pk = .inl (dA 0, 72, .inl (fun _ => 0)) := (congrFun eM_13 pk).trans ((va_up_ne _ _ (Ne.symm n_t_pk)).trans (va_up_self _ _ _))
  have fE : ∀ q : Nat, q ∈ L → q ≠ en → M_13 q = M q := fun q h0 h1 => (congrFun eM_13 q).trans ((va_up_ne _ _ (fun h => o_t (by rw [← h]; exact h0))).trans ((va_up_ne _ _ (fun h => o_pk (by rw [← h]; exact h0))).trans (fE q h0 h1)))
  refine lv_astore_n (lv' := [(2, .ref t), (0, .ref en), (1, .ref r)]) hx hb dX0_init_38 rfl hl (by decide) rfl (fun ls hl => ?_)
  refine mm_new (ci := 2) (fs := [.int 0, .int 0, .int 0, .int 0, .int 0]) (C := RX2) (T := TX2) (N := 5) hx hb hts in_X2 tyX2 tyX2_ok hown (hts (.classLink RX0 25 RX2) (by decide +kernel)) (hts (.instantiable RX2 5) (by decide +kernel)) (hts (.initialized RX2) (by decide +kernel)) hK hV rfl (fun j hj => by rcases (show j = 0 ∨ j = 1 ∨ j = 2 ∨ j = 3 ∨ j = 4 by omega) with rfl | rfl | rfl | rfl | rfl <;> rfl) (by rw [hR]; exact Nat.le_of_ble_eq_true rfl) (by rw [hR]; exact Nat.le_of_ble_eq_true rfl) dX0_init_39 (fun a H hq_a hV => ?_)
  refine W.widen (k := 6) (n := 7856) (Nat.le_refl _) (Nat.le_refl _) ?_
  obtain ⟨L_14, eL_14⟩ : ∃ z, z = L_12 ++ [a] := ⟨_, rfl⟩
  obtain ⟨M_15, eM_15⟩ : ∃ z, z = va_up M_13 a (.inr (2, [.int 0, .int 0, .int 0, .int 0, .int 0])) := ⟨_, rfl⟩
  rw [← eL_14, ← eM_15] at hV
  have n_en_a : en ≠ a := fun h => hq_a (by rw [← h]; exact i_en)
  have m_en : M_15 en = _ := (congrFun eM_15 en).trans ((va_up_ne _ _ n_en_a).trans m_en)
  have i_en : en ∈ L_14 := by rw [eL_14]; exact List.mem_append_left _ i_en
  have n_r_a : r ≠ a := fun h => hq_a (by rw [← h]; exact i_r)
  have m_r : M_15 r = _ := (congrFun eM_15 r).trans ((va_up_ne _ _ n_r_a).trans m_r)
  have i_r : r ∈ L_14 := by rw [eL_14]; exact List.mem_append_left _ i_r
  have n_nr_a : nr ≠ a := fun h => hq_a (by rw [← h]; exact i_nr)
  have m_nr : M_15 nr = _ := (congrFun eM_15 nr).trans ((va_up_ne _ _ n_nr_a).trans m_nr)
  have i_nr : nr ∈ L_14 := by rw [eL_14]; exact List.mem_append_left _ i_nr
  have n_bh_a : bh ≠ a := fun h => hq_a (by rw [← h]; exact i_bh)
  have m_bh : M_15 bh = _ := (congrFun eM_15 bh).trans ((va_up_ne _ _ n_bh_a).trans m_bh)
  have i_bh : bh ∈ L_14 := by rw [eL_14]; exact List.mem_append_left _ i_bh
  have n_vd_a : vd ≠ a := fun h => hq_a (by rw [← h]; exact i_vd)
  have m_vd : M_15 vd = _ := (congrFun eM_15 vd).trans ((va_up_ne _ _ n_vd_a).trans m_vd)
  have i_vd : vd ∈ L_14 := by rw [eL_14]; exact List.mem_append_left _ i_vd
  have n_ct_a : ct ≠ a := fun h => hq_a (by rw [← h]; exact i_ct)
  have m_ct : M_15 ct = _ := (congrFun eM_15 ct).trans ((va_up_ne _ _ n_ct_a).trans m_ct)
  have i_ct : ct ∈ L_14 := by rw [eL_14]; exact List.mem_append_left _ i_ct
  have n_nz_a : nz ≠ a := fun h => hq_a (by rw [← h]; exact i_nz)
  have m_nz : M_15 nz = _ := (congrFun eM_15 nz).trans ((va_up_ne _ _ n_nz_a).trans m_nz)
  have i_nz : nz ∈ L_14 := by rw [eL_14]; exact List.mem_append_left _ i_nz
  have n_t_a : t ≠ a := fun h => hq_a (by rw [← h]; exact i_t)
  have m_t : M_15 t = _ := (congrFun eM_15 t).trans ((va_up_ne _ _ n_t_a).trans m_t)
  have i_t : t ∈ L_14 := by rw [eL_14]; exact List.mem_append_left _ i_t
  have n_pk_a : pk ≠ a := fun h => hq_a (by rw [← h]; exact i_pk)
  have m_pk : M_15 pk = _ := (congrFun eM_15 pk).trans ((va_up_ne _ _ n_pk_a).trans m_pk)
  have i_pk : pk ∈ L_14 := by rw [eL_14]; exact List.mem_append_left _ i_pk
  have o_a : a ∉ L := fun h => hq_a (hsub a h)
  have hsub : ∀ x, x ∈ L → x ∈ L_14 := fun x h => by rw [eL_14]; exact List.mem_append_left _ (hsub x h)
  have i_a : a ∈ L_14 := by rw [eL_14]; exact List.mem_append_right _ (List.mem_singleton.mpr rfl)
  have m_a : M_15 a = .inr (2, [.int 0, .int 0, .int 0, .int 0, .int 0]) := by rw [eM_15]; exact va_up_self _ _ _
  have fE : ∀ q : Nat, q ∈ L → q ≠ en → M_15 q = M q := fun q h0 h1 => (congrFun eM_15 q).trans ((va_up_ne _ _ (fun h => o_a (by rw [← h]; exact h0))).trans (fE q h0 h1))
  refine lv_dup hx hb dX0_init_42 rfl ?_
  refine mm_INv (mc := 0) (ms := 0) (host := RX4) (As := []) (rest := [.ref a]) ⟨hx, hb, hml, hown, hts⟩ hK hV (c_X2_init l D dA a) ⟨va_cnB 0 hts gX0_init_X2_init_n27 rfl rfl rfl hK.2.2.1 (hts (.initialized RX2) (by decide +kernel)) (by decide +kernel) (mm_levR hR (by omega) (by decide)), rfl, hts (.instanceMethod yX2_init) (by decide +kernel)⟩ rfl hl.1 rfl (Nat.le_of_ble_eq_true rfl) dX0_init_43 (by rw [hR]; exact ⟨Nat.le_of_ble_eq_true rfl, Nat.le_of_ble_eq_true rfl⟩) (fun L9 M9 H locs hp hV => ?_)
  rw [hp.1, hp.2] at hV
  refine lv_astore_n (lv' := [(3, .ref a), (2, .ref t), (0, .ref en), (1, .ref r)]) hx hb dX0_init_46 rfl hl (by decide) rfl (fun ls hl => ?_)
  refine mm_new (ci := 2) (fs := [.int 0, .int 0, .int 0, .int 0, .int 0]) (C := RX2) (T := TX2) (N := 5) hx hb hts in_X2 tyX2 tyX2_ok hown (hts (.classLink RX0 25 RX2) (by decide +kernel)) (hts (.instantiable RX2 5) (by decide +kernel)) (hts (.initialized RX2) (by decide +kernel)) hK hV rfl (fun j hj => by rcases (show j = 0 ∨ j = 1 ∨ j = 2 ∨ j = 3 ∨ j = 4 by omega) with rfl | rfl | rfl | rfl | rfl <;> rfl) (by rw [hR]; exact Nat.le_of_ble_eq_true rfl) (by rw [hR]; exact Nat.le_of_ble_eq_true rfl) dX0_init_47 (fun b H hq_b hV => ?_)
  refine W.widen (k := 7) (n := 7861) (Nat.le_refl _) (Nat.le_refl _) ?_
  obtain ⟨L_16, eL_16⟩ : ∃ z, z = L_14 ++ [b] := ⟨_, rfl⟩
  obtain ⟨M_17, eM_17⟩ : ∃ z, z = va_up M_15 b (.inr (2, [.int 0, .int 0, .int 0, .int 0, .int 0])) := ⟨_, rfl⟩
  rw [← eL_16, ← eM_17] at hV
  have n_en_b : en ≠ b := fun h => hq_b (by rw [← h]; exact i_en)
  have m_en : M_17 en = _ := (congrFun eM_17 en).trans ((va_up_ne _ _ n_en_b).trans m_en)
  have i_en : en ∈ L_16 := by rw [eL_16]; exact List.mem_append_left _ i_en
  have n_r_b : r ≠ b := fun h => hq_b (by rw [← h]; exact i_r)
  have m_r : M_17 r = _ := (congrFun eM_17 r).trans ((va_up_ne _ _ n_r_b).trans m_r)
  have i_r : r ∈ L_16 := by rw [eL_16]; exact List.mem_append_left _ i_r
  have n_nr_b : nr ≠ b := fun h => hq_b (by rw [← h]; exact i_nr)
  have m_nr : M_17 nr = _ := (congrFun eM_17 nr).trans ((va_up_ne _ _ n_nr_b).trans m_nr)
  have i_nr : nr ∈ L_16 := by rw [eL_16]; exact List.mem_append_left _ i_nr
  have n_bh_b : bh ≠ b := fun h => hq_b (by rw [← h]; exact i_bh)
  have m_bh : M_17 bh = _ := (congrFun eM_17 bh).trans ((va_up_ne _ _ n_bh_b).trans m_bh)
  have i_bh : bh ∈ L_16 := by rw [eL_16]; exact List.mem_append_left _ i_bh
  have n_vd_b : vd ≠ b := fun h => hq_b (by rw [← h]; exact i_vd)
  have m_vd : M_17 vd = _ := (congrFun eM_17 vd).trans ((va_up_ne _ _ n_vd_b).trans m_vd)
  have i_vd : vd ∈ L_16 := by rw [eL_16]; exact List.mem_append_left _ i_vd
  have n_ct_b : ct ≠ b := fun h => hq_b (by rw [← h]; exact i_ct)
  have m_ct : M_17 ct = _ := (congrFun eM_17 ct).trans ((va_up_ne _ _ n_ct_b).trans m_ct)
  have i_ct : ct ∈ L_16 := by rw [eL_16]; exact List.mem_append_left _ i_ct
  have n_nz_b : nz ≠ b := fun h => hq_b (by rw [← h]; exact i_nz)
  have m_nz : M_17 nz = _ := (congrFun eM_17 nz).trans ((va_up_ne _ _ n_nz_b).trans m_nz)
  have i_nz : nz ∈ L_16 := by rw [eL_16]; exact List.mem_append_left _ i_nz
  have n_t_b : t ≠ b := fun h => hq_b (by rw [← h]; exact i_t)
  have m_t : M_17 t = _ := (congrFun eM_17 t).trans ((va_up_ne _ _ n_t_b).trans m_t)
  have i_t : t ∈ L_16 := by rw [eL_16]; exact List.mem_append_left _ i_t
  have n_pk_b : pk ≠ b := fun h => hq_b (by rw [← h]; exact i_pk)
  have m_pk : M_17 pk = _ := (congrFun eM_17 pk).trans ((va_up_ne _ _ n_pk_b).trans m_pk)
  have i_pk : pk ∈ L_16 := by rw [eL_16]; exact List.mem_append_left _ i_pk
  have n_a_b : a ≠ b := fun h => hq_b (by rw [← h]; exact i_a)
  have m_a : M_17 a = _ := (congrFun eM_17 a).trans ((va_up_ne _ _ n_a_b).trans m_a)
  have i_a : a ∈ L_16 := by rw [eL_16]; exact List.mem_append_left _ i_a
  have o_b : b ∉ L := fun h => hq_b (hsub b h)
  have hsub : ∀ x, x ∈ L → x ∈ L_16 := fun x h => by rw [eL_16]; exact List.mem_append_left _ (hsub x h)
  have i_b : b ∈ L_16 := by rw [eL_16]; exact List.mem_append_right _ (List.mem_singleton.mpr rfl)
  have m_b : M_17 b = .inr (2, [.int 0, .int 0, .int 0, .int 0, .int 0]) := by rw [eM_17]; exact va_up_self _ _ _
  have fE : ∀ q : Nat, q ∈ L → q ≠ en → M_17 q = M q := fun q h0 h1 => (congrFun eM_17 q).trans ((va_up_ne _ _ (fun h => o_b (by rw [← h]; exact h0))).trans (fE q h0 h1))
  refine lv_dup hx hb dX0_init_50 rfl ?_
  refine mm_INv (mc := 0) (ms := 0) (host := RX4) (As := []) (rest := [.ref b]) ⟨hx, hb, hml, hown, hts⟩ hK hV (c_X2_init l D dA b) ⟨va_cnB 0 hts gX0_init_X2_init_n27 rfl rfl rfl hK.2.2.1 (hts (.initialized RX2) (by decide +kernel)) (by decide +kernel) (mm_levR hR (by omega) (by decide)), rfl, hts (.instanceMethod yX2_init) (by decide +kernel)⟩ rfl hl.1 rfl (Nat.le_of_ble_eq_true rfl) dX0_init_51 (by rw [hR]; exact ⟨Nat.le_of_ble_eq_true rfl, Nat.le_of_ble_eq_true rfl⟩) (fun L9 M9 H locs hp hV => ?_)
  rw [hp.1, hp.2] at hV
  refine lv_astore (lv' := [(4, .ref b), (3, .ref a), (2, .ref t), (0, .ref en), (1, .ref r)]) hx hb dX0_init_54 hl (by decide) rfl (fun ls hl => ?_)
  refine lv_aload_n hx hb dX0_init_56 rfl (lv_at hl 3 rfl) ?_
  refine mm_get (ci := 0) (C := RX0) (T := TX0) (N := 3) hx hb hts in_X0 hown hK hV i_en m_en rfl 0 (by decide) f_11 (fun _ h => h) rfl dX0_init_57 ?_
  refine lv_sipush (v := 1296) hx hb dX0_init_60 (by decide) ?_
  refine lv_bipush (v := (-100)) hx hb dX0_init_63 (by decide) ?_
  refine mm_bastN (j := 1296) (x := (-100)) hx hb hK hV i_vd m_vd rfl (by decide) (by decide) dX0_init_65 (fun M_18 H locs eM_18 hV => ?_)
  have m_en : M_18 en = _ := (congrFun eM_18 en).trans ((va_up_ne _ _ n_en_vd).trans m_en)
  have m_r : M_18 r = _ := (congrFun eM_18 r).trans ((va_up_ne _ _ n_r_vd).trans m_r)
  have m_nr : M_18 nr = _ := (congrFun eM_18 nr).trans ((va_up_ne _ _ n_nr_vd).trans m_nr)
  have m_bh : M_18 bh = _ := (congrFun eM_18 bh).trans ((va_up_ne _ _ n_bh_vd).trans m_bh)
  have m_ct : M_18 ct = _ := (congrFun eM_18 ct).trans ((va_up_ne _ _ (Ne.symm n_vd_ct)).trans m_ct)
  have m_nz : M_18 nz = _ := (congrFun eM_18 nz).trans ((va_up_ne _ _ (Ne.symm n_vd_nz)).trans m_nz)
  have m_t : M_18 t = _ := (congrFun eM_18 t).trans ((va_up_ne _ _ (Ne.symm n_vd_t)).trans m_t)
  have m_pk : M_18 pk = _ := (congrFun eM_18 pk).trans ((va_up_ne _ _ (Ne.symm n_vd_pk)).trans m_pk)
  have m_a : M_18 a = _ := (congrFun eM_18 a).trans ((va_up_ne _ _ (Ne.symm n_vd_a)).trans m_a)
  have m_b : M_18 b = _ := (congrFun eM_18 b).trans ((va_up_ne _ _ (Ne.symm n_vd_b)).trans m_b)
  have m_vd : M_18 vd = .inl (dA 1, 1297, .inl (upd (fun _ => 0) 1296 (vp_nar .byte (-100)))) := by rw [eM_18]; exact va_up_self _ _ _
  have fE : ∀ q : Nat, q ∈ L → q ≠ en → M_18 q = M q := fun q h0 h1 => (congrFun eM_18 q).trans ((va_up_ne _ _ (fun h => o_vd (by rw [← h]; exact h0))).trans (fE q h0 h1))
  refine lv_iconst (v := 0) hx hb dX0_init_66 (by decide) ?_
  refine lv_topi (fun x5 ex5 => ?_)
  refine lv_istore (lv' := [(5, .int x5), (4, .ref b), (3, .ref a), (2, .ref t), (0, .ref en), (1, .ref r)]) hx hb dX0_init_67 hl (by decide) rfl (fun ls hl => ?_)
  have m_vd : M_18 vd = .inl (dA 1, 1297, .inl (V0 0)) := by rw [m_vd]; exact congrArg (fun z => Sum.inl (dA 1, 1297, Sum.inl z)) (by rw [show vp_nar .byte (-100) = -100 by decide +kernel]; exact V0_0)
  have m_ct : M_18 ct = .inl (dA 1, 1296, .inl (C0 0)) := by rw [m_ct]; exact congrArg (fun z => Sum.inl (dA 1, 1296, Sum.inl z)) C0_0
  have LP : ∀ (k i : Nat) (x5 : Int32) (nf f0 : Nat → Int32) (n0 : Nat) (Pa Pb : Ps) (M1 : mm_M) (H : Heap) (locs : List Loc) (ls : Array Slot), i + k = 1296 → x5 = nI i → n0 ≤ 72 → (∀ e, e < i → ∀ j, j < CNx e → nf (4 * e + j) = NXv e j) → mm_V A D L_16 M1 s H locs → M1 en = .inr (0, [.ref vd, .ref ct, .ref nz]) → M1 r = .inr (3, [.ref nr, .ref bh]) → M1 nr = .inl (dA 0, 72, .inl nearT) → M1 bh = .inl (dA 0, 72, .inl behT) → M1 vd = .inl (dA 1, 1297, .inl (V0 i)) → M1 ct = .inl (dA 1, 1296, .inl (C0 i)) → M1 nz = .inl (dA 2, 5184, .inl nf) → M1 t = .inr (1, [.ref pk, .int (nI n0)]) → M1 pk = .inl (dA 0, 72, .inl f0) → M1 a = .inr (2, [.int Pa.1, .int Pa.2.1, .int Pa.2.2.1, .int Pa.2.2.2.1, .int Pa.2.2.2.2]) → M1 b = .inr (2, [.int Pb.1, .int Pb.2.1, .int Pb.2.2.1, .int Pb.2.2.2.1, .int Pb.2.2.2.2]) → (∀ q : Nat, q ∈ L → q ≠ en → M1 q = M q) → lv_has ls 6 [(0, .ref en), (1, .ref r), (2, .ref t), (3, .ref a), (4, .ref b), (5, .int x5)] → W p l e R s m args below meth c H locs 7 7861 Q (F0 m 69 ls []) := by
    intro k
    induction k with
    | zero =>
      intro i x5 nf f0 n0 Pa Pb M1 H locs ls hik hx5 hn0 hN hV m_en m_r m_nr m_bh m_vd m_ct m_nz m_t m_pk m_a m_b fE hl
      refine lv_iload hx hb dX0_init_69 (lv_at hl 5 rfl) ?_
      refine lv_sipush (v := 1296) hx hb dX0_init_71 (by decide) ?_
      refine lv_icmp_ge (tgt := 108) hx hb dX0_init_74 (by decide) (fun c74 => ?_) (fun c74 => ?_)
      · have hi : i = 1296 := by omega
        subst hi
        refine lv_aload_n hx hb dX0_init_108 rfl (lv_at hl 0 rfl) ?_
        refine mm_Vm (ci := 0) (As := []) (rest := []) ⟨hx, hb, hml, hown, hts⟩ hK hV (c_settle l D dA (CN := CNx) (NX := NXx) ⟨i_en, i_vd, i_ct, i_nz, m_en, m_vd, m_ct, m_nz⟩ ⟨fun e he => ⟨by unfold C0; rw [if_pos he], CNx_le e⟩, fun e he j hj => ⟨(hN e he j hj).trans (htb e he j hj).1, (htb e he j hj).2⟩⟩) (cwV 0 hts gX0_init_X0_settle rfl rfl rfl (by decide +kernel) (mm_levR hR (by omega) (by decide))) i_en m_en rfl rfl hl.1 rfl (Nat.le_of_ble_eq_true rfl) dX0_init_109 (by rw [hR]; exact ⟨Nat.le_refl _, Nat.le_refl _⟩) (fun M_19 H locs eM_19 hV => ?_)
        have m_en : M_19 en = _ := (congrFun eM_19 en).trans ((va_up_ne _ _ n_en_vd).trans m_en)
        have m_r : M_19 r = _ := (congrFun eM_19 r).trans ((va_up_ne _ _ n_r_vd).trans m_r)
        have m_nr : M_19 nr = _ := (congrFun eM_19 nr).trans ((va_up_ne _ _ n_nr_vd).trans m_nr)
        have m_bh : M_19 bh = _ := (congrFun eM_19 bh).trans ((va_up_ne _ _ n_bh_vd).trans m_bh)
        have m_ct : M_19 ct = _ := (congrFun eM_19 ct).trans ((va_up_ne _ _ (Ne.symm n_vd_ct)).trans m_ct)
        have m_nz : M_19 nz = _ := (congrFun eM_19 nz).trans ((va_up_ne _ _ (Ne.symm n_vd_nz)).trans m_nz)
        have m_t : M_19 t = _ := (congrFun eM_19 t).trans ((va_up_ne _ _ (Ne.symm n_vd_t)).trans m_t)
        have m_pk : M_19 pk = _ := (congrFun eM_19 pk).trans ((va_up_ne _ _ (Ne.symm n_vd_pk)).trans m_pk)
        have m_a : M_19 a = _ := (congrFun eM_19 a).trans ((va_up_ne _ _ (Ne.symm n_vd_a)).trans m_a)
        have m_b : M_19 b = _ := (congrFun eM_19 b).trans ((va_up_ne _ _ (Ne.symm n_vd_b)).trans m_b)
        have m_vd : M_19 vd = .inl (dA 1, 1297, .inl VT) := by rw [eM_19]; exact va_up_self _ _ _
        have fE : ∀ q : Nat, q ∈ L → q ≠ en → M_19 q = M q := fun q h0 h1 => (congrFun eM_19 q).trans ((va_up_ne _ _ (fun h => o_vd (by rw [← h]; exact h0))).trans (fE q h0 h1))
        exact hret dX0_init_112 hV (by decide) (by decide) ⟨vd, ct, nz, _, _, ⟨i_en, i_vd, i_ct, i_nz, m_en, m_vd, m_ct, m_nz⟩, hsub, fE⟩
      · exact absurd (by rw [hx5]; exact nI_le (a := 1296) (by omega) (by omega)) c74
    | succ k ih =>
      intro i x5 nf f0 n0 Pa Pb M1 H locs ls hik hx5 hn0 hN hV m_en m_r m_nr m_bh m_vd m_ct m_nz m_t m_pk m_a m_b fE hl
      refine lv_iload hx hb dX0_init_69 (lv_at hl 5 rfl) ?_
      refine lv_sipush (v := 1296) hx hb dX0_init_71 (by decide) ?_
      refine lv_icmp_ge (tgt := 108) hx hb dX0_init_74 (by decide) (fun c74 => ?_) (fun c74 => ?_)
      · exact absurd c74 (by rw [hx5]; exact nI_ge (b := 1296) (by omega) (by decide))
      · have hi : i < 1296 := by omega
        refine lv_aload_n hx hb dX0_init_77 rfl (lv_at hl 3 rfl) ?_
        refine lv_iload hx hb dX0_init_78 (lv_at hl 5 rfl) ?_
        refine mm_Sn (As := [.ref a, .int x5]) (rest := []) ⟨hx, hb, hml, hown, hts⟩ hK hV (c_arrange l D dA (P := Pa) x5 i_a m_a) (va_cwS 2 hts gX0_init_X0_arrange rfl rfl rfl (by decide +kernel) (mm_levR hR (by omega) (by decide))) rfl hl.1 rfl (Nat.le_of_ble_eq_true rfl) dX0_init_80 (by rw [hR]; exact ⟨Nat.le_refl _, Nat.le_refl _⟩) (fun rr M_20 H locs hp hV => ?_)
        obtain ⟨err, eM_20⟩ := hp
        rw [hx5] at err eM_20
        by_cases hok : arrOK (nI i) = 0
        · rw [if_pos hok] at eM_20
          rw [eM_20] at hV
          refine lv_if_eq (tgt := 102) hx hb dX0_init_83 (by decide) (fun c83 => ?_) (fun c83 => ?_)
          · obtain ⟨x5_n, ex5_n⟩ : ∃ y : Int32, y = x5 + 1 := ⟨_, rfl⟩
            refine lv_iinc (v := x5_n) (lv' := [(5, .int x5_n), (0, .ref en), (1, .ref r), (2, .ref t), (3, .ref a), (4, .ref b)]) hx hb dX0_init_102 hl (k := 5) rfl (by rw [ex5_n]; rfl) (by decide) rfl (fun ls hl => ?_)
            refine lv_goto (tgt := 69) hx hb dX0_init_105 (by decide) ?_
            exact ih (i + 1) x5_n nf f0 n0 Pa Pb M1 _ _ ls (by omega) (by rw [ex5_n, hx5]; exact nI_1 i) hn0 (fun e he j hj => by by_cases hei : e = i; subst hei; rw [CNx_no hok] at hj; omega; exact hN e (by omega) j hj) hV m_en m_r m_nr m_bh (by rw [V0_no hok]; exact m_vd) (by rw [C0_no hok]; exact m_ct) m_nz m_t m_pk m_a m_b fE (lv_sub hl [1, 2, 3, 4, 5, 0] rfl)
          · exact absurd (by rw [err]; exact hok) c83
        · rw [if_neg hok] at eM_20
          have m_en : M_20 en = _ := (congrFun eM_20 en).trans ((va_up_ne _ _ n_en_a).trans m_en)
          have m_r : M_20 r = _ := (congrFun eM_20 r).trans ((va_up_ne _ _ n_r_a).trans m_r)
          have m_nr : M_20 nr = _ := (congrFun eM_20 nr).trans ((va_up_ne _ _ n_nr_a).trans m_nr)
          have m_bh : M_20 bh = _ := (congrFun eM_20 bh).trans ((va_up_ne _ _ n_bh_a).trans m_bh)
          have m_vd : M_20 vd = _ := (congrFun eM_20 vd).trans ((va_up_ne _ _ n_vd_a).trans m_vd)
          have m_ct : M_20 ct = _ := (congrFun eM_20 ct).trans ((va_up_ne _ _ n_ct_a).trans m_ct)
          have m_nz : M_20 nz = _ := (congrFun eM_20 nz).trans ((va_up_ne _ _ n_nz_a).trans m_nz)
          have m_t : M_20 t = _ := (congrFun eM_20 t).trans ((va_up_ne _ _ n_t_a).trans m_t)
          have m_pk : M_20 pk = _ := (congrFun eM_20 pk).trans ((va_up_ne _ _ n_pk_a).trans m_pk)
          have m_b : M_20 b = _ := (congrFun eM_20 b).trans ((va_up_ne _ _ (Ne.symm n_a_b)).trans m_b)
          have m_a : M_20 a = .inr (2, [.int ((arrP (nI i)).1), .int ((arrP (nI i)).2.1), .int ((arrP (nI i)).2.2.1), .int ((arrP (nI i)).2.2.2.1), .int ((arrP (nI i)).2.2.2.2)]) := by rw [eM_20]; exact va_up_self _ _ _
          have fE : ∀ q : Nat, q ∈ L → q ≠ en → M_20 q = M q := fun q h0 h1 => (congrFun eM_20 q).trans ((va_up_ne _ _ (fun h => o_a (by rw [← h]; exact h0))).trans (fE q h0 h1))
          refine lv_if_eq (tgt := 102) hx hb dX0_init_83 (by decide) (fun c83 => ?_) (fun c83 => ?_)
          · exact absurd (by rw [← err]; exact c83) hok
          · refine lv_aload_n hx hb dX0_init_86 rfl (lv_at hl 1 rfl) ?_
            refine lv_aload_n hx hb dX0_init_87 rfl (lv_at hl 3 rfl) ?_
            refine lv_aload_n hx hb dX0_init_88 rfl (lv_at hl 2 rfl) ?_
            refine mm_Vm (ci := 3) (As := [.ref a, .ref t]) (rest := []) ⟨hx, hb, hml, hown, hts⟩ hK hV (c_listMoves l D dA (P := arrP (nI i)) ⟨i_r, i_nr, i_bh, m_r, m_nr, m_bh⟩ i_a m_a ⟨i_t, i_pk, m_t, m_pk, hn0⟩ n_nr_pk n_bh_pk) (cwV 2 hts gX0_init_X3_listMoves rfl rfl rfl (by decide +kernel) (mm_levR hR (by omega) (by decide))) i_r m_r rfl rfl hl.1 rfl (Nat.le_of_ble_eq_true rfl) dX0_init_89 (by rw [hR]; exact ⟨Nat.le_refl _, Nat.le_refl _⟩) (fun M_21 H locs eM_21 hV => ?_)
            have m_en : M_21 en = _ := (congrFun eM_21 en).trans ((va_up_ne _ _ n_en_pk).trans ((va_up_ne _ _ n_en_t).trans m_en))
            have m_r : M_21 r = _ := (congrFun eM_21 r).trans ((va_up_ne _ _ n_r_pk).trans ((va_up_ne _ _ n_r_t).trans m_r))
            have m_nr : M_21 nr = _ := (congrFun eM_21 nr).trans ((va_up_ne _ _ n_nr_pk).trans ((va_up_ne _ _ n_nr_t).trans m_nr))
            have m_bh : M_21 bh = _ := (congrFun eM_21 bh).trans ((va_up_ne _ _ n_bh_pk).trans ((va_up_ne _ _ n_bh_t).trans m_bh))
            have m_vd : M_21 vd = _ := (congrFun eM_21 vd).trans ((va_up_ne _ _ n_vd_pk).trans ((va_up_ne _ _ n_vd_t).trans m_vd))
            have m_ct : M_21 ct = _ := (congrFun eM_21 ct).trans ((va_up_ne _ _ n_ct_pk).trans ((va_up_ne _ _ n_ct_t).trans m_ct))
            have m_nz : M_21 nz = _ := (congrFun eM_21 nz).trans ((va_up_ne _ _ n_nz_pk).trans ((va_up_ne _ _ n_nz_t).trans m_nz))
            have m_a : M_21 a = _ := (congrFun eM_21 a).trans ((va_up_ne _ _ (Ne.symm n_pk_a)).trans ((va_up_ne _ _ (Ne.symm n_t_a)).trans m_a))
            have m_b : M_21 b = _ := (congrFun eM_21 b).trans ((va_up_ne _ _ (Ne.symm n_pk_b)).trans ((va_up_ne _ _ (Ne.symm n_t_b)).trans m_b))
            have m_t : M_21 t = .inr (1, [.ref pk, .int (nI (movesF (arrP (nI i)) f0).2)]) := (congrFun eM_21 t).trans ((va_up_ne _ _ n_t_pk).trans (va_up_self _ _ _))
            have m_pk : M_21 pk = .inl (dA 0, 72, .inl ((movesF (arrP (nI i)) f0).1)) := (congrFun eM_21 pk).trans (va_up_self _ _ _)
            have fE : ∀ q : Nat, q ∈ L → q ≠ en → M_21 q = M q := fun q h0 h1 => (congrFun eM_21 q).trans ((va_up_ne _ _ (fun h => o_pk (by rw [← h]; exact h0))).trans ((va_up_ne _ _ (fun h => o_t (by rw [← h]; exact h0))).trans (fE q h0 h1)))
            refine lv_aload_n hx hb dX0_init_92 rfl (lv_at hl 0 rfl) ?_
            refine lv_iload hx hb dX0_init_93 (lv_at hl 5 rfl) ?_
            refine lv_aload_n hx hb dX0_init_95 rfl (lv_at hl 3 rfl) ?_
            refine lv_aload_n hx hb dX0_init_96 rfl (lv_at hl 2 rfl) ?_
            refine lv_aload hx hb dX0_init_97 (lv_at hl 4 rfl) ?_
            refine mm_Vm (ci := 0) (As := [.int x5, .ref a, .ref t, .ref b]) (rest := []) ⟨hx, hb, hml, hown, hts⟩ hK hV (c_note l D dA (P := arrP (nI i)) (P2 := Pb) x5 hx5 hi n_a_b ⟨i_en, i_vd, i_ct, i_nz, m_en, m_vd, m_ct, m_nz⟩ i_a m_a i_b m_b ⟨i_t, i_pk, m_t, m_pk, movesF_le _ _⟩) (cwV 4 hts gX0_init_X0_note rfl rfl rfl (by decide +kernel) (mm_levR hR (by omega) (by decide))) i_en m_en rfl rfl hl.1 rfl (Nat.le_of_ble_eq_true rfl) dX0_init_99 (by rw [hR]; exact ⟨Nat.le_refl _, Nat.le_refl _⟩) (fun M_22 H locs hp hV => ?_)
            obtain ⟨⟨Q9, q_b⟩, q_nz, q_ct, q_vd, hfr⟩ := hp
            have m_en : M_22 en = _ := (hfr en n_en_b n_en_nz n_en_ct n_en_vd).trans m_en
            have m_r : M_22 r = _ := (hfr r n_r_b n_r_nz n_r_ct n_r_vd).trans m_r
            have m_nr : M_22 nr = _ := (hfr nr n_nr_b n_nr_nz n_nr_ct n_nr_vd).trans m_nr
            have m_bh : M_22 bh = _ := (hfr bh n_bh_b n_bh_nz n_bh_ct n_bh_vd).trans m_bh
            have m_t : M_22 t = _ := (hfr t n_t_b (Ne.symm n_nz_t) (Ne.symm n_ct_t) (Ne.symm n_vd_t)).trans m_t
            have m_pk : M_22 pk = _ := (hfr pk n_pk_b (Ne.symm n_nz_pk) (Ne.symm n_ct_pk) (Ne.symm n_vd_pk)).trans m_pk
            have m_a : M_22 a = _ := (hfr a n_a_b (Ne.symm n_nz_a) (Ne.symm n_ct_a) (Ne.symm n_vd_a)).trans m_a
            have m_b := q_b
            have m_nz := q_nz
            have m_ct := q_ct
            have m_vd := q_vd
            have fE : ∀ q : Nat, q ∈ L → q ≠ en → M_22 q = M q := fun q h0 h1 => (hfr q (fun h => o_b (by rw [← h]; exact h0)) (fun h => o_nz (by rw [← h]; exact h0)) (fun h => o_ct (by rw [← h]; exact h0)) (fun h => o_vd (by rw [← h]; exact h0))).trans (fE q h0 h1)
            obtain ⟨x5_n, ex5_n⟩ : ∃ y : Int32, y = x5 + 1 := ⟨_, rfl⟩
            refine lv_iinc (v := x5_n) (lv' := [(5, .int x5_n), (0, .ref en), (1, .ref r), (2, .ref t), (3, .ref a), (4, .ref b)]) hx hb dX0_init_102 hl (k := 5) rfl (by rw [ex5_n]; rfl) (by decide) rfl (fun ls hl => ?_)
            refine lv_goto (tgt := 69) hx hb dX0_init_105 (by decide) ?_
            have hc9 : mnF (movesF (arrP (nI i)) f0).2 = CNx i := by rw [CNx_ok hok, mvN_eq]
            exact ih (i + 1) x5_n _ _ _ (arrP (nI i)) Q9 M_22 _ _ ls (by omega) (by rw [ex5_n, hx5]; exact nI_1 i) (movesF_le _ _) (nt_new hok hN) hV m_en m_r m_nr m_bh (by rw [m_vd, hc9, V0_ok hok]) (by rw [m_ct, hc9, C0_ok]) m_nz m_t m_pk m_a m_b fE (lv_sub hl [1, 2, 3, 4, 5, 0] rfl)
  exact LP 1296 0 x5 _ _ 0 (0, 0, 0, 0, 0) (0, 0, 0, 0, 0) M_18 H locs ls rfl (by rw [ex5]; rfl) (by decide) (fun e he => absurd he (Nat.not_lt_zero e)) hV m_en m_r m_nr m_bh m_vd m_ct m_nz m_t m_pk m_a m_b fE (lv_sub hl [4, 5, 3, 2, 1, 0] rfl)
