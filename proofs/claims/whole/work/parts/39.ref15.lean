theorem tbR_s (n : Int32) (s w : Nat) (hw : w < 4) : upd (tbR n (4 * s + w)) (4 * s + w) (reachR (nI s) (nI w) n) = tbR n (4 * s + w + 1) := by
  funext q
  by_cases hq : q = 4 * s + w
  · subst hq
    rw [pk_us]; unfold tbR
    rw [if_pos (by omega), show (4 * s + w) / 4 = s by omega, show (4 * s + w) % 4 = w by omega]
  · rw [pk_un hq]; unfold tbR
    by_cases h : q < 4 * s + w
    · rw [if_pos h, if_pos (by omega)]
    · rw [if_neg h, if_neg (by omega)]
theorem tbR_0 (n : Int32) : (fun _ => 0) = tbR n 0 := by
  funext q; unfold tbR; rw [if_neg (by omega)]
/-- the reference's arrays while near and far are being filled -/
def riS (c : Nat) : Nat → Nat → Int32 := va_up (va_up (fun _ _ => 0) 7 (tbR 1 c)) 8 (tbR 2 c)
theorem riS_0 : (fun _ _ => 0) = riS 0 := by
  funext k
  unfold riS
  by_cases h8 : k = 8
  · subst h8; rw [va_up_self]; exact tbR_0 2
  · rw [va_up_ne _ _ h8]
    by_cases h7 : k = 7
    · subst h7; rw [va_up_self]; exact tbR_0 1
    · rw [va_up_ne _ _ h7]
theorem riS_7 (c : Nat) : riS c 7 = tbR 1 c := by unfold riS; rw [va_up_ne _ _ (by decide), va_up_self]
theorem riS_8 (c : Nat) : riS c 8 = tbR 2 c := by unfold riS; rw [va_up_self]
theorem riS_s {c c1 : Nat} {f g : Nat → Int32} (h1 : f = tbR 1 c1) (h2 : g = tbR 2 c1) : va_up (va_up (riS c) 7 f) 8 g = riS c1 := by
  subst h1; subst h2
  funext k
  unfold riS
  by_cases h8 : k = 8
  · subst h8; rw [va_up_self, va_up_self]
  · rw [va_up_ne _ _ h8, va_up_ne _ _ h8]
    by_cases h7 : k = 7
    · subst h7; rw [va_up_self, va_up_self]
    · rw [va_up_ne _ _ h7, va_up_ne _ _ h8, va_up_ne _ _ h7, va_up_ne _ _ h7]
theorem rak_c {k : Nat} (h : rak k = true) : k = 0 ∨ k = 1 ∨ k = 2 ∨ k = 3 ∨ k = 4 ∨ k = 5 ∨ k = 6 ∨ k = 7 ∨ k = 8 ∨ k = 9 ∨ k = 10 ∨ k = 11 ∨ k = 12 ∨ k = 15 ∨ k = 16 ∨ k = 18 ∨ k = 19 := by
  unfold rak at h
  simp only [Bool.and_eq_true, decide_eq_true_eq, Bool.not_eq_true', beq_eq_false_iff_ne] at h
  omega
def rpos (k : Nat) : Nat := if k < 13 then k else (if k < 17 then k - 2 else k - 3)
def adN (N : List Nat) (k : Nat) : Nat := N.getD (rpos k) 0
theorem rpos_lt {k : Nat} (h : rak k = true) : rpos k < 17 := by
  rcases rak_c h with h | h | h | h | h | h | h | h | h | h | h | h | h | h | h | h | h <;> subst h <;> decide
theorem rpos_in {j k : Nat} (h : rak j = true) (h2 : rak k = true) (e : rpos j = rpos k) : j = k := by
  have a := rak_c h
  have b := rak_c h2
  unfold rpos at e
  split at e <;> split at e <;> (try split at e) <;> (try split at e) <;> omega
theorem ri_nd {L N : List Nat} (hn : N.length = 17) (hd : mm_nd (L ++ N)) (j k : Nat) (hj : rak j = true) (hk : rak k = true) (e : adN N j = adN N k) : j = k := by
  have at_ : ∀ i, i < 17 → (L ++ N)[L.length + i]? = some (N.getD i 0) := by
    intro i hi
    rw [List.getElem?_append_right (by omega), Nat.add_sub_cancel_left]
    exact gd_at (by omega)
  have h1 := at_ (rpos j) (rpos_lt hj)
  have h2 := at_ (rpos k) (rpos_lt hk)
  unfold adN at e
  rw [← e] at h2
  have := hd _ _ _ h1 h2
  exact rpos_in hj hk (by omega)

set_option maxHeartbeats 1000000 in
set_option maxRecDepth 100000 in
theorem c_X5_init (l : Launch) (D : va_G) (dA : Nat → ClassId) {L : List Nat} {M : mm_M} {ob : Nat} (i_ob : ob ∈ L) (m_ob : M ob = .inr (5, [.null, .null, .null, .null, .null, .null, .null, .null, .null, .null, .null, .null, .null, .int 0, .int 0, .null, .null, .int 0, .null, .null])) : mm_Cv l D dA yX5_init wsX5_init 2 17 15654 [.ref ob] L M (fun L1 M1 => ∃ ad, rA dA L1 M1 ad (beginSR (riS 72)) ∧ M1 ob = rO ad 0 0 0 ∧ (∀ k, rak k = true → ad k ∉ L) ∧ (∀ q, q ∈ L → q ∈ L1) ∧ ∀ q, q ∈ L → q ≠ ob → M1 q = M q) := by
  have hsub : ∀ x, x ∈ L → x ∈ L := fun _ h => h
  have fE : ∀ q : Nat, q ∈ L → q ≠ ob → M q = M q := fun _ _ _ => rfl
  refine mm_enter_v (cc := cX5_init) (maxL := 3) (by decide) rfl (Nat.le_of_ble_eq_true rfl) ?_
  intro p e R s m args below meth c A ls H locs Q hR hx hb hml hin hown hts hK hV hl hret
  have hl : lv_has ls 3 [(0, .ref ob)] := hl
  have hown : s.vm.findClass RX5 = some m.cls := hown
  have hin : meth.name = "<init>" := hin
  have f_7 := hts (.fieldLink RX5 7 "JumpBoardModel" "board" "[I") (by decide +kernel)
  have in_X5 : ∀ w ∈ wsX50, w ∈ wsX5_init := by decide +kernel
  have f_13 := hts (.fieldLink RX5 13 "JumpBoardModel" "mover" "[I") (by decide +kernel)
  have f_16 := hts (.fieldLink RX5 16 "JumpBoardModel" "list" "[I") (by decide +kernel)
  have f_19 := hts (.fieldLink RX5 19 "JumpBoardModel" "count" "[I") (by decide +kernel)
  have f_22 := hts (.fieldLink RX5 22 "JumpBoardModel" "left" "[I") (by decide +kernel)
  have f_25 := hts (.fieldLink RX5 25 "JumpBoardModel" "index" "[I") (by decide +kernel)
  have f_28 := hts (.fieldLink RX5 28 "JumpBoardModel" "top" "[I") (by decide +kernel)
  have f_31 := hts (.fieldLink RX5 31 "JumpBoardModel" "near" "[I") (by decide +kernel)
  have f_34 := hts (.fieldLink RX5 34 "JumpBoardModel" "far" "[I") (by decide +kernel)
  have f_37 := hts (.fieldLink RX5 37 "JumpBoardModel" "stand" "[I") (by decide +kernel)
  have f_40 := hts (.fieldLink RX5 40 "JumpBoardModel" "gone" "[I") (by decide +kernel)
  have f_43 := hts (.fieldLink RX5 43 "JumpBoardModel" "way" "[I") (by decide +kernel)
  have f_46 := hts (.fieldLink RX5 46 "JumpBoardModel" "could" "[Z") (by decide +kernel)
  have f_50 := hts (.fieldLink RX5 50 "JumpBoardModel" "oldBoard" "[I") (by decide +kernel)
  have f_53 := hts (.fieldLink RX5 53 "JumpBoardModel" "oldQuiet" "[I") (by decide +kernel)
  have f_56 := hts (.fieldLink RX5 56 "JumpBoardModel" "follow" "[I") (by decide +kernel)
  have f_59 := hts (.fieldLink RX5 59 "JumpBoardModel" "known" "[I") (by decide +kernel)
  refine lv_aload_n hx hb dX5_init_0 rfl (lv_at hl 0 rfl) ?_
  refine W.objInit hx hb hown (hts (.methodLink RX5 1 objectInit) (by decide +kernel)) (hts (.instanceMethod objectInit) (by decide +kernel)) (hts (.code objectInit ⟨#[0xb1]⟩ 1 none) (by decide +kernel)) rfl (by rw [hml]; exact hl.1) rfl dX5_init_1 (by rw [hR]; decide) (by rw [hR]; exact Nat.le_of_ble_eq_true rfl) ?_
  refine W.eq (g2 := F0 m 4 ls []) rfl ?_
  refine lv_aload_n hx hb dX5_init_4 rfl (lv_at hl 0 rfl) ?_
  refine lv_bipush (v := 108) hx hb dX5_init_5 (by decide) ?_
  refine mm_newa (atype := .int) (ty := .int) (N' := 108) hx hb (hts (.arrayClass .int) (by decide +kernel)) rfl 0 rfl (fun _ h => h) rfl hK hV (by decide) (by decide +kernel) (by decide +kernel) (by rw [hR]; exact Nat.le_of_ble_eq_true rfl) (by rw [hR]; exact Nat.le_of_ble_eq_true rfl) dX5_init_7 (fun a0 H hq_a0 hV => ?_)
  refine W.widen (k := 1) (n := 108) (Nat.le_refl _) (Nat.le_refl _) ?_
  obtain ⟨L_1, eL_1⟩ : ∃ z, z = L ++ [a0] := ⟨_, rfl⟩
  obtain ⟨M_2, eM_2⟩ : ∃ z, z = va_up M a0 (.inl (dA 0, 108, .inl (fun _ => 0))) := ⟨_, rfl⟩
  rw [← eL_1, ← eM_2] at hV
  have n_ob_a0 : ob ≠ a0 := fun h => hq_a0 (by rw [← h]; exact i_ob)
  have m_ob : M_2 ob = _ := (congrFun eM_2 ob).trans ((va_up_ne _ _ n_ob_a0).trans m_ob)
  have i_ob : ob ∈ L_1 := by rw [eL_1]; exact List.mem_append_left _ i_ob
  have o_a0 : a0 ∉ L := fun h => hq_a0 (hsub a0 h)
  have hsub : ∀ x, x ∈ L → x ∈ L_1 := fun x h => by rw [eL_1]; exact List.mem_append_left _ (hsub x h)
  have i_a0 : a0 ∈ L_1 := by rw [eL_1]; exact List.mem_append_right _ (List.mem_singleton.mpr rfl)
  have m_a0 : M_2 a0 = .inl (dA 0, 108, .inl (fun _ => 0)) := by rw [eM_2]; exact va_up_self _ _ _
  have fE : ∀ q : Nat, q ∈ L → q ≠ ob → M_2 q = M q := fun q h0 h1 => (congrFun eM_2 q).trans ((va_up_ne _ _ (fun h => o_a0 (by rw [← h]; exact h0))).trans (fE q h0 h1))
  refine mm_putF (ci := 5) (v := .ref a0) (fs' := [.ref a0, .null, .null, .null, .null, .null, .null, .null, .null, .null, .null, .null, .null, .int 0, .int 0, .null, .null, .int 0, .null, .null]) (ty := .array .int) (C := RX5) (T := TX5) (N := 20) hx hb hts in_X5 tyX5 tyX5_ok nmX5 hown hK hV i_ob m_ob rfl 0 (by decide) f_7 (fun _ h => h) rfl hin rfl (by decide +kernel) rfl rfl (Nat.le_of_ble_eq_true rfl) rfl dX5_init_9 (fun M_3 H locs eM_3 hV => ?_)
  have m_a0 : M_3 a0 = _ := (congrFun eM_3 a0).trans ((va_up_ne _ _ (Ne.symm n_ob_a0)).trans m_a0)
  have m_ob : M_3 ob = .inr (5, [.ref a0, .null, .null, .null, .null, .null, .null, .null, .null, .null, .null, .null, .null, .int 0, .int 0, .null, .null, .int 0, .null, .null]) := by rw [eM_3]; exact va_up_self _ _ _
  have fE : ∀ q : Nat, q ∈ L → q ≠ ob → M_3 q = M q := fun q h0 h1 => (congrFun eM_3 q).trans ((va_up_ne _ _ h1).trans (fE q h0 h1))
  refine lv_aload_n hx hb dX5_init_12 rfl (lv_at hl 0 rfl) ?_
  refine lv_bipush (v := 6) hx hb dX5_init_13 (by decide) ?_
  refine mm_newa (atype := .int) (ty := .int) (N' := 6) hx hb (hts (.arrayClass .int) (by decide +kernel)) rfl 0 rfl (fun _ h => h) rfl hK hV (by decide) (by decide +kernel) (by decide +kernel) (by rw [hR]; exact Nat.le_of_ble_eq_true rfl) (by rw [hR]; exact Nat.le_of_ble_eq_true rfl) dX5_init_15 (fun a1 H hq_a1 hV => ?_)
  refine W.widen (k := 2) (n := 114) (Nat.le_refl _) (Nat.le_refl _) ?_
  obtain ⟨L_4, eL_4⟩ : ∃ z, z = L_1 ++ [a1] := ⟨_, rfl⟩
  obtain ⟨M_5, eM_5⟩ : ∃ z, z = va_up M_3 a1 (.inl (dA 0, 6, .inl (fun _ => 0))) := ⟨_, rfl⟩
  rw [← eL_4, ← eM_5] at hV
  have n_ob_a1 : ob ≠ a1 := fun h => hq_a1 (by rw [← h]; exact i_ob)
  have m_ob : M_5 ob = _ := (congrFun eM_5 ob).trans ((va_up_ne _ _ n_ob_a1).trans m_ob)
  have i_ob : ob ∈ L_4 := by rw [eL_4]; exact List.mem_append_left _ i_ob
  have n_a0_a1 : a0 ≠ a1 := fun h => hq_a1 (by rw [← h]; exact i_a0)
  have m_a0 : M_5 a0 = _ := (congrFun eM_5 a0).trans ((va_up_ne _ _ n_a0_a1).trans m_a0)
  have i_a0 : a0 ∈ L_4 := by rw [eL_4]; exact List.mem_append_left _ i_a0
  have o_a1 : a1 ∉ L := fun h => hq_a1 (hsub a1 h)
  have hsub : ∀ x, x ∈ L → x ∈ L_4 := fun x h => by rw [eL_4]; exact List.mem_append_left _ (hsub x h)
  have i_a1 : a1 ∈ L_4 := by rw [eL_4]; exact List.mem_append_right _ (List.mem_singleton.mpr rfl)
  have m_a1 : M_5 a1 = .inl (dA 0, 6, .inl (fun _ => 0)) := by rw [eM_5]; exact va_up_self _ _ _
  have fE : ∀ q : Nat, q ∈ L → q ≠ ob → M_5 q = M q := fun q h0 h1 => (congrFun eM_5 q).trans ((va_up_ne _ _ (fun h => o_a1 (by rw [← h]; exact h0))).trans (fE q h0 h1))
  refine mm_putF (ci := 5) (v := .ref a1) (fs' := [.ref a0, .ref a1, .null, .null, .null, .null, .null, .null, .null, .null, .null, .null, .null, .int 0, .int 0, .null, .null, .int 0, .null, .null]) (ty := .array .int) (C := RX5) (T := TX5) (N := 20) hx hb hts in_X5 tyX5 tyX5_ok nmX5 hown hK hV i_ob m_ob rfl 1 (by decide) f_13 (fun _ h => h) rfl hin rfl (by decide +kernel) rfl rfl (Nat.le_of_ble_eq_true rfl) rfl dX5_init_17 (fun M_6 H locs eM_6 hV => ?_)
  have m_a0 : M_6 a0 = _ := (congrFun eM_6 a0).trans ((va_up_ne _ _ (Ne.symm n_ob_a0)).trans m_a0)
  have m_a1 : M_6 a1 = _ := (congrFun eM_6 a1).trans ((va_up_ne _ _ (Ne.symm n_ob_a1)).trans m_a1)
  have m_ob : M_6 ob = .inr (5, [.ref a0, .ref a1, .null, .null, .null, .null, .null, .null, .null, .null, .null, .null, .null, .int 0, .int 0, .null, .null, .int 0, .null, .null]) := by rw [eM_6]; exact va_up_self _ _ _
  have fE : ∀ q : Nat, q ∈ L → q ≠ ob → M_6 q = M q := fun q h0 h1 => (congrFun eM_6 q).trans ((va_up_ne _ _ h1).trans (fE q h0 h1))
  refine lv_aload_n hx hb dX5_init_20 rfl (lv_at hl 0 rfl) ?_
  refine lv_sipush (v := 480) hx hb dX5_init_21 (by decide) ?_
  refine mm_newa (atype := .int) (ty := .int) (N' := 480) hx hb (hts (.arrayClass .int) (by decide +kernel)) rfl 0 rfl (fun _ h => h) rfl hK hV (by decide) (by decide +kernel) (by decide +kernel) (by rw [hR]; exact Nat.le_of_ble_eq_true rfl) (by rw [hR]; exact Nat.le_of_ble_eq_true rfl) dX5_init_24 (fun a2 H hq_a2 hV => ?_)
  refine W.widen (k := 3) (n := 594) (Nat.le_refl _) (Nat.le_refl _) ?_
  obtain ⟨L_7, eL_7⟩ : ∃ z, z = L_4 ++ [a2] := ⟨_, rfl⟩
  obtain ⟨M_8, eM_8⟩ : ∃ z, z = va_up M_6 a2 (.inl (dA 0, 480, .inl (fun _ => 0))) := ⟨_, rfl⟩
  rw [← eL_7, ← eM_8] at hV
  have n_ob_a2 : ob ≠ a2 := fun h => hq_a2 (by rw [← h]; exact i_ob)
  have m_ob : M_8 ob = _ := (congrFun eM_8 ob).trans ((va_up_ne _ _ n_ob_a2).trans m_ob)
  have i_ob : ob ∈ L_7 := by rw [eL_7]; exact List.mem_append_left _ i_ob
  have n_a0_a2 : a0 ≠ a2 := fun h => hq_a2 (by rw [← h]; exact i_a0)
  have m_a0 : M_8 a0 = _ := (congrFun eM_8 a0).trans ((va_up_ne _ _ n_a0_a2).trans m_a0)
  have i_a0 : a0 ∈ L_7 := by rw [eL_7]; exact List.mem_append_left _ i_a0
  have n_a1_a2 : a1 ≠ a2 := fun h => hq_a2 (by rw [← h]; exact i_a1)
  have m_a1 : M_8 a1 = _ := (congrFun eM_8 a1).trans ((va_up_ne _ _ n_a1_a2).trans m_a1)
  have i_a1 : a1 ∈ L_7 := by rw [eL_7]; exact List.mem_append_left _ i_a1
  have o_a2 : a2 ∉ L := fun h => hq_a2 (hsub a2 h)
  have hsub : ∀ x, x ∈ L → x ∈ L_7 := fun x h => by rw [eL_7]; exact List.mem_append_left _ (hsub x h)
  have i_a2 : a2 ∈ L_7 := by rw [eL_7]; exact List.mem_append_right _ (List.mem_singleton.mpr rfl)
  have m_a2 : M_8 a2 = .inl (dA 0, 480, .inl (fun _ => 0)) := by rw [eM_8]; exact va_up_self _ _ _
  have fE : ∀ q : Nat, q ∈ L → q ≠ ob → M_8 q = M q := fun q h0 h1 => (congrFun eM_8 q).trans ((va_up_ne _ _ (fun h => o_a2 (by rw [← h]; exact h0))).trans (fE q h0 h1))
  refine mm_putF (ci := 5) (v := .ref a2) (fs' := [.ref a0, .ref a1, .ref a2, .null, .null, .null, .null, .null, .null, .null, .null, .null, .null, .int 0, .int 0, .null, .null, .int 0, .null, .null]) (ty := .array .int) (C := RX5) (T := TX5) (N := 20) hx hb hts in_X5 tyX5 tyX5_ok nmX5 hown hK hV i_ob m_ob rfl 2 (by decide) f_16 (fun _ h => h) rfl hin rfl (by decide +kernel) rfl rfl (Nat.le_of_ble_eq_true rfl) rfl dX5_init_26 (fun M_9 H locs eM_9 hV => ?_)
  have m_a0 : M_9 a0 = _ := (congrFun eM_9 a0).trans ((va_up_ne _ _ (Ne.symm n_ob_a0)).trans m_a0)
  have m_a1 : M_9 a1 = _ := (congrFun eM_9 a1).trans ((va_up_ne _ _ (Ne.symm n_ob_a1)).trans m_a1)
  have m_a2 : M_9 a2 = _ := (congrFun eM_9 a2).trans ((va_up_ne _ _ (Ne.symm n_ob_a2)).trans m_a2)
  have m_ob : M_9 ob = .inr (5, [.ref a0, .ref a1, .ref a2, .null, .null, .null, .null, .null, .null, .null, .null, .null, .null, .int 0, .int 0, .null, .null, .int 0, .null, .null]) := by rw [eM_9]; exact va_up_self _ _ _
  have fE : ∀ q : Nat, q ∈ L → q ≠ ob → M_9 q = M q := fun q h0 h1 => (congrFun eM_9 q).trans ((va_up_ne _ _ h1).trans (fE q h0 h1))
  refine lv_aload_n hx hb dX5_init_29 rfl (lv_at hl 0 rfl) ?_
  refine lv_bipush (v := 6) hx hb dX5_init_30 (by decide) ?_
  refine mm_newa (atype := .int) (ty := .int) (N' := 6) hx hb (hts (.arrayClass .int) (by decide +kernel)) rfl 0 rfl (fun _ h => h) rfl hK hV (by decide) (by decide +kernel) (by decide +kernel) (by rw [hR]; exact Nat.le_of_ble_eq_true rfl) (by rw [hR]; exact Nat.le_of_ble_eq_true rfl) dX5_init_32 (fun a3 H hq_a3 hV => ?_)
  refine W.widen (k := 4) (n := 600) (Nat.le_refl _) (Nat.le_refl _) ?_
  obtain ⟨L_10, eL_10⟩ : ∃ z, z = L_7 ++ [a3] := ⟨_, rfl⟩
  obtain ⟨M_11, eM_11⟩ : ∃ z, z = va_up M_9 a3 (.inl (dA 0, 6, .inl (fun _ => 0))) := ⟨_, rfl⟩
  rw [← eL_10, ← eM_11] at hV
  have n_ob_a3 : ob ≠ a3 := fun h => hq_a3 (by rw [← h]; exact i_ob)
  have m_ob : M_11 ob = _ := (congrFun eM_11 ob).trans ((va_up_ne _ _ n_ob_a3).trans m_ob)
  have i_ob : ob ∈ L_10 := by rw [eL_10]; exact List.mem_append_left _ i_ob
  have n_a0_a3 : a0 ≠ a3 := fun h => hq_a3 (by rw [← h]; exact i_a0)
  have m_a0 : M_11 a0 = _ := (congrFun eM_11 a0).trans ((va_up_ne _ _ n_a0_a3).trans m_a0)
  have i_a0 : a0 ∈ L_10 := by rw [eL_10]; exact List.mem_append_left _ i_a0
  have n_a1_a3 : a1 ≠ a3 := fun h => hq_a3 (by rw [← h]; exact i_a1)
  have m_a1 : M_11 a1 = _ := (congrFun eM_11 a1).trans ((va_up_ne _ _ n_a1_a3).trans m_a1)
  have i_a1 : a1 ∈ L_10 := by rw [eL_10]; exact List.mem_append_left _ i_a1
  have n_a2_a3 : a2 ≠ a3 := fun h => hq_a3 (by rw [← h]; exact i_a2)
  have m_a2 : M_11 a2 = _ := (congrFun eM_11 a2).trans ((va_up_ne _ _ n_a2_a3).trans m_a2)
  have i_a2 : a2 ∈ L_10 := by rw [eL_10]; exact List.mem_append_left _ i_a2
  have o_a3 : a3 ∉ L := fun h => hq_a3 (hsub a3 h)
  have hsub : ∀ x, x ∈ L → x ∈ L_10 := fun x h => by rw [eL_10]; exact List.mem_append_left _ (hsub x h)
  have i_a3 : a3 ∈ L_10 := by rw [eL_10]; exact List.mem_append_right _ (List.mem_singleton.mpr rfl)
  have m_a3 : M_11 a3 = .inl (dA 0, 6, .inl (fun _ => 0)) := by rw [eM_11]; exact va_up_self _ _ _
  have fE : ∀ q : Nat, q ∈ L → q ≠ ob → M_11 q = M q := fun q h0 h1 => (congrFun eM_11 q).trans ((va_up_ne _ _ (fun h => o_a3 (by rw [← h]; exact h0))).trans (fE q h0 h1))
  refine mm_putF (ci := 5) (v := .ref a3) (fs' := [.ref a0, .ref a1, .ref a2, .ref a3, .null, .null, .null, .null, .null, .null, .null, .null, .null, .int 0, .int 0, .null, .null, .int 0, .null, .null]) (ty := .array .int) (C := RX5) (T := TX5) (N := 20) hx hb hts in_X5 tyX5 tyX5_ok nmX5 hown hK hV i_ob m_ob rfl 3 (by decide) f_19 (fun _ h => h) rfl hin rfl (by decide +kernel) rfl rfl (Nat.le_of_ble_eq_true rfl) rfl dX5_init_34 (fun M_12 H locs eM_12 hV => ?_)
  have m_a0 : M_12 a0 = _ := (congrFun eM_12 a0).trans ((va_up_ne _ _ (Ne.symm n_ob_a0)).trans m_a0)
  have m_a1 : M_12 a1 = _ := (congrFun eM_12 a1).trans ((va_up_ne _ _ (Ne.symm n_ob_a1)).trans m_a1)
  have m_a2 : M_12 a2 = _ := (congrFun eM_12 a2).trans ((va_up_ne _ _ (Ne.symm n_ob_a2)).trans m_a2)
  have m_a3 : M_12 a3 = _ := (congrFun eM_12 a3).trans ((va_up_ne _ _ (Ne.symm n_ob_a3)).trans m_a3)
  have m_ob : M_12 ob = .inr (5, [.ref a0, .ref a1, .ref a2, .ref a3, .null, .null, .null, .null, .null, .null, .null, .null, .null, .int 0, .int 0, .null, .null, .int 0, .null, .null]) := by rw [eM_12]; exact va_up_self _ _ _
  have fE : ∀ q : Nat, q ∈ L → q ≠ ob → M_12 q = M q := fun q h0 h1 => (congrFun eM_12 q).trans ((va_up_ne _ _ h1).trans (fE q h0 h1))
  refine lv_aload_n hx hb dX5_init_37 rfl (lv_at hl 0 rfl) ?_
  refine lv_bipush (v := 6) hx hb dX5_init_38 (by decide) ?_
  refine mm_newa (atype := .int) (ty := .int) (N' := 6) hx hb (hts (.arrayClass .int) (by decide +kernel)) rfl 0 rfl (fun _ h => h) rfl hK hV (by decide) (by decide +kernel) (by decide +kernel) (by rw [hR]; exact Nat.le_of_ble_eq_true rfl) (by rw [hR]; exact Nat.le_of_ble_eq_true rfl) dX5_init_40 (fun a4 H hq_a4 hV => ?_)
  refine W.widen (k := 5) (n := 606) (Nat.le_refl _) (Nat.le_refl _) ?_
  obtain ⟨L_13, eL_13⟩ : ∃ z, z = L_10 ++ [a4] := ⟨_, rfl⟩
  obtain ⟨M_14, eM_14⟩ : ∃ z, z = va_up M_12 a4 (.inl (dA 0, 6, .inl (fun _ => 0))) := ⟨_, rfl⟩
  rw [← eL_13, ← eM_14] at hV
  have n_ob_a4 : ob ≠ a4 := fun h => hq_a4 (by rw [← h]; exact i_ob)
  have m_ob : M_14 ob = _ := (congrFun eM_14 ob).trans ((va_up_ne _ _ n_ob_a4).trans m_ob)
  have i_ob : ob ∈ L_13 := by rw [eL_13]; exact List.mem_append_left _ i_ob
  have n_a0_a4 : a0 ≠ a4 := fun h => hq_a4 (by rw [← h]; exact i_a0)
  have m_a0 : M_14 a0 = _ := (congrFun eM_14 a0).trans ((va_up_ne _ _ n_a0_a4).trans m_a0)
  have i_a0 : a0 ∈ L_13 := by rw [eL_13]; exact List.mem_append_left _ i_a0
  have n_a1_a4 : a1 ≠ a4 := fun h => hq_a4 (by rw [← h]; exact i_a1)
  have m_a1 : M_14 a1 = _ := (congrFun eM_14 a1).trans ((va_up_ne _ _ n_a1_a4).trans m_a1)
  have i_a1 : a1 ∈ L_13 := by rw [eL_13]; exact List.mem_append_left _ i_a1
  have n_a2_a4 : a2 ≠ a4 := fun h => hq_a4 (by rw [← h]; exact i_a2)
  have m_a2 : M_14 a2 = _ := (congrFun eM_14 a2).trans ((va_up_ne _ _ n_a2_a4).trans m_a2)
  have i_a2 : a2 ∈ L_13 := by rw [eL_13]; exact List.mem_append_left _ i_a2
  have n_a3_a4 : a3 ≠ a4 := fun h => hq_a4 (by rw [← h]; exact i_a3)
  have m_a3 : M_14 a3 = _ := (congrFun eM_14 a3).trans ((va_up_ne _ _ n_a3_a4).trans m_a3)
  have i_a3 : a3 ∈ L_13 := by rw [eL_13]; exact List.mem_append_left _ i_a3
  have o_a4 : a4 ∉ L := fun h => hq_a4 (hsub a4 h)
  have hsub : ∀ x, x ∈ L → x ∈ L_13 := fun x h => by rw [eL_13]; exact List.mem_append_left _ (hsub x h)
  have i_a4 : a4 ∈ L_13 := by rw [eL_13]; exact List.mem_append_right _ (List.mem_singleton.mpr rfl)
  have m_a4 : M_14 a4 = .inl (dA 0, 6, .inl (fun _ => 0)) := by rw [eM_14]; exact va_up_self _ _ _
  have fE : ∀ q : Nat, q ∈ L → q ≠ ob → M_14 q = M q := fun q h0 h1 => (congrFun eM_14 q).trans ((va_up_ne _ _ (fun h => o_a4 (by rw [← h]; exact h0))).trans (fE q h0 h1))
  refine mm_putF (ci := 5) (v := .ref a4) (fs' := [.ref a0, .ref a1, .ref a2, .ref a3, .ref a4, .null, .null, .null, .null, .null, .null, .null, .null, .int 0, .int 0, .null, .null, .int 0, .null, .null]) (ty := .array .int) (C := RX5) (T := TX5) (N := 20) hx hb hts in_X5 tyX5 tyX5_ok nmX5 hown hK hV i_ob m_ob rfl 4 (by decide) f_22 (fun _ h => h) rfl hin rfl (by decide +kernel) rfl rfl (Nat.le_of_ble_eq_true rfl) rfl dX5_init_42 (fun M_15 H locs eM_15 hV => ?_)
  have m_a0 : M_15 a0 = _ := (congrFun eM_15 a0).trans ((va_up_ne _ _ (Ne.symm n_ob_a0)).trans m_a0)
  have m_a1 : M_15 a1 = _ := (congrFun eM_15 a1).trans ((va_up_ne _ _ (Ne.symm n_ob_a1)).trans m_a1)
  have m_a2 : M_15 a2 = _ := (congrFun eM_15 a2).trans ((va_up_ne _ _ (Ne.symm n_ob_a2)).trans m_a2)
  have m_a3 : M_15 a3 = _ := (congrFun eM_15 a3).trans ((va_up_ne _ _ (Ne.symm n_ob_a3)).trans m_a3)
  have m_a4 : M_15 a4 = _ := (congrFun eM_15 a4).trans ((va_up_ne _ _ (Ne.symm n_ob_a4)).trans m_a4)
  have m_ob : M_15 ob = .inr (5, [.ref a0, .ref a1, .ref a2, .ref a3, .ref a4, .null, .null, .null, .null, .null, .null, .null, .null, .int 0, .int 0, .null, .null, .int 0, .null, .null]) := by rw [eM_15]; exact va_up_self _ _ _
  have fE : ∀ q : Nat, q ∈ L → q ≠ ob → M_15 q = M q := fun q h0 h1 => (congrFun eM_15 q).trans ((va_up_ne _ _ h1).trans (fE q h0 h1))
  refine lv_aload_n hx hb dX5_init_45 rfl (lv_at hl 0 rfl) ?_
  refine lv_bipush (v := 6) hx hb dX5_init_46 (by decide) ?_
  refine mm_newa (atype := .int) (ty := .int) (N' := 6) hx hb (hts (.arrayClass .int) (by decide +kernel)) rfl 0 rfl (fun _ h => h) rfl hK hV (by decide) (by decide +kernel) (by decide +kernel) (by rw [hR]; exact Nat.le_of_ble_eq_true rfl) (by rw [hR]; exact Nat.le_of_ble_eq_true rfl) dX5_init_48 (fun a5 H hq_a5 hV => ?_)
  refine W.widen (k := 6) (n := 612) (Nat.le_refl _) (Nat.le_refl _) ?_
  obtain ⟨L_16, eL_16⟩ : ∃ z, z = L_13 ++ [a5] := ⟨_, rfl⟩
  obtain ⟨M_17, eM_17⟩ : ∃ z, z = va_up M_15 a5 (.inl (dA 0, 6, .inl (fun _ => 0))) := ⟨_, rfl⟩
  rw [← eL_16, ← eM_17] at hV
  have n_ob_a5 : ob ≠ a5 := fun h => hq_a5 (by rw [← h]; exact i_ob)
  have m_ob : M_17 ob = _ := (congrFun eM_17 ob).trans ((va_up_ne _ _ n_ob_a5).trans m_ob)
  have i_ob : ob ∈ L_16 := by rw [eL_16]; exact List.mem_append_left _ i_ob
  have n_a0_a5 : a0 ≠ a5 := fun h => hq_a5 (by rw [← h]; exact i_a0)
  have m_a0 : M_17 a0 = _ := (congrFun eM_17 a0).trans ((va_up_ne _ _ n_a0_a5).trans m_a0)
  have i_a0 : a0 ∈ L_16 := by rw [eL_16]; exact List.mem_append_left _ i_a0
  have n_a1_a5 : a1 ≠ a5 := fun h => hq_a5 (by rw [← h]; exact i_a1)
  have m_a1 : M_17 a1 = _ := (congrFun eM_17 a1).trans ((va_up_ne _ _ n_a1_a5).trans m_a1)
  have i_a1 : a1 ∈ L_16 := by rw [eL_16]; exact List.mem_append_left _ i_a1
  have n_a2_a5 : a2 ≠ a5 := fun h => hq_a5 (by rw [← h]; exact i_a2)
  have m_a2 : M_17 a2 = _ := (congrFun eM_17 a2).trans ((va_up_ne _ _ n_a2_a5).trans m_a2)
  have i_a2 : a2 ∈ L_16 := by rw [eL_16]; exact List.mem_append_left _ i_a2
  have n_a3_a5 : a3 ≠ a5 := fun h => hq_a5 (by rw [← h]; exact i_a3)
  have m_a3 : M_17 a3 = _ := (congrFun eM_17 a3).trans ((va_up_ne _ _ n_a3_a5).trans m_a3)
  have i_a3 : a3 ∈ L_16 := by rw [eL_16]; exact List.mem_append_left _ i_a3
  have n_a4_a5 : a4 ≠ a5 := fun h => hq_a5 (by rw [← h]; exact i_a4)
  have m_a4 : M_17 a4 = _ := (congrFun eM_17 a4).trans ((va_up_ne _ _ n_a4_a5).trans m_a4)
  have i_a4 : a4 ∈ L_16 := by rw [eL_16]; exact List.mem_append_left _ i_a4
  have o_a5 : a5 ∉ L := fun h => hq_a5 (hsub a5 h)
  have hsub : ∀ x, x ∈ L → x ∈ L_16 := fun x h => by rw [eL_16]; exact List.mem_append_left _ (hsub x h)
  have i_a5 : a5 ∈ L_16 := by rw [eL_16]; exact List.mem_append_right _ (List.mem_singleton.mpr rfl)
  have m_a5 : M_17 a5 = .inl (dA 0, 6, .inl (fun _ => 0)) := by rw [eM_17]; exact va_up_self _ _ _
  have fE : ∀ q : Nat, q ∈ L → q ≠ ob → M_17 q = M q := fun q h0 h1 => (congrFun eM_17 q).trans ((va_up_ne _ _ (fun h => o_a5 (by rw [← h]; exact h0))).trans (fE q h0 h1))
  refine mm_putF (ci := 5) (v := .ref a5) (fs' := [.ref a0, .ref a1, .ref a2, .ref a3, .ref a4, .ref a5, .null, .null, .null, .null, .null, .null, .null, .int 0, .int 0, .null, .null, .int 0, .null, .null]) (ty := .array .int) (C := RX5) (T := TX5) (N := 20) hx hb hts in_X5 tyX5 tyX5_ok nmX5 hown hK hV i_ob m_ob rfl 5 (by decide) f_25 (fun _ h => h) rfl hin rfl (by decide +kernel) rfl rfl (Nat.le_of_ble_eq_true rfl) rfl dX5_init_50 (fun M_18 H locs eM_18 hV => ?_)
  have m_a0 : M_18 a0 = _ := (congrFun eM_18 a0).trans ((va_up_ne _ _ (Ne.symm n_ob_a0)).trans m_a0)
  have m_a1 : M_18 a1 = _ := (congrFun eM_18 a1).trans ((va_up_ne _ _ (Ne.symm n_ob_a1)).trans m_a1)
  have m_a2 : M_18 a2 = _ := (congrFun eM_18 a2).trans ((va_up_ne _ _ (Ne.symm n_ob_a2)).trans m_a2)
  have m_a3 : M_18 a3 = _ := (congrFun eM_18 a3).trans ((va_up_ne _ _ (Ne.symm n_ob_a3)).trans m_a3)
  have m_a4 : M_18 a4 = _ := (congrFun eM_18 a4).trans ((va_up_ne _ _ (Ne.symm n_ob_a4)).trans m_a4)
  have m_a5 : M_18 a5 = _ := (congrFun eM_18 a5).trans ((va_up_ne _ _ (Ne.symm n_ob_a5)).trans m_a5)
  have m_ob : M_18 ob = .inr (5, [.ref a0, .ref a1, .ref a2, .ref a3, .ref a4, .ref a5, .null, .null, .null, .null, .null, .null, .null, .int 0, .int 0, .null, .null, .int 0, .null, .null]) := by rw [eM_18]; exact va_up_self _ _ _
  have fE : ∀ q : Nat, q ∈ L → q ≠ ob → M_18 q = M q := fun q h0 h1 => (congrFun eM_18 q).trans ((va_up_ne _ _ h1).trans (fE q h0 h1))
  refine lv_aload_n hx hb dX5_init_53 rfl (lv_at hl 0 rfl) ?_
  refine lv_bipush (v := 6) hx hb dX5_init_54 (by decide) ?_
  refine mm_newa (atype := .int) (ty := .int) (N' := 6) hx hb (hts (.arrayClass .int) (by decide +kernel)) rfl 0 rfl (fun _ h => h) rfl hK hV (by decide) (by decide +kernel) (by decide +kernel) (by rw [hR]; exact Nat.le_of_ble_eq_true rfl) (by rw [hR]; exact Nat.le_of_ble_eq_true rfl) dX5_init_56 (fun a6 H hq_a6 hV => ?_)
  refine W.widen (k := 7) (n := 618) (Nat.le_refl _) (Nat.le_refl _) ?_
  obtain ⟨L_19, eL_19⟩ : ∃ z, z = L_16 ++ [a6] := ⟨_, rfl⟩
  obtain ⟨M_20, eM_20⟩ : ∃ z, z = va_up M_18 a6 (.inl (dA 0, 6, .inl (fun _ => 0))) := ⟨_, rfl⟩
  rw [← eL_19, ← eM_20] at hV
  have n_ob_a6 : ob ≠ a6 := fun h => hq_a6 (by rw [← h]; exact i_ob)
  have m_ob : M_20 ob = _ := (congrFun eM_20 ob).trans ((va_up_ne _ _ n_ob_a6).trans m_ob)
  have i_ob : ob ∈ L_19 := by rw [eL_19]; exact List.mem_append_left _ i_ob
  have n_a0_a6 : a0 ≠ a6 := fun h => hq_a6 (by rw [← h]; exact i_a0)
  have m_a0 : M_20 a0 = _ := (congrFun eM_20 a0).trans ((va_up_ne _ _ n_a0_a6).trans m_a0)
  have i_a0 : a0 ∈ L_19 := by rw [eL_19]; exact List.mem_append_left _ i_a0
  have n_a1_a6 : a1 ≠ a6 := fun h => hq_a6 (by rw [← h]; exact i_a1)
  have m_a1 : M_20 a1 = _ := (congrFun eM_20 a1).trans ((va_up_ne _ _ n_a1_a6).trans m_a1)
  have i_a1 : a1 ∈ L_19 := by rw [eL_19]; exact List.mem_append_left _ i_a1
  have n_a2_a6 : a2 ≠ a6 := fun h => hq_a6 (by rw [← h]; exact i_a2)
  have m_a2 : M_20 a2 = _ := (congrFun eM_20 a2).trans ((va_up_ne _ _ n_a2_a6).trans m_a2)
  have i_a2 : a2 ∈ L_19 := by rw [eL_19]; exact List.mem_append_left _ i_a2
  have n_a3_a6 : a3 ≠ a6 := fun h => hq_a6 (by rw [← h]; exact i_a3)
  have m_a3 : M_20 a3 = _ := (congrFun eM_20 a3).trans ((va_up_ne _ _ n_a3_a6).trans m_a3)
  have i_a3 : a3 ∈ L_19 := by rw [eL_19]; exact List.mem_append_left _ i_a3
  have n_a4_a6 : a4 ≠ a6 := fun h => hq_a6 (by rw [← h]; exact i_a4)
  have m_a4 : M_20 a4 = _ := (congrFun eM_20 a4).trans ((va_up_ne _ _ n_a4_a6).trans m_a4)
  have i_a4 : a4 ∈ L_19 := by rw [eL_19]; exact List.mem_append_left _ i_a4
  have n_a5_a6 : a5 ≠ a6 := fun h => hq_a6 (by rw [← h]; exact i_a5)
  have m_a5 : M_20 a5 = _ := (congrFun eM_20 a5).trans ((va_up_ne _ _ n_a5_a6).trans m_a5)
  have i_a5 : a5 ∈ L_19 := by rw [eL_19]; exact List.mem_append_left _ i_a5
  have o_a6 : a6 ∉ L := fun h => hq_a6 (hsub a6 h)
  have hsub : ∀ x, x ∈ L → x ∈ L_19 := fun x h => by rw [eL_19]; exact List.mem_append_left _ (hsub x h)
  have i_a6 : a6 ∈ L_19 := by rw [eL_19]; exact List.mem_append_right _ (List.mem_singleton.mpr rfl)
  have m_a6 : M_20 a6 = .inl (dA 0, 6, .inl (fun _ => 0)) := by rw [eM_20]; exact va_up_self _ _ _
  have fE : ∀ q : Nat, q ∈ L → q ≠ ob → M_20 q = M q := fun q h0 h1 => (congrFun eM_20 q).trans ((va_up_ne _ _ (fun h => o_a6 (by rw [← h]; exact h0))).trans (fE q h0 h1))
  refine mm_putF (ci := 5) (v := .ref a6) (fs' := [.ref a0, .ref a1, .ref a2, .ref a3, .ref a4, .ref a5, .ref a6, .null, .null, .null, .null, .null, .null, .int 0, .int 0, .null, .null, .int 0, .null, .null]) (ty := .array .int) (C := RX5) (T := TX5) (N := 20) hx hb hts in_X5 tyX5 tyX5_ok nmX5 hown hK hV i_ob m_ob rfl 6 (by decide) f_28 (fun _ h => h) rfl hin rfl (by decide +kernel) rfl rfl (Nat.le_of_ble_eq_true rfl) rfl dX5_init_58 (fun M_21 H locs eM_21 hV => ?_)
  have m_a0 : M_21 a0 = _ := (congrFun eM_21 a0).trans ((va_up_ne _ _ (Ne.symm n_ob_a0)).trans m_a0)
  have m_a1 : M_21 a1 = _ := (congrFun eM_21 a1).trans ((va_up_ne _ _ (Ne.symm n_ob_a1)).trans m_a1)
  have m_a2 : M_21 a2 = _ := (congrFun eM_21 a2).trans ((va_up_ne _ _ (Ne.symm n_ob_a2)).trans m_a2)
  have m_a3 : M_21 a3 = _ := (congrFun eM_21 a3).trans ((va_up_ne _ _ (Ne.symm n_ob_a3)).trans m_a3)
  have m_a4 : M_21 a4 = _ := (congrFun eM_21 a4).trans ((va_up_ne _ _ (Ne.symm n_ob_a4)).trans m_a4)
  have m_a5 : M_21 a5 = _ := (congrFun eM_21 a5).trans ((va_up_ne _ _ (Ne.symm n_ob_a5)).trans m_a5)
  have m_a6 : M_21 a6 = _ := (congrFun eM_21 a6).trans ((va_up_ne _ _ (Ne.symm n_ob_a6)).trans m_a6)
  have m_ob : M_21 ob = .inr (5, [.ref a0, .ref a1, .ref a2, .ref a3, .ref a4, .ref a5, .ref a6, .null, .null, .null, .null, .null, .null, .int 0, .int 0, .null, .null, .int 0, .null, .null]) := by rw [eM_21]; exact va_up_self _ _ _
  have fE : ∀ q : Nat, q ∈ L → q ≠ ob → M_21 q = M q := fun q h0 h1 => (congrFun eM_21 q).trans ((va_up_ne _ _ h1).trans (fE q h0 h1))
  refine lv_aload_n hx hb dX5_init_61 rfl (lv_at hl 0 rfl) ?_
  refine lv_bipush (v := 72) hx hb dX5_init_62 (by decide) ?_
  refine mm_newa (atype := .int) (ty := .int) (N' := 72) hx hb (hts (.arrayClass .int) (by decide +kernel)) rfl 0 rfl (fun _ h => h) rfl hK hV (by decide) (by decide +kernel) (by decide +kernel) (by rw [hR]; exact Nat.le_of_ble_eq_true rfl) (by rw [hR]; exact Nat.le_of_ble_eq_true rfl) dX5_init_64 (fun a7 H hq_a7 hV => ?_)
  refine W.widen (k := 8) (n := 690) (Nat.le_refl _) (Nat.le_refl _) ?_
  obtain ⟨L_22, eL_22⟩ : ∃ z, z = L_19 ++ [a7] := ⟨_, rfl⟩
  obtain ⟨M_23, eM_23⟩ : ∃ z, z = va_up M_21 a7 (.inl (dA 0, 72, .inl (fun _ => 0))) := ⟨_, rfl⟩
  rw [← eL_22, ← eM_23] at hV
  have n_ob_a7 : ob ≠ a7 := fun h => hq_a7 (by rw [← h]; exact i_ob)
  have m_ob : M_23 ob = _ := (congrFun eM_23 ob).trans ((va_up_ne _ _ n_ob_a7).trans m_ob)
  have i_ob : ob ∈ L_22 := by rw [eL_22]; exact List.mem_append_left _ i_ob
  have n_a0_a7 : a0 ≠ a7 := fun h => hq_a7 (by rw [← h]; exact i_a0)
  have m_a0 : M_23 a0 = _ := (congrFun eM_23 a0).trans ((va_up_ne _ _ n_a0_a7).trans m_a0)
  have i_a0 : a0 ∈ L_22 := by rw [eL_22]; exact List.mem_append_left _ i_a0
  have n_a1_a7 : a1 ≠ a7 := fun h => hq_a7 (by rw [← h]; exact i_a1)
  have m_a1 : M_23 a1 = _ := (congrFun eM_23 a1).trans ((va_up_ne _ _ n_a1_a7).trans m_a1)
  have i_a1 : a1 ∈ L_22 := by rw [eL_22]; exact List.mem_append_left _ i_a1
  have n_a2_a7 : a2 ≠ a7 := fun h => hq_a7 (by rw [← h]; exact i_a2)
  have m_a2 : M_23 a2 = _ := (congrFun eM_23 a2).trans ((va_up_ne _ _ n_a2_a7).trans m_a2)
  have i_a2 : a2 ∈ L_22 := by rw [eL_22]; exact List.mem_append_left _ i_a2
  have n_a3_a7 : a3 ≠ a7 := fun h => hq_a7 (by rw [← h]; exact i_a3)
  have m_a3 : M_23 a3 = _ := (congrFun eM_23 a3).trans ((va_up_ne _ _ n_a3_a7).trans m_a3)
  have i_a3 : a3 ∈ L_22 := by rw [eL_22]; exact List.mem_append_left _ i_a3
  have n_a4_a7 : a4 ≠ a7 := fun h => hq_a7 (by rw [← h]; exact i_a4)
  have m_a4 : M_23 a4 = _ := (congrFun eM_23 a4).trans ((va_up_ne _ _ n_a4_a7).trans m_a4)
  have i_a4 : a4 ∈ L_22 := by rw [eL_22]; exact List.mem_append_left _ i_a4
  have n_a5_a7 : a5 ≠ a7 := fun h => hq_a7 (by rw [← h]; exact i_a5)
  have m_a5 : M_23 a5 = _ := (congrFun eM_23 a5).trans ((va_up_ne _ _ n_a5_a7).trans m_a5)
  have i_a5 : a5 ∈ L_22 := by rw [eL_22]; exact List.mem_append_left _ i_a5
  have n_a6_a7 : a6 ≠ a7 := fun h => hq_a7 (by rw [← h]; exact i_a6)
  have m_a6 : M_23 a6 = _ := (congrFun eM_23 a6).trans ((va_up_ne _ _ n_a6_a7).trans m_a6)
  have i_a6 : a6 ∈ L_22 := by rw [eL_22]; exact List.mem_append_left _ i_a6
  have o_a7 : a7 ∉ L := fun h => hq_a7 (hsub a7 h)
  have hsub : ∀ x, x ∈ L → x ∈ L_22 := fun x h => by rw [eL_22]; exact List.mem_append_left _ (hsub x h)
  have i_a7 : a7 ∈ L_22 := by rw [eL_22]; exact List.mem_append_right _ (List.mem_singleton.mpr rfl)
  have m_a7 : M_23 a7 = .inl (dA 0, 72, .inl (fun _ => 0)) := by rw [eM_23]; exact va_up_self _ _ _
  have fE : ∀ q : Nat, q ∈ L → q ≠ ob → M_23 q = M q := fun q h0 h1 => (congrFun eM_23 q).trans ((va_up_ne _ _ (fun h => o_a7 (by rw [← h]; exact h0))).trans (fE q h0 h1))
  refine mm_putF (ci := 5) (v := .ref a7) (fs' := [.ref a0, .ref a1, .ref a2, .ref a3, .ref a4, .ref a5, .ref a6, .ref a7, .null, .null, .null, .null, .null, .int 0, .int 0, .null, .null, .int 0, .null, .null]) (ty := .array .int) (C := RX5) (T := TX5) (N := 20) hx hb hts in_X5 tyX5 tyX5_ok nmX5 hown hK hV i_ob m_ob rfl 7 (by decide) f_31 (fun _ h => h) rfl hin rfl (by decide +kernel) rfl rfl (Nat.le_of_ble_eq_true rfl) rfl dX5_init_66 (fun M_24 H locs eM_24 hV => ?_)
  have m_a0 : M_24 a0 = _ := (congrFun eM_24 a0).trans ((va_up_ne _ _ (Ne.symm n_ob_a0)).trans m_a0)
  have m_a1 : M_24 a1 = _ := (congrFun eM_24 a1).trans ((va_up_ne _ _ (Ne.symm n_ob_a1)).trans m_a1)
  have m_a2 : M_24 a2 = _ := (congrFun eM_24 a2).trans ((va_up_ne _ _ (Ne.symm n_ob_a2)).trans m_a2)
  have m_a3 : M_24 a3 = _ := (congrFun eM_24 a3).trans ((va_up_ne _ _ (Ne.symm n_ob_a3)).trans m_a3)
  have m_a4 : M_24 a4 = _ := (congrFun eM_24 a4).trans ((va_up_ne _ _ (Ne.symm n_ob_a4)).trans m_a4)
  have m_a5 : M_24 a5 = _ := (congrFun eM_24 a5).trans ((va_up_ne _ _ (Ne.symm n_ob_a5)).trans m_a5)
  have m_a6 : M_24 a6 = _ := (congrFun eM_24 a6).trans ((va_up_ne _ _ (Ne.symm n_ob_a6)).trans m_a6)
  have m_a7 : M_24 a7 = _ := (congrFun eM_24 a7).trans ((va_up_ne _ _ (Ne.symm n_ob_a7)).trans m_a7)
  have m_ob : M_24 ob = .inr (5, [.ref a0, .ref a1, .ref a2, .ref a3, .ref a4, .ref a5, .ref a6, .ref a7, .null, .null, .null, .null, .null, .int 0, .int 0, .null, .null, .int 0, .null, .null]) := by rw [eM_24]; exact va_up_self _ _ _
  have fE : ∀ q : Nat, q ∈ L → q ≠ ob → M_24 q = M q := fun q h0 h1 => (congrFun eM_24 q).trans ((va_up_ne _ _ h1).trans (fE q h0 h1))
  refine lv_aload_n hx hb dX5_init_69 rfl (lv_at hl 0 rfl) ?_
  refine lv_bipush (v := 72) hx hb dX5_init_70 (by decide) ?_
  refine mm_newa (atype := .int) (ty := .int) (N' := 72) hx hb (hts (.arrayClass .int) (by decide +kernel)) rfl 0 rfl (fun _ h => h) rfl hK hV (by decide) (by decide +kernel) (by decide +kernel) (by rw [hR]; exact Nat.le_of_ble_eq_true rfl) (by rw [hR]; exact Nat.le_of_ble_eq_true rfl) dX5_init_72 (fun a8 H hq_a8 hV => ?_)
  refine W.widen (k := 9) (n := 762) (Nat.le_refl _) (Nat.le_refl _) ?_
  obtain ⟨L_25, eL_25⟩ : ∃ z, z = L_22 ++ [a8] := ⟨_, rfl⟩
  obtain ⟨M_26, eM_26⟩ : ∃ z, z = va_up M_24 a8 (.inl (dA 0, 72, .inl (fun _ => 0))) := ⟨_, rfl⟩
  rw [← eL_25, ← eM_26] at hV
  have n_ob_a8 : ob ≠ a8 := fun h => hq_a8 (by rw [← h]; exact i_ob)
  have m_ob : M_26 ob = _ := (congrFun eM_26 ob).trans ((va_up_ne _ _ n_ob_a8).trans m_ob)
  have i_ob : ob ∈ L_25 := by rw [eL_25]; exact List.mem_append_left _ i_ob
  have n_a0_a8 : a0 ≠ a8 := fun h => hq_a8 (by rw [← h]; exact i_a0)
  have m_a0 : M_26 a0 = _ := (congrFun eM_26 a0).trans ((va_up_ne _ _ n_a0_a8).trans m_a0)
  have i_a0 : a0 ∈ L_25 := by rw [eL_25]; exact List.mem_append_left _ i_a0
  have n_a1_a8 : a1 ≠ a8 := fun h => hq_a8 (by rw [← h]; exact i_a1)
  have m_a1 : M_26 a1 = _ := (congrFun eM_26 a1).trans ((va_up_ne _ _ n_a1_a8).trans m_a1)
  have i_a1 : a1 ∈ L_25 := by rw [eL_25]; exact List.mem_append_left _ i_a1
  have n_a2_a8 : a2 ≠ a8 := fun h => hq_a8 (by rw [← h]; exact i_a2)
  have m_a2 : M_26 a2 = _ := (congrFun eM_26 a2).trans ((va_up_ne _ _ n_a2_a8).trans m_a2)
  have i_a2 : a2 ∈ L_25 := by rw [eL_25]; exact List.mem_append_left _ i_a2
  have n_a3_a8 : a3 ≠ a8 := fun h => hq_a8 (by rw [← h]; exact i_a3)
  have m_a3 : M_26 a3 = _ := (congrFun eM_26 a3).trans ((va_up_ne _ _ n_a3_a8).trans m_a3)
  have i_a3 : a3 ∈ L_25 := by rw [eL_25]; exact List.mem_append_left _ i_a3
  have n_a4_a8 : a4 ≠ a8 := fun h => hq_a8 (by rw [← h]; exact i_a4)
  have m_a4 : M_26 a4 = _ := (congrFun eM_26 a4).trans ((va_up_ne _ _ n_a4_a8).trans m_a4)
  have i_a4 : a4 ∈ L_25 := by rw [eL_25]; exact List.mem_append_left _ i_a4
  have n_a5_a8 : a5 ≠ a8 := fun h => hq_a8 (by rw [← h]; exact i_a5)
  have m_a5 : M_26 a5 = _ := (congrFun eM_26 a5).trans ((va_up_ne _ _ n_a5_a8).trans m_a5)
  have i_a5 : a5 ∈ L_25 := by rw [eL_25]; exact List.mem_append_left _ i_a5
  have n_a6_a8 : a6 ≠ a8 := fun h => hq_a8 (by rw [← h]; exact i_a6)
  have m_a6 : M_26 a6 = _ := (congrFun eM_26 a6).trans ((va_up_ne _ _ n_a6_a8).trans m_a6)
  have i_a6 : a6 ∈ L_25 := by rw [eL_25]; exact List.mem_append_left _ i_a6
  have n_a7_a8 : a7 ≠ a8 := fun h => hq_a8 (by rw [← h]; exact i_a7)
  have m_a7 : M_26 a7 = _ := (congrFun eM_26 a7).trans ((va_up_ne _ _ n_a7_a8).trans m_a7)
  have i_a7 : a7 ∈ L_25 := by rw [eL_25]; exact List.mem_append_left _ i_a7
  have o_a8 : a8 ∉ L := fun h => hq_a8 (hsub a8 h)
  have hsub : ∀ x, x ∈ L → x ∈ L_25 := fun x h => by rw [eL_25]; exact List.mem_append_left _ (hsub x h)
  have i_a8 : a8 ∈ L_25 := by rw [eL_25]; exact List.mem_append_right _ (List.mem_singleton.mpr rfl)
  have m_a8 : M_26 a8 = .inl (dA 0, 72, .inl (fun _ => 0)) := by rw [eM_26]; exact va_up_self _ _ _
  have fE : ∀ q : Nat, q ∈ L → q ≠ ob → M_26 q = M q := fun q h0 h1 => (congrFun eM_26 q).trans ((va_up_ne _ _ (fun h => o_a8 (by rw [← h]; exact h0))).trans (fE q h0 h1))
  refine mm_putF (ci := 5) (v := .ref a8) (fs' := [.ref a0, .ref a1, .ref a2, .ref a3, .ref a4, .ref a5, .ref a6, .ref a7, .ref a8, .null, .null, .null, .null, .int 0, .int 0, .null, .null, .int 0, .null, .null]) (ty := .array .int) (C := RX5) (T := TX5) (N := 20) hx hb hts in_X5 tyX5 tyX5_ok nmX5 hown hK hV i_ob m_ob rfl 8 (by decide) f_34 (fun _ h => h) rfl hin rfl (by decide +kernel) rfl rfl (Nat.le_of_ble_eq_true rfl) rfl dX5_init_74 (fun M_27 H locs eM_27 hV => ?_)
  have m_a0 : M_27 a0 = _ := (congrFun eM_27 a0).trans ((va_up_ne _ _ (Ne.symm n_ob_a0)).trans m_a0)
  have m_a1 : M_27 a1 = _ := (congrFun eM_27 a1).trans ((va_up_ne _ _ (Ne.symm n_ob_a1)).trans m_a1)
  have m_a2 : M_27 a2 = _ := (congrFun eM_27 a2).trans ((va_up_ne _ _ (Ne.symm n_ob_a2)).trans m_a2)
  have m_a3 : M_27 a3 = _ := (congrFun eM_27 a3).trans ((va_up_ne _ _ (Ne.symm n_ob_a3)).trans m_a3)
  have m_a4 : M_27 a4 = _ := (congrFun eM_27 a4).trans ((va_up_ne _ _ (Ne.symm n_ob_a4)).trans m_a4)
  have m_a5 : M_27 a5 = _ := (congrFun eM_27 a5).trans ((va_up_ne _ _ (Ne.symm n_ob_a5)).trans m_a5)
  have m_a6 : M_27 a6 = _ := (congrFun eM_27 a6).trans ((va_up_ne _ _ (Ne.symm n_ob_a6)).trans m_a6)
  have m_a7 : M_27 a7 = _ := (congrFun eM_27 a7).trans ((va_up_ne _ _ (Ne.symm n_ob_a7)).trans m_a7)
  have m_a8 : M_27 a8 = _ := (congrFun eM_27 a8).trans ((va_up_ne _ _ (Ne.symm n_ob_a8)).trans m_a8)
  have m_ob : M_27 ob = .inr (5, [.ref a0, .ref a1, .ref a2, .ref a3, .ref a4, .ref a5, .ref a6, .ref a7, .ref a8, .null, .null, .null, .null, .int 0, .int 0, .null, .null, .int 0, .null, .null]) := by rw [eM_27]; exact va_up_self _ _ _
  have fE : ∀ q : Nat, q ∈ L → q ≠ ob → M_27 q = M q := fun q h0 h1 => (congrFun eM_27 q).trans ((va_up_ne _ _ h1).trans (fE q h0 h1))
  refine lv_aload_n hx hb dX5_init_77 rfl (lv_at hl 0 rfl) ?_
  refine lv_bipush (v := 8) hx hb dX5_init_78 (by decide) ?_
  refine mm_newa (atype := .int) (ty := .int) (N' := 8) hx hb (hts (.arrayClass .int) (by decide +kernel)) rfl 0 rfl (fun _ h => h) rfl hK hV (by decide) (by decide +kernel) (by decide +kernel) (by rw [hR]; exact Nat.le_of_ble_eq_true rfl) (by rw [hR]; exact Nat.le_of_ble_eq_true rfl) dX5_init_80 (fun a9 H hq_a9 hV => ?_)
  refine W.widen (k := 10) (n := 770) (Nat.le_refl _) (Nat.le_refl _) ?_
  obtain ⟨L_28, eL_28⟩ : ∃ z, z = L_25 ++ [a9] := ⟨_, rfl⟩
  obtain ⟨M_29, eM_29⟩ : ∃ z, z = va_up M_27 a9 (.inl (dA 0, 8, .inl (fun _ => 0))) := ⟨_, rfl⟩
  rw [← eL_28, ← eM_29] at hV
  have n_ob_a9 : ob ≠ a9 := fun h => hq_a9 (by rw [← h]; exact i_ob)
  have m_ob : M_29 ob = _ := (congrFun eM_29 ob).trans ((va_up_ne _ _ n_ob_a9).trans m_ob)
  have i_ob : ob ∈ L_28 := by rw [eL_28]; exact List.mem_append_left _ i_ob
  have n_a0_a9 : a0 ≠ a9 := fun h => hq_a9 (by rw [← h]; exact i_a0)
  have m_a0 : M_29 a0 = _ := (congrFun eM_29 a0).trans ((va_up_ne _ _ n_a0_a9).trans m_a0)
  have i_a0 : a0 ∈ L_28 := by rw [eL_28]; exact List.mem_append_left _ i_a0
  have n_a1_a9 : a1 ≠ a9 := fun h => hq_a9 (by rw [← h]; exact i_a1)
  have m_a1 : M_29 a1 = _ := (congrFun eM_29 a1).trans ((va_up_ne _ _ n_a1_a9).trans m_a1)
  have i_a1 : a1 ∈ L_28 := by rw [eL_28]; exact List.mem_append_left _ i_a1
  have n_a2_a9 : a2 ≠ a9 := fun h => hq_a9 (by rw [← h]; exact i_a2)
  have m_a2 : M_29 a2 = _ := (congrFun eM_29 a2).trans ((va_up_ne _ _ n_a2_a9).trans m_a2)
  have i_a2 : a2 ∈ L_28 := by rw [eL_28]; exact List.mem_append_left _ i_a2
  have n_a3_a9 : a3 ≠ a9 := fun h => hq_a9 (by rw [← h]; exact i_a3)
  have m_a3 : M_29 a3 = _ := (congrFun eM_29 a3).trans ((va_up_ne _ _ n_a3_a9).trans m_a3)
  have i_a3 : a3 ∈ L_28 := by rw [eL_28]; exact List.mem_append_left _ i_a3
  have n_a4_a9 : a4 ≠ a9 := fun h => hq_a9 (by rw [← h]; exact i_a4)
  have m_a4 : M_29 a4 = _ := (congrFun eM_29 a4).trans ((va_up_ne _ _ n_a4_a9).trans m_a4)
  have i_a4 : a4 ∈ L_28 := by rw [eL_28]; exact List.mem_append_left _ i_a4
  have n_a5_a9 : a5 ≠ a9 := fun h => hq_a9 (by rw [← h]; exact i_a5)
  have m_a5 : M_29 a5 = _ := (congrFun eM_29 a5).trans ((va_up_ne _ _ n_a5_a9).trans m_a5)
  have i_a5 : a5 ∈ L_28 := by rw [eL_28]; exact List.mem_append_left _ i_a5
  have n_a6_a9 : a6 ≠ a9 := fun h => hq_a9 (by rw [← h]; exact i_a6)
  have m_a6 : M_29 a6 = _ := (congrFun eM_29 a6).trans ((va_up_ne _ _ n_a6_a9).trans m_a6)
  have i_a6 : a6 ∈ L_28 := by rw [eL_28]; exact List.mem_append_left _ i_a6
  have n_a7_a9 : a7 ≠ a9 := fun h => hq_a9 (by rw [← h]; exact i_a7)
  have m_a7 : M_29 a7 = _ := (congrFun eM_29 a7).trans ((va_up_ne _ _ n_a7_a9).trans m_a7)
  have i_a7 : a7 ∈ L_28 := by rw [eL_28]; exact List.mem_append_left _ i_a7
  have n_a8_a9 : a8 ≠ a9 := fun h => hq_a9 (by rw [← h]; exact i_a8)
  have m_a8 : M_29 a8 = _ := (congrFun eM_29 a8).trans ((va_up_ne _ _ n_a8_a9).trans m_a8)
  have i_a8 : a8 ∈ L_28 := by rw [eL_28]; exact List.mem_append_left _ i_a8
  have o_a9 : a9 ∉ L := fun h => hq_a9 (hsub a9 h)
  have hsub : ∀ x, x ∈ L → x ∈ L_28 := fun x h => by rw [eL_28]; exact List.mem_append_left _ (hsub x h)
  have i_a9 : a9 ∈ L_28 := by rw [eL_28]; exact List.mem_append_right _ (List.mem_singleton.mpr rfl)
  have m_a9 : M_29 a9 = .inl (dA 0, 8, .inl (fun _ => 0)) := by rw [eM_29]; exact va_up_self _ _ _
  have fE : ∀ q : Nat, q ∈ L → q ≠ ob → M_29 q = M q := fun q h0 h1 => (congrFun eM_29 q).trans ((va_up_ne _ _ (fun h => o_a9 (by rw [← h]; exact h0))).trans (fE q h0 h1))
  refine mm_putF (ci := 5) (v := .ref a9) (fs' := [.ref a0, .ref a1, .ref a2, .ref a3, .ref a4, .ref a5, .ref a6, .ref a7, .ref a8, .ref a9, .null, .null, .null, .int 0, .int 0, .null, .null, .int 0, .null, .null]) (ty := .array .int) (C := RX5) (T := TX5) (N := 20) hx hb hts in_X5 tyX5 tyX5_ok nmX5 hown hK hV i_ob m_ob rfl 9 (by decide) f_37 (fun _ h => h) rfl hin rfl (by decide +kernel) rfl rfl (Nat.le_of_ble_eq_true rfl) rfl dX5_init_82 (fun M_30 H locs eM_30 hV => ?_)
  have m_a0 : M_30 a0 = _ := (congrFun eM_30 a0).trans ((va_up_ne _ _ (Ne.symm n_ob_a0)).trans m_a0)
  have m_a1 : M_30 a1 = _ := (congrFun eM_30 a1).trans ((va_up_ne _ _ (Ne.symm n_ob_a1)).trans m_a1)
  have m_a2 : M_30 a2 = _ := (congrFun eM_30 a2).trans ((va_up_ne _ _ (Ne.symm n_ob_a2)).trans m_a2)
  have m_a3 : M_30 a3 = _ := (congrFun eM_30 a3).trans ((va_up_ne _ _ (Ne.symm n_ob_a3)).trans m_a3)
  have m_a4 : M_30 a4 = _ := (congrFun eM_30 a4).trans ((va_up_ne _ _ (Ne.symm n_ob_a4)).trans m_a4)
  have m_a5 : M_30 a5 = _ := (congrFun eM_30 a5).trans ((va_up_ne _ _ (Ne.symm n_ob_a5)).trans m_a5)
  have m_a6 : M_30 a6 = _ := (congrFun eM_30 a6).trans ((va_up_ne _ _ (Ne.symm n_ob_a6)).trans m_a6)
  have m_a7 : M_30 a7 = _ := (congrFun eM_30 a7).trans ((va_up_ne _ _ (Ne.symm n_ob_a7)).trans m_a7)
  have m_a8 : M_30 a8 = _ := (congrFun eM_30 a8).trans ((va_up_ne _ _ (Ne.symm n_ob_a8)).trans m_a8)
  have m_a9 : M_30 a9 = _ := (congrFun eM_30 a9).trans ((va_up_ne _ _ (Ne.symm n_ob_a9)).trans m_a9)
  have m_ob : M_30 ob = .inr (5, [.ref a0, .ref a1, .ref a2, .ref a3, .ref a4, .ref a5, .ref a6, .ref a7, .ref a8, .ref a9, .null, .null, .null, .int 0, .int 0, .null, .null, .int 0, .null, .null]) := by rw [eM_30]; exact va_up_self _ _ _
  have fE : ∀ q : Nat, q ∈ L → q ≠ ob → M_30 q = M q := fun q h0 h1 => (congrFun eM_30 q).trans ((va_up_ne _ _ h1).trans (fE q h0 h1))
  refine lv_aload_n hx hb dX5_init_85 rfl (lv_at hl 0 rfl) ?_
  refine lv_bipush (v := 8) hx hb dX5_init_86 (by decide) ?_
  refine mm_newa (atype := .int) (ty := .int) (N' := 8) hx hb (hts (.arrayClass .int) (by decide +kernel)) rfl 0 rfl (fun _ h => h) rfl hK hV (by decide) (by decide +kernel) (by decide +kernel) (by rw [hR]; exact Nat.le_of_ble_eq_true rfl) (by rw [hR]; exact Nat.le_of_ble_eq_true rfl) dX5_init_88 (fun a10 H hq_a10 hV => ?_)
  refine W.widen (k := 11) (n := 778) (Nat.le_refl _) (Nat.le_refl _) ?_
  obtain ⟨L_31, eL_31⟩ : ∃ z, z = L_28 ++ [a10] := ⟨_, rfl⟩
  obtain ⟨M_32, eM_32⟩ : ∃ z, z = va_up M_30 a10 (.inl (dA 0, 8, .inl (fun _ => 0))) := ⟨_, rfl⟩
  rw [← eL_31, ← eM_32] at hV
  have n_ob_a10 : ob ≠ a10 := fun h => hq_a10 (by rw [← h]; exact i_ob)
  have m_ob : M_32 ob = _ := (congrFun eM_32 ob).trans ((va_up_ne _ _ n_ob_a10).trans m_ob)
  have i_ob : ob ∈ L_31 := by rw [eL_31]; exact List.mem_append_left _ i_ob
  have n_a0_a10 : a0 ≠ a10 := fun h => hq_a10 (by rw [← h]; exact i_a0)
  have m_a0 : M_32 a0 = _ := (congrFun eM_32 a0).trans ((va_up_ne _ _ n_a0_a10).trans m_a0)
  have i_a0 : a0 ∈ L_31 := by rw [eL_31]; exact List.mem_append_left _ i_a0
  have n_a1_a10 : a1 ≠ a10 := fun h => hq_a10 (by rw [← h]; exact i_a1)
  have m_a1 : M_32 a1 = _ := (congrFun eM_32 a1).trans ((va_up_ne _ _ n_a1_a10).trans m_a1)
  have i_a1 : a1 ∈ L_31 := by rw [eL_31]; exact List.mem_append_left _ i_a1
  have n_a2_a10 : a2 ≠ a10 := fun h => hq_a10 (by rw [← h]; exact i_a2)
  have m_a2 : M_32 a2 = _ := (congrFun eM_32 a2).trans ((va_up_ne _ _ n_a2_a10).trans m_a2)
  have i_a2 : a2 ∈ L_31 := by rw [eL_31]; exact List.mem_append_left _ i_a2
  have n_a3_a10 : a3 ≠ a10 := fun h => hq_a10 (by rw [← h]; exact i_a3)
  have m_a3 : M_32 a3 = _ := (congrFun eM_32 a3).trans ((va_up_ne _ _ n_a3_a10).trans m_a3)
  have i_a3 : a3 ∈ L_31 := by rw [eL_31]; exact List.mem_append_left _ i_a3
  have n_a4_a10 : a4 ≠ a10 := fun h => hq_a10 (by rw [← h]; exact i_a4)
  have m_a4 : M_32 a4 = _ := (congrFun eM_32 a4).trans ((va_up_ne _ _ n_a4_a10).trans m_a4)
  have i_a4 : a4 ∈ L_31 := by rw [eL_31]; exact List.mem_append_left _ i_a4
  have n_a5_a10 : a5 ≠ a10 := fun h => hq_a10 (by rw [← h]; exact i_a5)
  have m_a5 : M_32 a5 = _ := (congrFun eM_32 a5).trans ((va_up_ne _ _ n_a5_a10).trans m_a5)
  have i_a5 : a5 ∈ L_31 := by rw [eL_31]; exact List.mem_append_left _ i_a5
  have n_a6_a10 : a6 ≠ a10 := fun h => hq_a10 (by rw [← h]; exact i_a6)
  have m_a6 : M_32 a6 = _ := (congrFun eM_32 a6).trans ((va_up_ne _ _ n_a6_a10).trans m_a6)
  have i_a6 : a6 ∈ L_31 := by rw [eL_31]; exact List.mem_append_left _ i_a6
  have n_a7_a10 : a7 ≠ a10 := fun h => hq_a10 (by rw [← h]; exact i_a7)
  have m_a7 : M_32 a7 = _ := (congrFun eM_32 a7).trans ((va_up_ne _ _ n_a7_a10).trans m_a7)
  have i_a7 : a7 ∈ L_31 := by rw [eL_31]; exact List.mem_append_left _ i_a7
  have n_a8_a10 : a8 ≠ a10 := fun h => hq_a10 (by rw [← h]; exact i_a8)
  have m_a8 : M_32 a8 = _ := (congrFun eM_32 a8).trans ((va_up_ne _ _ n_a8_a10).trans m_a8)
  have i_a8 : a8 ∈ L_31 := by rw [eL_31]; exact List.mem_append_left _ i_a8
  have n_a9_a10 : a9 ≠ a10 := fun h => hq_a10 (by rw [← h]; exact i_a9)
  have m_a9 : M_32 a9 = _ := (congrFun eM_32 a9).trans ((va_up_ne _ _ n_a9_a10).trans m_a9)
  have i_a9 : a9 ∈ L_31 := by rw [eL_31]; exact List.mem_append_left _ i_a9
  have o_a10 : a10 ∉ L := fun h => hq_a10 (hsub a10 h)
  have hsub : ∀ x, x ∈ L → x ∈ L_31 := fun x h => by rw [eL_31]; exact List.mem_append_left _ (hsub x h)
  have i_a10 : a10 ∈ L_31 := by rw [eL_31]; exact List.mem_append_right _ (List.mem_singleton.mpr rfl)
  have m_a10 : M_32 a10 = .inl (dA 0, 8, .inl (fun _ => 0)) := by rw [eM_32]; exact va_up_self _ _ _
  have fE : ∀ q : Nat, q ∈ L → q ≠ ob → M_32 q = M q := fun q h0 h1 => (congrFun eM_32 q).trans ((va_up_ne _ _ (fun h => o_a10 (by rw [← h]; exact h0))).trans (fE q h0 h1))
  refine mm_putF (ci := 5) (v := .ref a10) (fs' := [.ref a0, .ref a1, .ref a2, .ref a3, .ref a4, .ref a5, .ref a6, .ref a7, .ref a8, .ref a9, .ref a10, .null, .null, .int 0, .int 0, .null, .null, .int 0, .null, .null]) (ty := .array .int) (C := RX5) (T := TX5) (N := 20) hx hb hts in_X5 tyX5 tyX5_ok nmX5 hown hK hV i_ob m_ob rfl 10 (by decide) f_40 (fun _ h => h) rfl hin rfl (by decide +kernel) rfl rfl (Nat.le_of_ble_eq_true rfl) rfl dX5_init_90 (fun M_33 H locs eM_33 hV => ?_)
  have m_a0 : M_33 a0 = _ := (congrFun eM_33 a0).trans ((va_up_ne _ _ (Ne.symm n_ob_a0)).trans m_a0)
  have m_a1 : M_33 a1 = _ := (congrFun eM_33 a1).trans ((va_up_ne _ _ (Ne.symm n_ob_a1)).trans m_a1)
  have m_a2 : M_33 a2 = _ := (congrFun eM_33 a2).trans ((va_up_ne _ _ (Ne.symm n_ob_a2)).trans m_a2)
  have m_a3 : M_33 a3 = _ := (congrFun eM_33 a3).trans ((va_up_ne _ _ (Ne.symm n_ob_a3)).trans m_a3)
  have m_a4 : M_33 a4 = _ := (congrFun eM_33 a4).trans ((va_up_ne _ _ (Ne.symm n_ob_a4)).trans m_a4)
  have m_a5 : M_33 a5 = _ := (congrFun eM_33 a5).trans ((va_up_ne _ _ (Ne.symm n_ob_a5)).trans m_a5)
  have m_a6 : M_33 a6 = _ := (congrFun eM_33 a6).trans ((va_up_ne _ _ (Ne.symm n_ob_a6)).trans m_a6)
  have m_a7 : M_33 a7 = _ := (congrFun eM_33 a7).trans ((va_up_ne _ _ (Ne.symm n_ob_a7)).trans m_a7)
  have m_a8 : M_33 a8 = _ := (congrFun eM_33 a8).trans ((va_up_ne _ _ (Ne.symm n_ob_a8)).trans m_a8)
  have m_a9 : M_33 a9 = _ := (congrFun eM_33 a9).trans ((va_up_ne _ _ (Ne.symm n_ob_a9)).trans m_a9)
  have m_a10 : M_33 a10 = _ := (congrFun eM_33 a10).trans ((va_up_ne _ _ (Ne.symm n_ob_a10)).trans m_a10)
  have m_ob : M_33 ob = .inr (5, [.ref a0, .ref a1, .ref a2, .ref a3, .ref a4, .ref a5, .ref a6, .ref a7, .ref a8, .ref a9, .ref a10, .null, .null, .int 0, .int 0, .null, .null, .int 0, .null, .null]) := by rw [eM_33]; exact va_up_self _ _ _
  have fE : ∀ q : Nat, q ∈ L → q ≠ ob → M_33 q = M q := fun q h0 h1 => (congrFun eM_33 q).trans ((va_up_ne _ _ h1).trans (fE q h0 h1))
  refine lv_aload_n hx hb dX5_init_93 rfl (lv_at hl 0 rfl) ?_
  refine lv_bipush (v := 8) hx hb dX5_init_94 (by decide) ?_
  refine mm_newa (atype := .int) (ty := .int) (N' := 8) hx hb (hts (.arrayClass .int) (by decide +kernel)) rfl 0 rfl (fun _ h => h) rfl hK hV (by decide) (by decide +kernel) (by decide +kernel) (by rw [hR]; exact Nat.le_of_ble_eq_true rfl) (by rw [hR]; exact Nat.le_of_ble_eq_true rfl) dX5_init_96 (fun a11 H hq_a11 hV => ?_)
  refine W.widen (k := 12) (n := 786) (Nat.le_refl _) (Nat.le_refl _) ?_
  obtain ⟨L_34, eL_34⟩ : ∃ z, z = L_31 ++ [a11] := ⟨_, rfl⟩
  obtain ⟨M_35, eM_35⟩ : ∃ z, z = va_up M_33 a11 (.inl (dA 0, 8, .inl (fun _ => 0))) := ⟨_, rfl⟩
  rw [← eL_34, ← eM_35] at hV
  have n_ob_a11 : ob ≠ a11 := fun h => hq_a11 (by rw [← h]; exact i_ob)
  have m_ob : M_35 ob = _ := (congrFun eM_35 ob).trans ((va_up_ne _ _ n_ob_a11).trans m_ob)
  have i_ob : ob ∈ L_34 := by rw [eL_34]; exact List.mem_append_left _ i_ob
  have n_a0_a11 : a0 ≠ a11 := fun h => hq_a11 (by rw [← h]; exact i_a0)
  have m_a0 : M_35 a0 = _ := (congrFun eM_35 a0).trans ((va_up_ne _ _ n_a0_a11).trans m_a0)
  have i_a0 : a0 ∈ L_34 := by rw [eL_34]; exact List.mem_append_left _ i_a0
  have n_a1_a11 : a1 ≠ a11 := fun h => hq_a11 (by rw [← h]; exact i_a1)
  have m_a1 : M_35 a1 = _ := (congrFun eM_35 a1).trans ((va_up_ne _ _ n_a1_a11).trans m_a1)
  have i_a1 : a1 ∈ L_34 := by rw [eL_34]; exact List.mem_append_left _ i_a1
  have n_a2_a11 : a2 ≠ a11 := fun h => hq_a11 (by rw [← h]; exact i_a2)
  have m_a2 : M_35 a2 = _ := (congrFun eM_35 a2).trans ((va_up_ne _ _ n_a2_a11).trans m_a2)
  have i_a2 : a2 ∈ L_34 := by rw [eL_34]; exact List.mem_append_left _ i_a2
  have n_a3_a11 : a3 ≠ a11 := fun h => hq_a11 (by rw [← h]; exact i_a3)
  have m_a3 : M_35 a3 = _ := (congrFun eM_35 a3).trans ((va_up_ne _ _ n_a3_a11).trans m_a3)
  have i_a3 : a3 ∈ L_34 := by rw [eL_34]; exact List.mem_append_left _ i_a3
  have n_a4_a11 : a4 ≠ a11 := fun h => hq_a11 (by rw [← h]; exact i_a4)
  have m_a4 : M_35 a4 = _ := (congrFun eM_35 a4).trans ((va_up_ne _ _ n_a4_a11).trans m_a4)
  have i_a4 : a4 ∈ L_34 := by rw [eL_34]; exact List.mem_append_left _ i_a4
  have n_a5_a11 : a5 ≠ a11 := fun h => hq_a11 (by rw [← h]; exact i_a5)
  have m_a5 : M_35 a5 = _ := (congrFun eM_35 a5).trans ((va_up_ne _ _ n_a5_a11).trans m_a5)
  have i_a5 : a5 ∈ L_34 := by rw [eL_34]; exact List.mem_append_left _ i_a5
  have n_a6_a11 : a6 ≠ a11 := fun h => hq_a11 (by rw [← h]; exact i_a6)
  have m_a6 : M_35 a6 = _ := (congrFun eM_35 a6).trans ((va_up_ne _ _ n_a6_a11).trans m_a6)
  have i_a6 : a6 ∈ L_34 := by rw [eL_34]; exact List.mem_append_left _ i_a6
  have n_a7_a11 : a7 ≠ a11 := fun h => hq_a11 (by rw [← h]; exact i_a7)
  have m_a7 : M_35 a7 = _ := (congrFun eM_35 a7).trans ((va_up_ne _ _ n_a7_a11).trans m_a7)
  have i_a7 : a7 ∈ L_34 := by rw [eL_34]; exact List.mem_append_left _ i_a7
  have n_a8_a11 : a8 ≠ a11 := fun h => hq_a11 (by rw [← h]; exact i_a8)
  have m_a8 : M_35 a8 = _ := (congrFun eM_35 a8).trans ((va_up_ne _ _ n_a8_a11).trans m_a8)
  have i_a8 : a8 ∈ L_34 := by rw [eL_34]; exact List.mem_append_left _ i_a8
  have n_a9_a11 : a9 ≠ a11 := fun h => hq_a11 (by rw [← h]; exact i_a9)
  have m_a9 : M_35 a9 = _ := (congrFun eM_35 a9).trans ((va_up_ne _ _ n_a9_a11).trans m_a9)
  have i_a9 : a9 ∈ L_34 := by rw [eL_34]; exact List.mem_append_left _ i_a9
  have n_a10_a11 : a10 ≠ a11 := fun h => hq_a11 (by rw [← h]; exact i_a10)
  have m_a10 : M_35 a10 = _ := (congrFun eM_35 a10).trans ((va_up_ne _ _ n_a10_a11).trans m_a10)
  have i_a10 : a10 ∈ L_34 := by rw [eL_34]; exact List.mem_append_left _ i_a10
  have o_a11 : a11 ∉ L := fun h => hq_a11 (hsub a11 h)
  have hsub : ∀ x, x ∈ L → x ∈ L_34 := fun x h => by rw [eL_34]; exact List.mem_append_left _ (hsub x h)
  have i_a11 : a11 ∈ L_34 := by rw [eL_34]; exact List.mem_append_right _ (List.mem_singleton.mpr rfl)
  have m_a11 : M_35 a11 = .inl (dA 0, 8, .inl (fun _ => 0)) := by rw [eM_35]; exact va_up_self _ _ _
  have fE : ∀ q : Nat, q ∈ L → q ≠ ob → M_35 q = M q := fun q h0 h1 => (congrFun eM_35 q).trans ((va_up_ne _ _ (fun h => o_a11 (by rw [← h]; exact h0))).trans (fE q h0 h1))
  refine mm_putF (ci := 5) (v := .ref a11) (fs' := [.ref a0, .ref a1, .ref a2, .ref a3, .ref a4, .ref a5, .ref a6, .ref a7, .ref a8, .ref a9, .ref a10, .ref a11, .null, .int 0, .int 0, .null, .null, .int 0, .null, .null]) (ty := .array .int) (C := RX5) (T := TX5) (N := 20) hx hb hts in_X5 tyX5 tyX5_ok nmX5 hown hK hV i_ob m_ob rfl 11 (by decide) f_43 (fun _ h => h) rfl hin rfl (by decide +kernel) rfl rfl (Nat.le_of_ble_eq_true rfl) rfl dX5_init_98 (fun M_36 H locs eM_36 hV => ?_)
  have m_a0 : M_36 a0 = _ := (congrFun eM_36 a0).trans ((va_up_ne _ _ (Ne.symm n_ob_a0)).trans m_a0)
  have m_a1 : M_36 a1 = _ := (congrFun eM_36 a1).trans ((va_up_ne _ _ (Ne.symm n_ob_a1)).trans m_a1)
  have m_a2 : M_36 a2 = _ := (congrFun eM_36 a2).trans ((va_up_ne _ _ (Ne.symm n_ob_a2)).trans m_a2)
  have m_a3 : M_36 a3 = _ := (congrFun eM_36 a3).trans ((va_up_ne _ _ (Ne.symm n_ob_a3)).trans m_a3)
  have m_a4 : M_36 a4 = _ := (congrFun eM_36 a4).trans ((va_up_ne _ _ (Ne.symm n_ob_a4)).trans m_a4)
  have m_a5 : M_36 a5 = _ := (congrFun eM_36 a5).trans ((va_up_ne _ _ (Ne.symm n_ob_a5)).trans m_a5)
  have m_a6 : M_36 a6 = _ := (congrFun eM_36 a6).trans ((va_up_ne _ _ (Ne.symm n_ob_a6)).trans m_a6)
  have m_a7 : M_36 a7 = _ := (congrFun eM_36 a7).trans ((va_up_ne _ _ (Ne.symm n_ob_a7)).trans m_a7)
  have m_a8 : M_36 a8 = _ := (congrFun eM_36 a8).trans ((va_up_ne _ _ (Ne.symm n_ob_a8)).trans m_a8)
  have m_a9 : M_36 a9 = _ := (congrFun eM_36 a9).trans ((va_up_ne _ _ (Ne.symm n_ob_a9)).trans m_a9)
  have m_a10 : M_36 a10 = _ := (congrFun eM_36 a10).trans ((va_up_ne _ _ (Ne.symm n_ob_a10)).trans m_a10)
  have m_a11 : M_36 a11 = _ := (congrFun eM_36 a11).trans ((va_up_ne _ _ (Ne.symm n_ob_a11)).trans m_a11)
  have m_ob : M_36 ob = .inr (5, [.ref a0, .ref a1, .ref a2, .ref a3, .ref a4, .ref a5, .ref a6, .ref a7, .ref a8, .ref a9, .ref a10, .ref a11, .null, .int 0, .int 0, .null, .null, .int 0, .null, .null]) := by rw [eM_36]; exact va_up_self _ _ _
  have fE : ∀ q : Nat, q ∈ L → q ≠ ob → M_36 q = M q := fun q h0 h1 => (congrFun eM_36 q).trans ((va_up_ne _ _ h1).trans (fE q h0 h1))
  refine lv_aload_n hx hb dX5_init_101 rfl (lv_at hl 0 rfl) ?_
  refine lv_bipush (v := 8) hx hb dX5_init_102 (by decide) ?_
  refine mm_newa (atype := .boolean) (ty := .boolean) (N' := 8) hx hb (hts (.arrayClass .boolean) (by decide +kernel)) rfl 3 rfl (fun _ h => h) rfl hK hV (by decide) (by decide +kernel) (by decide +kernel) (by rw [hR]; exact Nat.le_of_ble_eq_true rfl) (by rw [hR]; exact Nat.le_of_ble_eq_true rfl) dX5_init_104 (fun a12 H hq_a12 hV => ?_)
  refine W.widen (k := 13) (n := 794) (Nat.le_refl _) (Nat.le_refl _) ?_
  obtain ⟨L_37, eL_37⟩ : ∃ z, z = L_34 ++ [a12] := ⟨_, rfl⟩
  obtain ⟨M_38, eM_38⟩ : ∃ z, z = va_up M_36 a12 (.inl (dA 3, 8, .inl (fun _ => 0))) := ⟨_, rfl⟩
  rw [← eL_37, ← eM_38] at hV
  have n_ob_a12 : ob ≠ a12 := fun h => hq_a12 (by rw [← h]; exact i_ob)
  have m_ob : M_38 ob = _ := (congrFun eM_38 ob).trans ((va_up_ne _ _ n_ob_a12).trans m_ob)
  have i_ob : ob ∈ L_37 := by rw [eL_37]; exact List.mem_append_left _ i_ob
  have n_a0_a12 : a0 ≠ a12 := fun h => hq_a12 (by rw [← h]; exact i_a0)
  have m_a0 : M_38 a0 = _ := (congrFun eM_38 a0).trans ((va_up_ne _ _ n_a0_a12).trans m_a0)
  have i_a0 : a0 ∈ L_37 := by rw [eL_37]; exact List.mem_append_left _ i_a0
  have n_a1_a12 : a1 ≠ a12 := fun h => hq_a12 (by rw [← h]; exact i_a1)
  have m_a1 : M_38 a1 = _ := (congrFun eM_38 a1).trans ((va_up_ne _ _ n_a1_a12).trans m_a1)
  have i_a1 : a1 ∈ L_37 := by rw [eL_37]; exact List.mem_append_left _ i_a1
  have n_a2_a12 : a2 ≠ a12 := fun h => hq_a12 (by rw [← h]; exact i_a2)
  have m_a2 : M_38 a2 = _ := (congrFun eM_38 a2).trans ((va_up_ne _ _ n_a2_a12).trans m_a2)
  have i_a2 : a2 ∈ L_37 := by rw [eL_37]; exact List.mem_append_left _ i_a2
  have n_a3_a12 : a3 ≠ a12 := fun h => hq_a12 (by rw [← h]; exact i_a3)
  have m_a3 : M_38 a3 = _ := (congrFun eM_38 a3).trans ((va_up_ne _ _ n_a3_a12).trans m_a3)
  have i_a3 : a3 ∈ L_37 := by rw [eL_37]; exact List.mem_append_left _ i_a3
  have n_a4_a12 : a4 ≠ a12 := fun h => hq_a12 (by rw [← h]; exact i_a4)
  have m_a4 : M_38 a4 = _ := (congrFun eM_38 a4).trans ((va_up_ne _ _ n_a4_a12).trans m_a4)
  have i_a4 : a4 ∈ L_37 := by rw [eL_37]; exact List.mem_append_left _ i_a4
  have n_a5_a12 : a5 ≠ a12 := fun h => hq_a12 (by rw [← h]; exact i_a5)
  have m_a5 : M_38 a5 = _ := (congrFun eM_38 a5).trans ((va_up_ne _ _ n_a5_a12).trans m_a5)
  have i_a5 : a5 ∈ L_37 := by rw [eL_37]; exact List.mem_append_left _ i_a5
  have n_a6_a12 : a6 ≠ a12 := fun h => hq_a12 (by rw [← h]; exact i_a6)
  have m_a6 : M_38 a6 = _ := (congrFun eM_38 a6).trans ((va_up_ne _ _ n_a6_a12).trans m_a6)
  have i_a6 : a6 ∈ L_37 := by rw [eL_37]; exact List.mem_append_left _ i_a6
  have n_a7_a12 : a7 ≠ a12 := fun h => hq_a12 (by rw [← h]; exact i_a7)
  have m_a7 : M_38 a7 = _ := (congrFun eM_38 a7).trans ((va_up_ne _ _ n_a7_a12).trans m_a7)
  have i_a7 : a7 ∈ L_37 := by rw [eL_37]; exact List.mem_append_left _ i_a7
  have n_a8_a12 : a8 ≠ a12 := fun h => hq_a12 (by rw [← h]; exact i_a8)
  have m_a8 : M_38 a8 = _ := (congrFun eM_38 a8).trans ((va_up_ne _ _ n_a8_a12).trans m_a8)
  have i_a8 : a8 ∈ L_37 := by rw [eL_37]; exact List.mem_append_left _ i_a8
  have n_a9_a12 : a9 ≠ a12 := fun h => hq_a12 (by rw [← h]; exact i_a9)
  have m_a9 : M_38 a9 = _ := (congrFun eM_38 a9).trans ((va_up_ne _ _ n_a9_a12).trans m_a9)
  have i_a9 : a9 ∈ L_37 := by rw [eL_37]; exact List.mem_append_left _ i_a9
  have n_a10_a12 : a10 ≠ a12 := fun h => hq_a12 (by rw [← h]; exact i_a10)
  have m_a10 : M_38 a10 = _ := (congrFun eM_38 a10).trans ((va_up_ne _ _ n_a10_a12).trans m_a10)
  have i_a10 : a10 ∈ L_37 := by rw [eL_37]; exact List.mem_append_left _ i_a10
  have n_a11_a12 : a11 ≠ a12 := fun h => hq_a12 (by rw [← h]; exact i_a11)
  have m_a11 : M_38 a11 = _ := (congrFun eM_38 a11).trans ((va_up_ne _ _ n_a11_a12).trans m_a11)
  have i_a11 : a11 ∈ L_37 := by rw [eL_37]; exact List.mem_append_left _ i_a11
  have o_a12 : a12 ∉ L := fun h => hq_a12 (hsub a12 h)
  have hsub : ∀ x, x ∈ L → x ∈ L_37 := fun x h => by rw [eL_37]; exact List.mem_append_left _ (hsub x h)
  have i_a12 : a12 ∈ L_37 := by rw [eL_37]; exact List.mem_append_right _ (List.mem_singleton.mpr rfl)
  have m_a12 : M_38 a12 = .inl (dA 3, 8, .inl (fun _ => 0)) := by rw [eM_38]; exact va_up_self _ _ _
  have fE : ∀ q : Nat, q ∈ L → q ≠ ob → M_38 q = M q := fun q h0 h1 => (congrFun eM_38 q).trans ((va_up_ne _ _ (fun h => o_a12 (by rw [← h]; exact h0))).trans (fE q h0 h1))
  refine mm_putF (ci := 5) (v := .ref a12) (fs' := [.ref a0, .ref a1, .ref a2, .ref a3, .ref a4, .ref a5, .ref a6, .ref a7, .ref a8, .ref a9, .ref a10, .ref a11, .ref a12, .int 0, .int 0, .null, .null, .int 0, .null, .null]) (ty := .array .boolean) (C := RX5) (T := TX5) (N := 20) hx hb hts in_X5 tyX5 tyX5_ok nmX5 hown hK hV i_ob m_ob rfl 12 (by decide) f_46 (fun _ h => h) rfl hin rfl (by decide +kernel) rfl rfl (Nat.le_of_ble_eq_true rfl) rfl dX5_init_106 (fun M_39 H locs eM_39 hV => ?_)
  have m_a0 : M_39 a0 = _ := (congrFun eM_39 a0).trans ((va_up_ne _ _ (Ne.symm n_ob_a0)).trans m_a0)
  have m_a1 : M_39 a1 = _ := (congrFun eM_39 a1).trans ((va_up_ne _ _ (Ne.symm n_ob_a1)).trans m_a1)
  have m_a2 : M_39 a2 = _ := (congrFun eM_39 a2).trans ((va_up_ne _ _ (Ne.symm n_ob_a2)).trans m_a2)
  have m_a3 : M_39 a3 = _ := (congrFun eM_39 a3).trans ((va_up_ne _ _ (Ne.symm n_ob_a3)).trans m_a3)
  have m_a4 : M_39 a4 = _ := (congrFun eM_39 a4).trans ((va_up_ne _ _ (Ne.symm n_ob_a4)).trans m_a4)
  have m_a5 : M_39 a5 = _ := (congrFun eM_39 a5).trans ((va_up_ne _ _ (Ne.symm n_ob_a5)).trans m_a5)
  have m_a6 : M_39 a6 = _ := (congrFun eM_39 a6).trans ((va_up_ne _ _ (Ne.symm n_ob_a6)).trans m_a6)
  have m_a7 : M_39 a7 = _ := (congrFun eM_39 a7).trans ((va_up_ne _ _ (Ne.symm n_ob_a7)).trans m_a7)
  have m_a8 : M_39 a8 = _ := (congrFun eM_39 a8).trans ((va_up_ne _ _ (Ne.symm n_ob_a8)).trans m_a8)
  have m_a9 : M_39 a9 = _ := (congrFun eM_39 a9).trans ((va_up_ne _ _ (Ne.symm n_ob_a9)).trans m_a9)
  have m_a10 : M_39 a10 = _ := (congrFun eM_39 a10).trans ((va_up_ne _ _ (Ne.symm n_ob_a10)).trans m_a10)
  have m_a11 : M_39 a11 = _ := (congrFun eM_39 a11).trans ((va_up_ne _ _ (Ne.symm n_ob_a11)).trans m_a11)
  have m_a12 : M_39 a12 = _ := (congrFun eM_39 a12).trans ((va_up_ne _ _ (Ne.symm n_ob_a12)).trans m_a12)
  have m_ob : M_39 ob = .inr (5, [.ref a0, .ref a1, .ref a2, .ref a3, .ref a4, .ref a5, .ref a6, .ref a7, .ref a8, .ref a9, .ref a10, .ref a11, .ref a12, .int 0, .int 0, .null, .null, .int 0, .null, .null]) := by rw [eM_39]; exact va_up_self _ _ _
  have fE : ∀ q : Nat, q ∈ L → q ≠ ob → M_39 q = M q := fun q h0 h1 => (congrFun eM_39 q).trans ((va_up_ne _ _ h1).trans (fE q h0 h1))
  refine lv_aload_n hx hb dX5_init_109 rfl (lv_at hl 0 rfl) ?_
  refine lv_sipush (v := 1800) hx hb dX5_init_110 (by decide) ?_
  refine mm_newa (atype := .int) (ty := .int) (N' := 1800) hx hb (hts (.arrayClass .int) (by decide +kernel)) rfl 0 rfl (fun _ h => h) rfl hK hV (by decide) (by decide +kernel) (by decide +kernel) (by rw [hR]; exact Nat.le_of_ble_eq_true rfl) (by rw [hR]; exact Nat.le_of_ble_eq_true rfl) dX5_init_113 (fun a15 H hq_a15 hV => ?_)
  refine W.widen (k := 14) (n := 2594) (Nat.le_refl _) (Nat.le_refl _) ?_
  obtain ⟨L_40, eL_40⟩ : ∃ z, z = L_37 ++ [a15] := ⟨_, rfl⟩
  obtain ⟨M_41, eM_41⟩ : ∃ z, z = va_up M_39 a15 (.inl (dA 0, 1800, .inl (fun _ => 0))) := ⟨_, rfl⟩
  rw [← eL_40, ← eM_41] at hV
  have n_ob_a15 : ob ≠ a15 := fun h => hq_a15 (by rw [← h]; exact i_ob)
  have m_ob : M_41 ob = _ := (congrFun eM_41 ob).trans ((va_up_ne _ _ n_ob_a15).trans m_ob)
  have i_ob : ob ∈ L_40 := by rw [eL_40]; exact List.mem_append_left _ i_ob
  have n_a0_a15 : a0 ≠ a15 := fun h => hq_a15 (by rw [← h]; exact i_a0)
  have m_a0 : M_41 a0 = _ := (congrFun eM_41 a0).trans ((va_up_ne _ _ n_a0_a15).trans m_a0)
  have i_a0 : a0 ∈ L_40 := by rw [eL_40]; exact List.mem_append_left _ i_a0
  have n_a1_a15 : a1 ≠ a15 := fun h => hq_a15 (by rw [← h]; exact i_a1)
  have m_a1 : M_41 a1 = _ := (congrFun eM_41 a1).trans ((va_up_ne _ _ n_a1_a15).trans m_a1)
  have i_a1 : a1 ∈ L_40 := by rw [eL_40]; exact List.mem_append_left _ i_a1
  have n_a2_a15 : a2 ≠ a15 := fun h => hq_a15 (by rw [← h]; exact i_a2)
  have m_a2 : M_41 a2 = _ := (congrFun eM_41 a2).trans ((va_up_ne _ _ n_a2_a15).trans m_a2)
  have i_a2 : a2 ∈ L_40 := by rw [eL_40]; exact List.mem_append_left _ i_a2
  have n_a3_a15 : a3 ≠ a15 := fun h => hq_a15 (by rw [← h]; exact i_a3)
  have m_a3 : M_41 a3 = _ := (congrFun eM_41 a3).trans ((va_up_ne _ _ n_a3_a15).trans m_a3)
  have i_a3 : a3 ∈ L_40 := by rw [eL_40]; exact List.mem_append_left _ i_a3
  have n_a4_a15 : a4 ≠ a15 := fun h => hq_a15 (by rw [← h]; exact i_a4)
  have m_a4 : M_41 a4 = _ := (congrFun eM_41 a4).trans ((va_up_ne _ _ n_a4_a15).trans m_a4)
  have i_a4 : a4 ∈ L_40 := by rw [eL_40]; exact List.mem_append_left _ i_a4
  have n_a5_a15 : a5 ≠ a15 := fun h => hq_a15 (by rw [← h]; exact i_a5)
  have m_a5 : M_41 a5 = _ := (congrFun eM_41 a5).trans ((va_up_ne _ _ n_a5_a15).trans m_a5)
  have i_a5 : a5 ∈ L_40 := by rw [eL_40]; exact List.mem_append_left _ i_a5
  have n_a6_a15 : a6 ≠ a15 := fun h => hq_a15 (by rw [← h]; exact i_a6)
  have m_a6 : M_41 a6 = _ := (congrFun eM_41 a6).trans ((va_up_ne _ _ n_a6_a15).trans m_a6)
  have i_a6 : a6 ∈ L_40 := by rw [eL_40]; exact List.mem_append_left _ i_a6
  have n_a7_a15 : a7 ≠ a15 := fun h => hq_a15 (by rw [← h]; exact i_a7)
  have m_a7 : M_41 a7 = _ := (congrFun eM_41 a7).trans ((va_up_ne _ _ n_a7_a15).trans m_a7)
  have i_a7 : a7 ∈ L_40 := by rw [eL_40]; exact List.mem_append_left _ i_a7
  have n_a8_a15 : a8 ≠ a15 := fun h => hq_a15 (by rw [← h]; exact i_a8)
  have m_a8 : M_41 a8 = _ := (congrFun eM_41 a8).trans ((va_up_ne _ _ n_a8_a15).trans m_a8)
  have i_a8 : a8 ∈ L_40 := by rw [eL_40]; exact List.mem_append_left _ i_a8
  have n_a9_a15 : a9 ≠ a15 := fun h => hq_a15 (by rw [← h]; exact i_a9)
  have m_a9 : M_41 a9 = _ := (congrFun eM_41 a9).trans ((va_up_ne _ _ n_a9_a15).trans m_a9)
  have i_a9 : a9 ∈ L_40 := by rw [eL_40]; exact List.mem_append_left _ i_a9
  have n_a10_a15 : a10 ≠ a15 := fun h => hq_a15 (by rw [← h]; exact i_a10)
  have m_a10 : M_41 a10 = _ := (congrFun eM_41 a10).trans ((va_up_ne _ _ n_a10_a15).trans m_a10)
  have i_a10 : a10 ∈ L_40 := by rw [eL_40]; exact List.mem_append_left _ i_a10
  have n_a11_a15 : a11 ≠ a15 := fun h => hq_a15 (by rw [← h]; exact i_a11)
  have m_a11 : M_41 a11 = _ := (congrFun eM_41 a11).trans ((va_up_ne _ _ n_a11_a15).trans m_a11)
  have i_a11 : a11 ∈ L_40 := by rw [eL_40]; exact List.mem_append_left _ i_a11
  have n_a12_a15 : a12 ≠ a15 := fun h => hq_a15 (by rw [← h]; exact i_a12)
  have m_a12 : M_41 a12 = _ := (congrFun eM_41 a12).trans ((va_up_ne _ _ n_a12_a15).trans m_a12)
  have i_a12 : a12 ∈ L_40 := by rw [eL_40]; exact List.mem_append_left _ i_a12
  have o_a15 : a15 ∉ L := fun h => hq_a15 (hsub a15 h)
  have hsub : ∀ x, x ∈ L → x ∈ L_40 := fun x h => by rw [eL_40]; exact List.mem_append_left _ (hsub x h)
  have i_a15 : a15 ∈ L_40 := by rw [eL_40]; exact List.mem_append_right _ (List.mem_singleton.mpr rfl)
  have m_a15 : M_41 a15 = .inl (dA 0, 1800, .inl (fun _ => 0)) := by rw [eM_41]; exact va_up_self _ _ _
  have fE : ∀ q : Nat, q ∈ L → q ≠ ob → M_41 q = M q := fun q h0 h1 => (congrFun eM_41 q).trans ((va_up_ne _ _ (fun h => o_a15 (by rw [← h]; exact h0))).trans (fE q h0 h1))
  refine mm_putF (ci := 5) (v := .ref a15) (fs' := [.ref a0, .ref a1, .ref a2, .ref a3, .ref a4, .ref a5, .ref a6, .ref a7, .ref a8, .ref a9, .ref a10, .ref a11, .ref a12, .int 0, .int 0, .ref a15, .null, .int 0, .null, .null]) (ty := .array .int) (C := RX5) (T := TX5) (N := 20) hx hb hts in_X5 tyX5 tyX5_ok nmX5 hown hK hV i_ob m_ob rfl 15 (by decide) f_50 (fun _ h => h) rfl hin rfl (by decide +kernel) rfl rfl (Nat.le_of_ble_eq_true rfl) rfl dX5_init_115 (fun M_42 H locs eM_42 hV => ?_)
  have m_a0 : M_42 a0 = _ := (congrFun eM_42 a0).trans ((va_up_ne _ _ (Ne.symm n_ob_a0)).trans m_a0)
  have m_a1 : M_42 a1 = _ := (congrFun eM_42 a1).trans ((va_up_ne _ _ (Ne.symm n_ob_a1)).trans m_a1)
  have m_a2 : M_42 a2 = _ := (congrFun eM_42 a2).trans ((va_up_ne _ _ (Ne.symm n_ob_a2)).trans m_a2)
  have m_a3 : M_42 a3 = _ := (congrFun eM_42 a3).trans ((va_up_ne _ _ (Ne.symm n_ob_a3)).trans m_a3)
  have m_a4 : M_42 a4 = _ := (congrFun eM_42 a4).trans ((va_up_ne _ _ (Ne.symm n_ob_a4)).trans m_a4)
  have m_a5 : M_42 a5 = _ := (congrFun eM_42 a5).trans ((va_up_ne _ _ (Ne.symm n_ob_a5)).trans m_a5)
  have m_a6 : M_42 a6 = _ := (congrFun eM_42 a6).trans ((va_up_ne _ _ (Ne.symm n_ob_a6)).trans m_a6)
  have m_a7 : M_42 a7 = _ := (congrFun eM_42 a7).trans ((va_up_ne _ _ (Ne.symm n_ob_a7)).trans m_a7)
  have m_a8 : M_42 a8 = _ := (congrFun eM_42 a8).trans ((va_up_ne _ _ (Ne.symm n_ob_a8)).trans m_a8)
  have m_a9 : M_42 a9 = _ := (congrFun eM_42 a9).trans ((va_up_ne _ _ (Ne.symm n_ob_a9)).trans m_a9)
  have m_a10 : M_42 a10 = _ := (congrFun eM_42 a10).trans ((va_up_ne _ _ (Ne.symm n_ob_a10)).trans m_a10)
  have m_a11 : M_42 a11 = _ := (congrFun eM_42 a11).trans ((va_up_ne _ _ (Ne.symm n_ob_a11)).trans m_a11)
  have m_a12 : M_42 a12 = _ := (congrFun eM_42 a12).trans ((va_up_ne _ _ (Ne.symm n_ob_a12)).trans m_a12)
  have m_a15 : M_42 a15 = _ := (congrFun eM_42 a15).trans ((va_up_ne _ _ (Ne.symm n_ob_a15)).trans m_a15)
  have m_ob : M_42 ob = .inr (5, [.ref a0, .ref a1, .ref a2, .ref a3, .ref a4, .ref a5, .ref a6, .ref a7, .ref a8, .ref a9, .ref a10, .ref a11, .ref a12, .int 0, .int 0, .ref a15, .null, .int 0, .null, .null]) := by rw [eM_42]; exact va_up_self _ _ _
  have fE : ∀ q : Nat, q ∈ L → q ≠ ob → M_42 q = M q := fun q h0 h1 => (congrFun eM_42 q).trans ((va_up_ne _ _ h1).trans (fE q h0 h1))
  refine lv_aload_n hx hb dX5_init_118 rfl (lv_at hl 0 rfl) ?_
  refine lv_bipush (v := 100) hx hb dX5_init_119 (by decide) ?_
  refine mm_newa (atype := .int) (ty := .int) (N' := 100) hx hb (hts (.arrayClass .int) (by decide +kernel)) rfl 0 rfl (fun _ h => h) rfl hK hV (by decide) (by decide +kernel) (by decide +kernel) (by rw [hR]; exact Nat.le_of_ble_eq_true rfl) (by rw [hR]; exact Nat.le_of_ble_eq_true rfl) dX5_init_121 (fun a16 H hq_a16 hV => ?_)
  refine W.widen (k := 15) (n := 2694) (Nat.le_refl _) (Nat.le_refl _) ?_
  obtain ⟨L_43, eL_43⟩ : ∃ z, z = L_40 ++ [a16] := ⟨_, rfl⟩
  obtain ⟨M_44, eM_44⟩ : ∃ z, z = va_up M_42 a16 (.inl (dA 0, 100, .inl (fun _ => 0))) := ⟨_, rfl⟩
  rw [← eL_43, ← eM_44] at hV
  have n_ob_a16 : ob ≠ a16 := fun h => hq_a16 (by rw [← h]; exact i_ob)
  have m_ob : M_44 ob = _ := (congrFun eM_44 ob).trans ((va_up_ne _ _ n_ob_a16).trans m_ob)
  have i_ob : ob ∈ L_43 := by rw [eL_43]; exact List.mem_append_left _ i_ob
  have n_a0_a16 : a0 ≠ a16 := fun h => hq_a16 (by rw [← h]; exact i_a0)
  have m_a0 : M_44 a0 = _ := (congrFun eM_44 a0).trans ((va_up_ne _ _ n_a0_a16).trans m_a0)
  have i_a0 : a0 ∈ L_43 := by rw [eL_43]; exact List.mem_append_left _ i_a0
  have n_a1_a16 : a1 ≠ a16 := fun h => hq_a16 (by rw [← h]; exact i_a1)
  have m_a1 : M_44 a1 = _ := (congrFun eM_44 a1).trans ((va_up_ne _ _ n_a1_a16).trans m_a1)
  have i_a1 : a1 ∈ L_43 := by rw [eL_43]; exact List.mem_append_left _ i_a1
  have n_a2_a16 : a2 ≠ a16 := fun h => hq_a16 (by rw [← h]; exact i_a2)
  have m_a2 : M_44 a2 = _ := (congrFun eM_44 a2).trans ((va_up_ne _ _ n_a2_a16).trans m_a2)
  have i_a2 : a2 ∈ L_43 := by rw [eL_43]; exact List.mem_append_left _ i_a2
  have n_a3_a16 : a3 ≠ a16 := fun h => hq_a16 (by rw [← h]; exact i_a3)
  have m_a3 : M_44 a3 = _ := (congrFun eM_44 a3).trans ((va_up_ne _ _ n_a3_a16).trans m_a3)
  have i_a3 : a3 ∈ L_43 := by rw [eL_43]; exact List.mem_append_left _ i_a3
  have n_a4_a16 : a4 ≠ a16 := fun h => hq_a16 (by rw [← h]; exact i_a4)
  have m_a4 : M_44 a4 = _ := (congrFun eM_44 a4).trans ((va_up_ne _ _ n_a4_a16).trans m_a4)
  have i_a4 : a4 ∈ L_43 := by rw [eL_43]; exact List.mem_append_left _ i_a4
  have n_a5_a16 : a5 ≠ a16 := fun h => hq_a16 (by rw [← h]; exact i_a5)
  have m_a5 : M_44 a5 = _ := (congrFun eM_44 a5).trans ((va_up_ne _ _ n_a5_a16).trans m_a5)
  have i_a5 : a5 ∈ L_43 := by rw [eL_43]; exact List.mem_append_left _ i_a5
  have n_a6_a16 : a6 ≠ a16 := fun h => hq_a16 (by rw [← h]; exact i_a6)
  have m_a6 : M_44 a6 = _ := (congrFun eM_44 a6).trans ((va_up_ne _ _ n_a6_a16).trans m_a6)
  have i_a6 : a6 ∈ L_43 := by rw [eL_43]; exact List.mem_append_left _ i_a6
  have n_a7_a16 : a7 ≠ a16 := fun h => hq_a16 (by rw [← h]; exact i_a7)
  have m_a7 : M_44 a7 = _ := (congrFun eM_44 a7).trans ((va_up_ne _ _ n_a7_a16).trans m_a7)
  have i_a7 : a7 ∈ L_43 := by rw [eL_43]; exact List.mem_append_left _ i_a7
  have n_a8_a16 : a8 ≠ a16 := fun h => hq_a16 (by rw [← h]; exact i_a8)
  have m_a8 : M_44 a8 = _ := (congrFun eM_44 a8).trans ((va_up_ne _ _ n_a8_a16).trans m_a8)
  have i_a8 : a8 ∈ L_43 := by rw [eL_43]; exact List.mem_append_left _ i_a8
  have n_a9_a16 : a9 ≠ a16 := fun h => hq_a16 (by rw [← h]; exact i_a9)
  have m_a9 : M_44 a9 = _ := (congrFun eM_44 a9).trans ((va_up_ne _ _ n_a9_a16).trans m_a9)
  have i_a9 : a9 ∈ L_43 := by rw [eL_43]; exact List.mem_append_left _ i_a9
  have n_a10_a16 : a10 ≠ a16 := fun h => hq_a16 (by rw [← h]; exact i_a10)
  have m_a10 : M_44 a10 = _ := (congrFun eM_44 a10).trans ((va_up_ne _ _ n_a10_a16).trans m_a10)
  have i_a10 : a10 ∈ L_43 := by rw [eL_43]; exact List.mem_append_left _ i_a10
  have n_a11_a16 : a11 ≠ a16 := fun h => hq_a16 (by rw [← h]; exact i_a11)
  have m_a11 : M_44 a11 = _ := (congrFun eM_44 a11).trans ((va_up_ne _ _ n_a11_a16).trans m_a11)
  have i_a11 : a11 ∈ L_43 := by rw [eL_43]; exact List.mem_append_left _ i_a11
  have n_a12_a16 : a12 ≠ a16 := fun h => hq_a16 (by rw [← h]; exact i_a12)
  have m_a12 : M_44 a12 = _ := (congrFun eM_44 a12).trans ((va_up_ne _ _ n_a12_a16).trans m_a12)
  have i_a12 : a12 ∈ L_43 := by rw [eL_43]; exact List.mem_append_left _ i_a12
  have n_a15_a16 : a15 ≠ a16 := fun h => hq_a16 (by rw [← h]; exact i_a15)
  have m_a15 : M_44 a15 = _ := (congrFun eM_44 a15).trans ((va_up_ne _ _ n_a15_a16).trans m_a15)
  have i_a15 : a15 ∈ L_43 := by rw [eL_43]; exact List.mem_append_left _ i_a15
  have o_a16 : a16 ∉ L := fun h => hq_a16 (hsub a16 h)
  have hsub : ∀ x, x ∈ L → x ∈ L_43 := fun x h => by rw [eL_43]; exact List.mem_append_left _ (hsub x h)
  have i_a16 : a16 ∈ L_43 := by rw [eL_43]; exact List.mem_append_right _ (List.mem_singleton.mpr rfl)
  have m_a16 : M_44 a16 = .inl (dA 0, 100, .inl (fun _ => 0)) := by rw [eM_44]; exact va_up_self _ _ _
  have fE : ∀ q : Nat, q ∈ L → q ≠ ob → M_44 q = M q := fun q h0 h1 => (congrFun eM_44 q).trans ((va_up_ne _ _ (fun h => o_a16 (by rw [← h]; exact h0))).trans (fE q h0 h1))
  refine mm_putF (ci := 5) (v := .ref a16) (fs' := [.ref a0, .ref a1, .ref a2, .ref a3, .ref a4, .ref a5, .ref a6, .ref a7, .ref a8, .ref a9, .ref a10, .ref a11, .ref a12, .int 0, .int 0, .ref a15, .ref a16, .int 0, .null, .null]) (ty := .array .int) (C := RX5) (T := TX5) (N := 20) hx hb hts in_X5 tyX5 tyX5_ok nmX5 hown hK hV i_ob m_ob rfl 16 (by decide) f_53 (fun _ h => h) rfl hin rfl (by decide +kernel) rfl rfl (Nat.le_of_ble_eq_true rfl) rfl dX5_init_123 (fun M_45 H locs eM_45 hV => ?_)
  have m_a0 : M_45 a0 = _ := (congrFun eM_45 a0).trans ((va_up_ne _ _ (Ne.symm n_ob_a0)).trans m_a0)
  have m_a1 : M_45 a1 = _ := (congrFun eM_45 a1).trans ((va_up_ne _ _ (Ne.symm n_ob_a1)).trans m_a1)
  have m_a2 : M_45 a2 = _ := (congrFun eM_45 a2).trans ((va_up_ne _ _ (Ne.symm n_ob_a2)).trans m_a2)
  have m_a3 : M_45 a3 = _ := (congrFun eM_45 a3).trans ((va_up_ne _ _ (Ne.symm n_ob_a3)).trans m_a3)
  have m_a4 : M_45 a4 = _ := (congrFun eM_45 a4).trans ((va_up_ne _ _ (Ne.symm n_ob_a4)).trans m_a4)
  have m_a5 : M_45 a5 = _ := (congrFun eM_45 a5).trans ((va_up_ne _ _ (Ne.symm n_ob_a5)).trans m_a5)
  have m_a6 : M_45 a6 = _ := (congrFun eM_45 a6).trans ((va_up_ne _ _ (Ne.symm n_ob_a6)).trans m_a6)
  have m_a7 : M_45 a7 = _ := (congrFun eM_45 a7).trans ((va_up_ne _ _ (Ne.symm n_ob_a7)).trans m_a7)
  have m_a8 : M_45 a8 = _ := (congrFun eM_45 a8).trans ((va_up_ne _ _ (Ne.symm n_ob_a8)).trans m_a8)
  have m_a9 : M_45 a9 = _ := (congrFun eM_45 a9).trans ((va_up_ne _ _ (Ne.symm n_ob_a9)).trans m_a9)
  have m_a10 : M_45 a10 = _ := (congrFun eM_45 a10).trans ((va_up_ne _ _ (Ne.symm n_ob_a10)).trans m_a10)
  have m_a11 : M_45 a11 = _ := (congrFun eM_45 a11).trans ((va_up_ne _ _ (Ne.symm n_ob_a11)).trans m_a11)
  have m_a12 : M_45 a12 = _ := (congrFun eM_45 a12).trans ((va_up_ne _ _ (Ne.symm n_ob_a12)).trans m_a12)
  have m_a15 : M_45 a15 = _ := (congrFun eM_45 a15).trans ((va_up_ne _ _ (Ne.symm n_ob_a15)).trans m_a15)
  have m_a16 : M_45 a16 = _ := (congrFun eM_45 a16).trans ((va_up_ne _ _ (Ne.symm n_ob_a16)).trans m_a16)
  have m_ob : M_45 ob = .inr (5, [.ref a0, .ref a1, .ref a2, .ref a3, .ref a4, .ref a5, .ref a6, .ref a7, .ref a8, .ref a9, .ref a10, .ref a11, .ref a12, .int 0, .int 0, .ref a15, .ref a16, .int 0, .null, .null]) := by rw [eM_45]; exact va_up_self _ _ _
  have fE : ∀ q : Nat, q ∈ L → q ≠ ob → M_45 q = M q := fun q h0 h1 => (congrFun eM_45 q).trans ((va_up_ne _ _ h1).trans (fE q h0 h1))
  refine lv_aload_n hx hb dX5_init_126 rfl (lv_at hl 0 rfl) ?_
  refine lv_sipush (v := 10368) hx hb dX5_init_127 (by decide) ?_
  refine mm_newa (atype := .int) (ty := .int) (N' := 10368) hx hb (hts (.arrayClass .int) (by decide +kernel)) rfl 0 rfl (fun _ h => h) rfl hK hV (by decide) (by decide +kernel) (by decide +kernel) (by rw [hR]; exact Nat.le_of_ble_eq_true rfl) (by rw [hR]; exact Nat.le_of_ble_eq_true rfl) dX5_init_130 (fun a18 H hq_a18 hV => ?_)
  refine W.widen (k := 16) (n := 13062) (Nat.le_refl _) (Nat.le_refl _) ?_
  obtain ⟨L_46, eL_46⟩ : ∃ z, z = L_43 ++ [a18] := ⟨_, rfl⟩
  obtain ⟨M_47, eM_47⟩ : ∃ z, z = va_up M_45 a18 (.inl (dA 0, 10368, .inl (fun _ => 0))) := ⟨_, rfl⟩
  rw [← eL_46, ← eM_47] at hV
  have n_ob_a18 : ob ≠ a18 := fun h => hq_a18 (by rw [← h]; exact i_ob)
  have m_ob : M_47 ob = _ := (congrFun eM_47 ob).trans ((va_up_ne _ _ n_ob_a18).trans m_ob)
  have i_ob : ob ∈ L_46 := by rw [eL_46]; exact List.mem_append_left _ i_ob
  have n_a0_a18 : a0 ≠ a18 := fun h => hq_a18 (by rw [← h]; exact i_a0)
  have m_a0 : M_47 a0 = _ := (congrFun eM_47 a0).trans ((va_up_ne _ _ n_a0_a18).trans m_a0)
  have i_a0 : a0 ∈ L_46 := by rw [eL_46]; exact List.mem_append_left _ i_a0
  have n_a1_a18 : a1 ≠ a18 := fun h => hq_a18 (by rw [← h]; exact i_a1)
  have m_a1 : M_47 a1 = _ := (congrFun eM_47 a1).trans ((va_up_ne _ _ n_a1_a18).trans m_a1)
  have i_a1 : a1 ∈ L_46 := by rw [eL_46]; exact List.mem_append_left _ i_a1
  have n_a2_a18 : a2 ≠ a18 := fun h => hq_a18 (by rw [← h]; exact i_a2)
  have m_a2 : M_47 a2 = _ := (congrFun eM_47 a2).trans ((va_up_ne _ _ n_a2_a18).trans m_a2)
  have i_a2 : a2 ∈ L_46 := by rw [eL_46]; exact List.mem_append_left _ i_a2
  have n_a3_a18 : a3 ≠ a18 := fun h => hq_a18 (by rw [← h]; exact i_a3)
  have m_a3 : M_47 a3 = _ := (congrFun eM_47 a3).trans ((va_up_ne _ _ n_a3_a18).trans m_a3)
  have i_a3 : a3 ∈ L_46 := by rw [eL_46]; exact List.mem_append_left _ i_a3
  have n_a4_a18 : a4 ≠ a18 := fun h => hq_a18 (by rw [← h]; exact i_a4)
  have m_a4 : M_47 a4 = _ := (congrFun eM_47 a4).trans ((va_up_ne _ _ n_a4_a18).trans m_a4)
  have i_a4 : a4 ∈ L_46 := by rw [eL_46]; exact List.mem_append_left _ i_a4
  have n_a5_a18 : a5 ≠ a18 := fun h => hq_a18 (by rw [← h]; exact i_a5)
  have m_a5 : M_47 a5 = _ := (congrFun eM_47 a5).trans ((va_up_ne _ _ n_a5_a18).trans m_a5)
  have i_a5 : a5 ∈ L_46 := by rw [eL_46]; exact List.mem_append_left _ i_a5
  have n_a6_a18 : a6 ≠ a18 := fun h => hq_a18 (by rw [← h]; exact i_a6)
  have m_a6 : M_47 a6 = _ := (congrFun eM_47 a6).trans ((va_up_ne _ _ n_a6_a18).trans m_a6)
  have i_a6 : a6 ∈ L_46 := by rw [eL_46]; exact List.mem_append_left _ i_a6
  have n_a7_a18 : a7 ≠ a18 := fun h => hq_a18 (by rw [← h]; exact i_a7)
  have m_a7 : M_47 a7 = _ := (congrFun eM_47 a7).trans ((va_up_ne _ _ n_a7_a18).trans m_a7)
  have i_a7 : a7 ∈ L_46 := by rw [eL_46]; exact List.mem_append_left _ i_a7
  have n_a8_a18 : a8 ≠ a18 := fun h => hq_a18 (by rw [← h]; exact i_a8)
  have m_a8 : M_47 a8 = _ := (congrFun eM_47 a8).trans ((va_up_ne _ _ n_a8_a18).trans m_a8)
  have i_a8 : a8 ∈ L_46 := by rw [eL_46]; exact List.mem_append_left _ i_a8
  have n_a9_a18 : a9 ≠ a18 := fun h => hq_a18 (by rw [← h]; exact i_a9)
  have m_a9 : M_47 a9 = _ := (congrFun eM_47 a9).trans ((va_up_ne _ _ n_a9_a18).trans m_a9)
  have i_a9 : a9 ∈ L_46 := by rw [eL_46]; exact List.mem_append_left _ i_a9
  have n_a10_a18 : a10 ≠ a18 := fun h => hq_a18 (by rw [← h]; exact i_a10)
  have m_a10 : M_47 a10 = _ := (congrFun eM_47 a10).trans ((va_up_ne _ _ n_a10_a18).trans m_a10)
  have i_a10 : a10 ∈ L_46 := by rw [eL_46]; exact List.mem_append_left _ i_a10
  have n_a11_a18 : a11 ≠ a18 := fun h => hq_a18 (by rw [← h]; exact i_a11)
  have m_a11 : M_47 a11 = _ := (congrFun eM_47 a11).trans ((va_up_ne _ _ n_a11_a18).trans m_a11)
  have i_a11 : a11 ∈ L_46 := by rw [eL_46]; exact List.mem_append_left _ i_a11
  have n_a12_a18 : a12 ≠ a18 := fun h => hq_a18 (by rw [← h]; exact i_a12)
  have m_a12 : M_47 a12 = _ := (congrFun eM_47 a12).trans ((va_up_ne _ _ n_a12_a18).trans m_a12)
  have i_a12 : a12 ∈ L_46 := by rw [eL_46]; exact List.mem_append_left _ i_a12
  have n_a15_a18 : a15 ≠ a18 := fun h => hq_a18 (by rw [← h]; exact i_a15)
  have m_a15 : M_47 a15 = _ := (congrFun eM_47 a15).trans ((va_up_ne _ _ n_a15_a18).trans m_a15)
  have i_a15 : a15 ∈ L_46 := by rw [eL_46]; exact List.mem_append_left _ i_a15
  have n_a16_a18 : a16 ≠ a18 := fun h => hq_a18 (by rw [← h]; exact i_a16)
  have m_a16 : M_47 a16 = _ := (congrFun eM_47 a16).trans ((va_up_ne _ _ n_a16_a18).trans m_a16)
  have i_a16 : a16 ∈ L_46 := by rw [eL_46]; exact List.mem_append_left _ i_a16
  have o_a18 : a18 ∉ L := fun h => hq_a18 (hsub a18 h)
  have hsub : ∀ x, x ∈ L → x ∈ L_46 := fun x h => by rw [eL_46]; exact List.mem_append_left _ (hsub x h)
  have i_a18 : a18 ∈ L_46 := by rw [eL_46]; exact List.mem_append_right _ (List.mem_singleton.mpr rfl)
  have m_a18 : M_47 a18 = .inl (dA 0, 10368, .inl (fun _ => 0)) := by rw [eM_47]; exact va_up_self _ _ _
  have fE : ∀ q : Nat, q ∈ L → q ≠ ob → M_47 q = M q := fun q h0 h1 => (congrFun eM_47 q).trans ((va_up_ne _ _ (fun h => o_a18 (by rw [← h]; exact h0))).trans (fE q h0 h1))
  refine mm_putF (ci := 5) (v := .ref a18) (fs' := [.ref a0, .ref a1, .ref a2, .ref a3, .ref a4, .ref a5, .ref a6, .ref a7, .ref a8, .ref a9, .ref a10, .ref a11, .ref a12, .int 0, .int 0, .ref a15, .ref a16, .int 0, .ref a18, .null]) (ty := .array .int) (C := RX5) (T := TX5) (N := 20) hx hb hts in_X5 tyX5 tyX5_ok nmX5 hown hK hV i_ob m_ob rfl 18 (by decide) f_56 (fun _ h => h) rfl hin rfl (by decide +kernel) rfl rfl (Nat.le_of_ble_eq_true rfl) rfl dX5_init_132 (fun M_48 H locs eM_48 hV => ?_)
  have m_a0 : M_48 a0 = _ := (congrFun eM_48 a0).trans ((va_up_ne _ _ (Ne.symm n_ob_a0)).trans m_a0)
  have m_a1 : M_48 a1 = _ := (congrFun eM_48 a1).trans ((va_up_ne _ _ (Ne.symm n_ob_a1)).trans m_a1)
  have m_a2 : M_48 a2 = _ := (congrFun eM_48 a2).trans ((va_up_ne _ _ (Ne.symm n_ob_a2)).trans m_a2)
  have m_a3 : M_48 a3 = _ := (congrFun eM_48 a3).trans ((va_up_ne _ _ (Ne.symm n_ob_a3)).trans m_a3)
  have m_a4 : M_48 a4 = _ := (congrFun eM_48 a4).trans ((va_up_ne _ _ (Ne.symm n_ob_a4)).trans m_a4)
  have m_a5 : M_48 a5 = _ := (congrFun eM_48 a5).trans ((va_up_ne _ _ (Ne.symm n_ob_a5)).trans m_a5)
  have m_a6 : M_48 a6 = _ := (congrFun eM_48 a6).trans ((va_up_ne _ _ (Ne.symm n_ob_a6)).trans m_a6)
  have m_a7 : M_48 a7 = _ := (congrFun eM_48 a7).trans ((va_up_ne _ _ (Ne.symm n_ob_a7)).trans m_a7)
  have m_a8 : M_48 a8 = _ := (congrFun eM_48 a8).trans ((va_up_ne _ _ (Ne.symm n_ob_a8)).trans m_a8)
  have m_a9 : M_48 a9 = _ := (congrFun eM_48 a9).trans ((va_up_ne _ _ (Ne.symm n_ob_a9)).trans m_a9)
  have m_a10 : M_48 a10 = _ := (congrFun eM_48 a10).trans ((va_up_ne _ _ (Ne.symm n_ob_a10)).trans m_a10)
  have m_a11 : M_48 a11 = _ := (congrFun eM_48 a11).trans ((va_up_ne _ _ (Ne.symm n_ob_a11)).trans m_a11)
  have m_a12 : M_48 a12 = _ := (congrFun eM_48 a12).trans ((va_up_ne _ _ (Ne.symm n_ob_a12)).trans m_a12)
  have m_a15 : M_48 a15 = _ := (congrFun eM_48 a15).trans ((va_up_ne _ _ (Ne.symm n_ob_a15)).trans m_a15)
  have m_a16 : M_48 a16 = _ := (congrFun eM_48 a16).trans ((va_up_ne _ _ (Ne.symm n_ob_a16)).trans m_a16)
  have m_a18 : M_48 a18 = _ := (congrFun eM_48 a18).trans ((va_up_ne _ _ (Ne.symm n_ob_a18)).trans m_a18)
  have m_ob : M_48 ob = .inr (5, [.ref a0, .ref a1, .ref a2, .ref a3, .ref a4, .ref a5, .ref a6, .ref a7, .ref a8, .ref a9, .ref a10, .ref a11, .ref a12, .int 0, .int 0, .ref a15, .ref a16, .int 0, .ref a18, .null]) := by rw [eM_48]; exact va_up_self _ _ _
  have fE : ∀ q : Nat, q ∈ L → q ≠ ob → M_48 q = M q := fun q h0 h1 => (congrFun eM_48 q).trans ((va_up_ne _ _ h1).trans (fE q h0 h1))
  refine lv_aload_n hx hb dX5_init_135 rfl (lv_at hl 0 rfl) ?_
  refine lv_sipush (v := 2592) hx hb dX5_init_136 (by decide) ?_
  refine mm_newa (atype := .int) (ty := .int) (N' := 2592) hx hb (hts (.arrayClass .int) (by decide +kernel)) rfl 0 rfl (fun _ h => h) rfl hK hV (by decide) (by decide +kernel) (by decide +kernel) (by rw [hR]; exact Nat.le_of_ble_eq_true rfl) (by rw [hR]; exact Nat.le_of_ble_eq_true rfl) dX5_init_139 (fun a19 H hq_a19 hV => ?_)
  refine W.widen (k := 17) (n := 15654) (Nat.le_refl _) (Nat.le_refl _) ?_
  obtain ⟨L_49, eL_49⟩ : ∃ z, z = L_46 ++ [a19] := ⟨_, rfl⟩
  obtain ⟨M_50, eM_50⟩ : ∃ z, z = va_up M_48 a19 (.inl (dA 0, 2592, .inl (fun _ => 0))) := ⟨_, rfl⟩
  rw [← eL_49, ← eM_50] at hV
  have n_ob_a19 : ob ≠ a19 := fun h => hq_a19 (by rw [← h]; exact i_ob)
  have m_ob : M_50 ob = _ := (congrFun eM_50 ob).trans ((va_up_ne _ _ n_ob_a19).trans m_ob)
  have i_ob : ob ∈ L_49 := by rw [eL_49]; exact List.mem_append_left _ i_ob
  have n_a0_a19 : a0 ≠ a19 := fun h => hq_a19 (by rw [← h]; exact i_a0)
  have m_a0 : M_50 a0 = _ := (congrFun eM_50 a0).trans ((va_up_ne _ _ n_a0_a19).trans m_a0)
  have i_a0 : a0 ∈ L_49 := by rw [eL_49]; exact List.mem_append_left _ i_a0
  have n_a1_a19 : a1 ≠ a19 := fun h => hq_a19 (by rw [← h]; exact i_a1)
  have m_a1 : M_50 a1 = _ := (congrFun eM_50 a1).trans ((va_up_ne _ _ n_a1_a19).trans m_a1)
  have i_a1 : a1 ∈ L_49 := by rw [eL_49]; exact List.mem_append_left _ i_a1
  have n_a2_a19 : a2 ≠ a19 := fun h => hq_a19 (by rw [← h]; exact i_a2)
  have m_a2 : M_50 a2 = _ := (congrFun eM_50 a2).trans ((va_up_ne _ _ n_a2_a19).trans m_a2)
  have i_a2 : a2 ∈ L_49 := by rw [eL_49]; exact List.mem_append_left _ i_a2
  have n_a3_a19 : a3 ≠ a19 := fun h => hq_a19 (by rw [← h]; exact i_a3)
  have m_a3 : M_50 a3 = _ := (congrFun eM_50 a3).trans ((va_up_ne _ _ n_a3_a19).trans m_a3)
  have i_a3 : a3 ∈ L_49 := by rw [eL_49]; exact List.mem_append_left _ i_a3
  have n_a4_a19 : a4 ≠ a19 := fun h => hq_a19 (by rw [← h]; exact i_a4)
  have m_a4 : M_50 a4 = _ := (congrFun eM_50 a4).trans ((va_up_ne _ _ n_a4_a19).trans m_a4)
  have i_a4 : a4 ∈ L_49 := by rw [eL_49]; exact List.mem_append_left _ i_a4
  have n_a5_a19 : a5 ≠ a19 := fun h => hq_a19 (by rw [← h]; exact i_a5)
  have m_a5 : M_50 a5 = _ := (congrFun eM_50 a5).trans ((va_up_ne _ _ n_a5_a19).trans m_a5)
  have i_a5 : a5 ∈ L_49 := by rw [eL_49]; exact List.mem_append_left _ i_a5
  have n_a6_a19 : a6 ≠ a19 := fun h => hq_a19 (by rw [← h]; exact i_a6)
  have m_a6 : M_50 a6 = _ := (congrFun eM_50 a6).trans ((va_up_ne _ _ n_a6_a19).trans m_a6)
  have i_a6 : a6 ∈ L_49 := by rw [eL_49]; exact List.mem_append_left _ i_a6
  have n_a7_a19 : a7 ≠ a19 := fun h => hq_a19 (by rw [← h]; exact i_a7)
  have m_a7 : M_50 a7 = _ := (congrFun eM_50 a7).trans ((va_up_ne _ _ n_a7_a19).trans m_a7)
  have i_a7 : a7 ∈ L_49 := by rw [eL_49]; exact List.mem_append_left _ i_a7
  have n_a8_a19 : a8 ≠ a19 := fun h => hq_a19 (by rw [← h]; exact i_a8)
  have m_a8 : M_50 a8 = _ := (congrFun eM_50 a8).trans ((va_up_ne _ _ n_a8_a19).trans m_a8)
  have i_a8 : a8 ∈ L_49 := by rw [eL_49]; exact List.mem_append_left _ i_a8
  have n_a9_a19 : a9 ≠ a19 := fun h => hq_a19 (by rw [← h]; exact i_a9)
  have m_a9 : M_50 a9 = _ := (congrFun eM_50 a9).trans ((va_up_ne _ _ n_a9_a19).trans m_a9)
  have i_a9 : a9 ∈ L_49 := by rw [eL_49]; exact List.mem_append_left _ i_a9
  have n_a10_a19 : a10 ≠ a19 := fun h => hq_a19 (by rw [← h]; exact i_a10)
  have m_a10 : M_50 a10 = _ := (congrFun eM_50 a10).trans ((va_up_ne _ _ n_a10_a19).trans m_a10)
  have i_a10 : a10 ∈ L_49 := by rw [eL_49]; exact List.mem_append_left _ i_a10
  have n_a11_a19 : a11 ≠ a19 := fun h => hq_a19 (by rw [← h]; exact i_a11)
  have m_a11 : M_50 a11 = _ := (congrFun eM_50 a11).trans ((va_up_ne _ _ n_a11_a19).trans m_a11)
  have i_a11 : a11 ∈ L_49 := by rw [eL_49]; exact List.mem_append_left _ i_a11
  have n_a12_a19 : a12 ≠ a19 := fun h => hq_a19 (by rw [← h]; exact i_a12)
  have m_a12 : M_50 a12 = _ := (congrFun eM_50 a12).trans ((va_up_ne _ _ n_a12_a19).trans m_a12)
  have i_a12 : a12 ∈ L_49 := by rw [eL_49]; exact List.mem_append_left _ i_a12
  have n_a15_a19 : a15 ≠ a19 := fun h => hq_a19 (by rw [← h]; exact i_a15)
  have m_a15 : M_50 a15 = _ := (congrFun eM_50 a15).trans ((va_up_ne _ _ n_a15_a19).trans m_a15)
  have i_a15 : a15 ∈ L_49 := by rw [eL_49]; exact List.mem_append_left _ i_a15
  have n_a16_a19 : a16 ≠ a19 := fun h => hq_a19 (by rw [← h]; exact i_a16)
  have m_a16 : M_50 a16 = _ := (congrFun eM_50 a16).trans ((va_up_ne _ _ n_a16_a19).trans m_a16)
  have i_a16 : a16 ∈ L_49 := by rw [eL_49]; exact List.mem_append_left _ i_a16
  have n_a18_a19 : a18 ≠ a19 := fun h => hq_a19 (by rw [← h]; exact i_a18)
  have m_a18 : M_50 a18 = _ := (congrFun eM_50 a18).trans ((va_up_ne _ _ n_a18_a19).trans m_a18)
  have i_a18 : a18 ∈ L_49 := by rw [eL_49]; exact List.mem_append_left _ i_a18
  have o_a19 : a19 ∉ L := fun h => hq_a19 (hsub a19 h)
  have hsub : ∀ x, x ∈ L → x ∈ L_49 := fun x h => by rw [eL_49]; exact List.mem_append_left _ (hsub x h)
  have i_a19 : a19 ∈ L_49 := by rw [eL_49]; exact List.mem_append_right _ (List.mem_singleton.mpr rfl)
  have m_a19 : M_50 a19 = .inl (dA 0, 2592, .inl (fun _ => 0)) := by rw [eM_50]; exact va_up_self _ _ _
  have fE : ∀ q : Nat, q ∈ L → q ≠ ob → M_50 q = M q := fun q h0 h1 => (congrFun eM_50 q).trans ((va_up_ne _ _ (fun h => o_a19 (by rw [← h]; exact h0))).trans (fE q h0 h1))
  refine mm_putF (ci := 5) (v := .ref a19) (fs' := [.ref a0, .ref a1, .ref a2, .ref a3, .ref a4, .ref a5, .ref a6, .ref a7, .ref a8, .ref a9, .ref a10, .ref a11, .ref a12, .int 0, .int 0, .ref a15, .ref a16, .int 0, .ref a18, .ref a19]) (ty := .array .int) (C := RX5) (T := TX5) (N := 20) hx hb hts in_X5 tyX5 tyX5_ok nmX5 hown hK hV i_ob m_ob rfl 19 (by decide) f_59 (fun _ h => h) rfl hin rfl (by decide +kernel) rfl rfl (Nat.le_of_ble_eq_true rfl) rfl dX5_init_141 (fun M_51 H locs eM_51 hV => ?_)
  have m_a0 : M_51 a0 = _ := (congrFun eM_51 a0).trans ((va_up_ne _ _ (Ne.symm n_ob_a0)).trans m_a0)
  have m_a1 : M_51 a1 = _ := (congrFun eM_51 a1).trans ((va_up_ne _ _ (Ne.symm n_ob_a1)).trans m_a1)
  have m_a2 : M_51 a2 = _ := (congrFun eM_51 a2).trans ((va_up_ne _ _ (Ne.symm n_ob_a2)).trans m_a2)
  have m_a3 : M_51 a3 = _ := (congrFun eM_51 a3).trans ((va_up_ne _ _ (Ne.symm n_ob_a3)).trans m_a3)
  have m_a4 : M_51 a4 = _ := (congrFun eM_51 a4).trans ((va_up_ne _ _ (Ne.symm n_ob_a4)).trans m_a4)
  have m_a5 : M_51 a5 = _ := (congrFun eM_51 a5).trans ((va_up_ne _ _ (Ne.symm n_ob_a5)).trans m_a5)
  have m_a6 : M_51 a6 = _ := (congrFun eM_51 a6).trans ((va_up_ne _ _ (Ne.symm n_ob_a6)).trans m_a6)
  have m_a7 : M_51 a7 = _ := (congrFun eM_51 a7).trans ((va_up_ne _ _ (Ne.symm n_ob_a7)).trans m_a7)
  have m_a8 : M_51 a8 = _ := (congrFun eM_51 a8).trans ((va_up_ne _ _ (Ne.symm n_ob_a8)).trans m_a8)
  have m_a9 : M_51 a9 = _ := (congrFun eM_51 a9).trans ((va_up_ne _ _ (Ne.symm n_ob_a9)).trans m_a9)
  have m_a10 : M_51 a10 = _ := (congrFun eM_51 a10).trans ((va_up_ne _ _ (Ne.symm n_ob_a10)).trans m_a10)
  have m_a11 : M_51 a11 = _ := (congrFun eM_51 a11).trans ((va_up_ne _ _ (Ne.symm n_ob_a11)).trans m_a11)
  have m_a12 : M_51 a12 = _ := (congrFun eM_51 a12).trans ((va_up_ne _ _ (Ne.symm n_ob_a12)).trans m_a12)
  have m_a15 : M_51 a15 = _ := (congrFun eM_51 a15).trans ((va_up_ne _ _ (Ne.symm n_ob_a15)).trans m_a15)
  have m_a16 : M_51 a16 = _ := (congrFun eM_51 a16).trans ((va_up_ne _ _ (Ne.symm n_ob_a16)).trans m_a16)
  have m_a18 : M_51 a18 = _ := (congrFun eM_51 a18).trans ((va_up_ne _ _ (Ne.symm n_ob_a18)).trans m_a18)
  have m_a19 : M_51 a19 = _ := (congrFun eM_51 a19).trans ((va_up_ne _ _ (Ne.symm n_ob_a19)).trans m_a19)
  have m_ob : M_51 ob = .inr (5, [.ref a0, .ref a1, .ref a2, .ref a3, .ref a4, .ref a5, .ref a6, .ref a7, .ref a8, .ref a9, .ref a10, .ref a11, .ref a12, .int 0, .int 0, .ref a15, .ref a16, .int 0, .ref a18, .ref a19]) := by rw [eM_51]; exact va_up_self _ _ _
  have fE : ∀ q : Nat, q ∈ L → q ≠ ob → M_51 q = M q := fun q h0 h1 => (congrFun eM_51 q).trans ((va_up_ne _ _ h1).trans (fE q h0 h1))
  have K144 : ∀ (ad : Nat → Nat) (S : Nat → Nat → Int32) (Ln : List Nat) (Mn : mm_M) (H : Heap) (locs : List Loc) (ls : Array Slot), S = riS (4 * 0) → (∀ k, rak k = true → ad k ∉ L) → (∀ q, q ∈ L → q ∈ Ln) → (∀ q, q ∈ L → q ≠ ob → Mn q = M q) → ob ∈ Ln → Mn ob = rO ad 0 0 0 → rA dA Ln Mn ad S → mm_V A D Ln Mn s H locs → lv_has ls 3 [(0, .ref ob)] → W p l e R s m args below meth c H locs 17 15654 Q (F0 m 144 ls []) := by
    intro ad S L M H locs ls hS0 hnL hsub fE0 i_ob m_ob hA hV hl
    have hA0 := hA
    have m_ob0 := m_ob
    have fR : rF L ad ob M M := rF.rf
    refine lv_iconst (v := 0) hx hb dX5_init_144 (by decide) ?_
    refine lv_topi (fun x1 ex1 => ?_)
    refine lv_istore_n (lv' := [(1, .int x1), (0, .ref ob)]) hx hb dX5_init_145 rfl hl (by decide) rfl (fun ls hl => ?_)
    have LP : ∀ (k : Nat) (i : Nat) (x1 : Int32) (S1 : Nat → Nat → Int32) (M1 : mm_M) (H : Heap) (locs : List Loc) (ls : Array Slot), i + k = 18 → x1 = nI i → S1 = riS (4 * i) → mm_V A D L M1 s H locs → rA dA L M1 ad S1 → M1 ob = rO ad 0 0 0 → rF L ad ob M M1 → lv_has ls 3 [(0, .ref ob), (1, .int x1)] → W p l e R s m args below meth c H locs 17 15654 Q (F0 m 146 ls []) := by
      intro k
      induction k with
      | zero =>
        intro i x1 S1 M1 H locs ls hik hx1 hS1 hV hA m_ob fR hl
        refine lv_iload_n hx hb dX5_init_146 rfl (lv_at hl 1 rfl) ?_
        refine lv_bipush (v := 18) hx hb dX5_init_147 (by decide) ?_
        refine lv_icmp_ge (tgt := 203) hx hb dX5_init_149 (by decide) (fun c149 => ?_) (fun c149 => ?_)
        · have hi18 : i = 18 := by omega
          subst hi18
          have hS9 : S1 = riS 72 := hS1
          refine lv_aload_n hx hb dX5_init_203 rfl (lv_at hl 0 rfl) ?_
          refine mm_Vm (ci := 5) (As := []) (rest := []) ⟨hx, hb, hml, hown, hts⟩ hK hV (c_beginR l D dA i_ob m_ob hA) (cwV 0 hts gX5_init_X5_begin rfl rfl rfl (by decide +kernel) (mm_levR hR (by omega) (by decide))) i_ob m_ob rfl rfl hl.1 rfl (Nat.le_of_ble_eq_true rfl) dX5_init_204 (by rw [hR]; exact ⟨Nat.le_refl _, Nat.le_refl _⟩) (fun M_52 H locs hp hV => ?_)
          obtain ⟨hA, m_ob, fR9⟩ := hp
          have fR : rF L ad ob M M_52 := fR.tr fR9
          obtain ⟨Sz, eSz⟩ : ∃ z, z = beginSR S1 := ⟨_, rfl⟩
          rw [← eSz] at hA
          exact hret dX5_init_207 hV (by decide) (by decide) ⟨ad, by rw [← hS9, ← eSz]; exact hA, m_ob, hnL, hsub, fun q h1 h2 => (fR q (fun k hk e => hnL k hk (e ▸ h1)) h2).trans (fE0 q h1 h2)⟩
        · exact absurd (by rw [hx1]; exact nI_le (a := 18) (by omega) (by omega)) c149
      | succ k ih =>
        intro i x1 S1 M1 H locs ls hik hx1 hS1 hV hA m_ob fR hl
        refine lv_iload_n hx hb dX5_init_146 rfl (lv_at hl 1 rfl) ?_
        refine lv_bipush (v := 18) hx hb dX5_init_147 (by decide) ?_
        refine lv_icmp_ge (tgt := 203) hx hb dX5_init_149 (by decide) (fun c149 => ?_) (fun c149 => ?_)
        · exact absurd c149 (by rw [hx1]; exact nI_ge (b := 18) (by omega) (by decide))
        · refine lv_iconst (v := 0) hx hb dX5_init_152 (by decide) ?_
          refine lv_topi (fun x2 ex2 => ?_)
          refine lv_istore_n (lv' := [(2, .int x2), (0, .ref ob), (1, .int x1)]) hx hb dX5_init_153 rfl hl (by decide) rfl (fun ls hl => ?_)
          have LQ : ∀ (j w : Nat) (x2 : Int32) (S2 : Nat → Nat → Int32) (M2 : mm_M) (H : Heap) (locs : List Loc) (ls : Array Slot), w + j = 4 → x2 = nI w → S2 = riS (4 * i + w) → mm_V A D L M2 s H locs → rA dA L M2 ad S2 → M2 ob = rO ad 0 0 0 → rF L ad ob M M2 → lv_has ls 3 [(0, .ref ob), (1, .int x1), (2, .int x2)] → W p l e R s m args below meth c H locs 17 15654 Q (F0 m 154 ls []) := by
            intro j
            induction j with
            | zero =>
              intro w x2 S2 M2 H locs ls hwj hx2 hS2 hV hA m_ob fR hl
              refine lv_iload_n hx hb dX5_init_154 rfl (lv_at hl 2 rfl) ?_
              refine lv_iconst (v := 4) hx hb dX5_init_155 (by decide) ?_
              refine lv_icmp_ge (tgt := 197) hx hb dX5_init_156 (by decide) (fun c156 => ?_) (fun c156 => ?_)
              · have hw4 : w = 4 := by omega
                subst hw4
                obtain ⟨x1_n, ex1_n⟩ : ∃ y : Int32, y = x1 + 1 := ⟨_, rfl⟩
                refine lv_iinc (v := x1_n) (lv' := [(1, .int x1_n), (0, .ref ob), (2, .int x2)]) hx hb dX5_init_197 hl (k := 1) rfl (by rw [ex1_n]; rfl) (by decide) rfl (fun ls hl => ?_)
                refine lv_goto (tgt := 146) hx hb dX5_init_200 (by decide) ?_
                exact ih (i + 1) x1_n S2 M2 _ _ ls (by omega) (by rw [ex1_n, hx1]; exact nI_1 i) hS2 hV hA m_ob fR (lv_sub hl [1, 0] rfl)
              · exact absurd (by rw [hx2]; exact nI_le (a := 4) (by omega) (by omega)) c156
            | succ j ih2 =>
              intro w x2 S2 M2 H locs ls hwj hx2 hS2 hV hA m_ob fR hl
              refine lv_iload_n hx hb dX5_init_154 rfl (lv_at hl 2 rfl) ?_
              refine lv_iconst (v := 4) hx hb dX5_init_155 (by decide) ?_
              refine lv_icmp_ge (tgt := 197) hx hb dX5_init_156 (by decide) (fun c156 => ?_) (fun c156 => ?_)
              · exact absurd c156 (by rw [hx2]; exact nI_ge (b := 4) (by omega) (by decide))
              · refine lv_aload_n hx hb dX5_init_159 rfl (lv_at hl 0 rfl) ?_
                refine mm_get (ci := 5) (C := RX5) (T := TX5) (N := 20) hx hb hts in_X5 hown hK hV i_ob m_ob rfl 7 (by decide) f_31 (fun _ h => h) rfl dX5_init_160 ?_
                refine lv_iconst (v := 4) hx hb dX5_init_163 (by decide) ?_
                refine lv_iload_n hx hb dX5_init_164 rfl (lv_at hl 1 rfl) ?_
                refine lv_imul hx hb dX5_init_165 ?_
                refine lv_iload_n hx hb dX5_init_166 rfl (lv_at hl 2 rfl) ?_
                refine lv_iadd hx hb dX5_init_167 ?_
                refine lv_iload_n hx hb dX5_init_168 rfl (lv_at hl 1 rfl) ?_
                refine lv_iload_n hx hb dX5_init_169 rfl (lv_at hl 2 rfl) ?_
                refine lv_iconst (v := 1) hx hb dX5_init_170 (by decide) ?_
                refine mm_Sp (v := (reachR x1 x2 1)) (As := [.int x1, .int x2, .int 1]) (rest := [.int ((4 * x1) + x2), .ref (ad 7)]) ⟨hx, hb, hml, hown, hts⟩ hK hV (c_reachR l D dA x1 x2 1) (va_cwS 3 hts gX5_init_X5_reach rfl rfl rfl (by decide +kernel) (mm_levR hR (by omega) (by decide))) rfl hl.1 rfl (Nat.le_of_ble_eq_true rfl) dX5_init_171 (by rw [hR]; exact ⟨Nat.le_refl _, Nat.le_refl _⟩) (fun H locs hV => ?_)
                refine lv_topi (fun va eva => ?_)
                refine mm_iastN (j := (4 * i + w)) (x := va) hx hb hK hV (hA.i 7 rfl) (show M2 (ad 7) = .inl (dA 0, 72, .inl (S2 7)) from hA.m 7 rfl) (ixR (c := 4) rfl hx1 hx2) (by omega) (by decide) dX5_init_174 (fun M_53 H locs eM_53 hV => ?_)
                obtain ⟨Sa, eSa⟩ : ∃ z, z = va_up S2 7 (upd (S2 7) (4 * i + w) va) := ⟨_, rfl⟩
                have hA : rA dA L M_53 ad Sa := by rw [eSa]; exact hA.up 7 rfl eM_53
                have m_ob : M_53 ob = rO ad 0 0 0 := (congrFun eM_53 ob).trans ((va_up_ne _ _ (fun h => hA0.nob 7 rfl m_ob0 h)).trans m_ob)
                have fR : rF L ad ob M M_53 := fR.up 7 rfl eM_53
                refine lv_aload_n hx hb dX5_init_175 rfl (lv_at hl 0 rfl) ?_
                refine mm_get (ci := 5) (C := RX5) (T := TX5) (N := 20) hx hb hts in_X5 hown hK hV i_ob m_ob rfl 8 (by decide) f_34 (fun _ h => h) rfl dX5_init_176 ?_
                refine lv_iconst (v := 4) hx hb dX5_init_179 (by decide) ?_
                refine lv_iload_n hx hb dX5_init_180 rfl (lv_at hl 1 rfl) ?_
                refine lv_imul hx hb dX5_init_181 ?_
                refine lv_iload_n hx hb dX5_init_182 rfl (lv_at hl 2 rfl) ?_
                refine lv_iadd hx hb dX5_init_183 ?_
                refine lv_iload_n hx hb dX5_init_184 rfl (lv_at hl 1 rfl) ?_
                refine lv_iload_n hx hb dX5_init_185 rfl (lv_at hl 2 rfl) ?_
                refine lv_iconst (v := 2) hx hb dX5_init_186 (by decide) ?_
                refine mm_Sp (v := (reachR x1 x2 2)) (As := [.int x1, .int x2, .int 2]) (rest := [.int ((4 * x1) + x2), .ref (ad 8)]) ⟨hx, hb, hml, hown, hts⟩ hK hV (c_reachR l D dA x1 x2 2) (va_cwS 3 hts gX5_init_X5_reach rfl rfl rfl (by decide +kernel) (mm_levR hR (by omega) (by decide))) rfl hl.1 rfl (Nat.le_of_ble_eq_true rfl) dX5_init_187 (by rw [hR]; exact ⟨Nat.le_refl _, Nat.le_refl _⟩) (fun H locs hV => ?_)
                refine lv_topi (fun vb evb => ?_)
                refine mm_iastN (j := (4 * i + w)) (x := vb) hx hb hK hV (hA.i 8 rfl) (show M_53 (ad 8) = .inl (dA 0, 72, .inl (Sa 8)) from hA.m 8 rfl) (ixR (c := 4) rfl hx1 hx2) (by omega) (by decide) dX5_init_190 (fun M_54 H locs eM_54 hV => ?_)
                obtain ⟨Sb, eSb⟩ : ∃ z, z = va_up Sa 8 (upd (Sa 8) (4 * i + w) vb) := ⟨_, rfl⟩
                have hA : rA dA L M_54 ad Sb := by rw [eSb]; exact hA.up 8 rfl eM_54
                have m_ob : M_54 ob = rO ad 0 0 0 := (congrFun eM_54 ob).trans ((va_up_ne _ _ (fun h => hA0.nob 8 rfl m_ob0 h)).trans m_ob)
                have fR : rF L ad ob M M_54 := fR.up 8 rfl eM_54
                obtain ⟨x2_n, ex2_n⟩ : ∃ y : Int32, y = x2 + 1 := ⟨_, rfl⟩
                refine lv_iinc (v := x2_n) (lv' := [(2, .int x2_n), (0, .ref ob), (1, .int x1)]) hx hb dX5_init_191 hl (k := 2) rfl (by rw [ex2_n]; rfl) (by decide) rfl (fun ls hl => ?_)
                refine lv_goto (tgt := 154) hx hb dX5_init_194 (by decide) ?_
                exact ih2 (w + 1) x2_n Sb M_54 _ _ ls (by omega) (by rw [ex2_n, hx2]; exact nI_1 w) (by rw [eSb, eSa, va_up_ne _ _ (by decide), hS2]; exact riS_s (by rw [riS_7, eva, hx1, hx2]; exact tbR_s 1 i w (by omega)) (by rw [riS_8, evb, hx1, hx2]; exact tbR_s 2 i w (by omega))) hV hA m_ob fR (lv_sub hl [1, 2, 0] rfl)
          exact LQ 4 0 x2 S1 M1 H locs ls rfl (by rw [ex2]; rfl) hS1 hV hA m_ob fR (lv_sub hl [1, 2, 0] rfl)
    exact LP 18 0 x1 S M H locs ls rfl (by rw [ex1]; rfl) hS0 hV hA m_ob fR (lv_sub hl [1, 0] rfl)
  have hLN : L_49 = L ++ [a0, a1, a2, a3, a4, a5, a6, a7, a8, a9, a10, a11, a12, a15, a16, a18, a19] := by rw [eL_49, eL_46, eL_43, eL_40, eL_37, eL_34, eL_31, eL_28, eL_25, eL_22, eL_19, eL_16, eL_13, eL_10, eL_7, eL_4, eL_1]; simp only [List.append_assoc, List.cons_append, List.nil_append]
  have hin9 : ∀ k, rak k = true → adN [a0, a1, a2, a3, a4, a5, a6, a7, a8, a9, a10, a11, a12, a15, a16, a18, a19] k ∈ L_49 ∧ adN [a0, a1, a2, a3, a4, a5, a6, a7, a8, a9, a10, a11, a12, a15, a16, a18, a19] k ∉ L ∧ M_51 (adN [a0, a1, a2, a3, a4, a5, a6, a7, a8, a9, a10, a11, a12, a15, a16, a18, a19] k) = .inl (dA (rtK k), rlK k, .inl (fun _ => 0)) := by
    intro k hk
    rcases rak_c hk with rfl | rfl | rfl | rfl | rfl | rfl | rfl | rfl | rfl | rfl | rfl | rfl | rfl | rfl | rfl | rfl | rfl
    · exact ⟨i_a0, o_a0, m_a0⟩
    · exact ⟨i_a1, o_a1, m_a1⟩
    · exact ⟨i_a2, o_a2, m_a2⟩
    · exact ⟨i_a3, o_a3, m_a3⟩
    · exact ⟨i_a4, o_a4, m_a4⟩
    · exact ⟨i_a5, o_a5, m_a5⟩
    · exact ⟨i_a6, o_a6, m_a6⟩
    · exact ⟨i_a7, o_a7, m_a7⟩
    · exact ⟨i_a8, o_a8, m_a8⟩
    · exact ⟨i_a9, o_a9, m_a9⟩
    · exact ⟨i_a10, o_a10, m_a10⟩
    · exact ⟨i_a11, o_a11, m_a11⟩
    · exact ⟨i_a12, o_a12, m_a12⟩
    · exact ⟨i_a15, o_a15, m_a15⟩
    · exact ⟨i_a16, o_a16, m_a16⟩
    · exact ⟨i_a18, o_a18, m_a18⟩
    · exact ⟨i_a19, o_a19, m_a19⟩
  exact K144 (adN [a0, a1, a2, a3, a4, a5, a6, a7, a8, a9, a10, a11, a12, a15, a16, a18, a19]) _ L_49 M_51 H locs ls (riS_0) (fun k hk => (hin9 k hk).2.1) hsub fE i_ob m_ob ⟨fun k hk => ⟨(hin9 k hk).1, (hin9 k hk).2.2⟩, ri_nd (L := L) rfl (by rw [← hLN]; exact hV.2.1)⟩ hV (lv_sub hl [0] rfl)
