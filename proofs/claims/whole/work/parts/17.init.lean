set_option maxHeartbeats 1000000 in
set_option maxRecDepth 100000 in
theorem c_X2_init (l : Launch) (D : va_G) (dA : Nat → ClassId) {L : List Nat} {M : mm_M} (a : Nat)  : mm_Cm l D dA yX2_init wsX2_init 1 [.ref a] L M (fun M1 => M1 = M) := by
  refine mm_enter_v (cc := cX2_init) (maxL := 1) (by decide) rfl (Nat.le_of_ble_eq_true rfl) ?_
  intro p e R s m args below meth c A ls H locs Q hR hx hb hml hin hown hts hK hV hl hret
  have hl : lv_has ls 1 [(0, .ref a)] := hl
  have hown : s.vm.findClass RX2 = some m.cls := hown
  have hin : meth.name = "<init>" := hin
  refine lv_aload_n hx hb dX2_init_0 rfl (lv_at hl 0 rfl) ?_
  refine W.objInit hx hb hown (hts (.methodLink RX2 3 objectInit) (by decide +kernel)) (hts (.instanceMethod objectInit) (by decide +kernel)) (hts (.code objectInit ⟨#[0xb1]⟩ 1 none) (by decide +kernel)) rfl (by rw [hml]; exact hl.1) rfl dX2_init_1 (by rw [hR]; decide) (by rw [hR]; exact Nat.le_of_ble_eq_true rfl) ?_
  refine W.eq (g2 := F0 m 4 ls []) rfl ?_
  exact hret dX2_init_4 hV (by decide) (by decide) ⟨rfl, rfl⟩

set_option maxHeartbeats 1000000 in
set_option maxRecDepth 100000 in
theorem c_X1_init (l : Launch) (D : va_G) (dA : Nat → ClassId) {L : List Nat} {M : mm_M} {t : Nat} (i_t : t ∈ L) (m_t : M t = .inr (1, [.null, .int 0])) : mm_Cv l D dA yX1_init wsX1_init 1 1 72 [.ref t] L M (fun L1 M1 => ∃ pk, pk ∉ L ∧ L1 = L ++ [pk] ∧ M1 = va_up (va_up M pk (.inl (dA 0, 72, .inl (fun _ => 0)))) t (oL pk 0)) := by
  refine mm_enter_v (cc := cX1_init) (maxL := 1) (by decide) rfl (Nat.le_of_ble_eq_true rfl) ?_
  intro p e R s m args below meth c A ls H locs Q hR hx hb hml hin hown hts hK hV hl hret
  have hl : lv_has ls 1 [(0, .ref t)] := hl
  have hown : s.vm.findClass RX1 = some m.cls := hown
  have hin : meth.name = "<init>" := hin
  have f_11 := hts (.fieldLink RX1 11 "JumpBoard$MoveList" "packed" "[I") (by decide +kernel)
  have in_X1 : ∀ w ∈ wsX10, w ∈ wsX1_init := by decide +kernel
  refine lv_aload_n hx hb dX1_init_0 rfl (lv_at hl 0 rfl) ?_
  refine W.objInit hx hb hown (hts (.methodLink RX1 3 objectInit) (by decide +kernel)) (hts (.instanceMethod objectInit) (by decide +kernel)) (hts (.code objectInit ⟨#[0xb1]⟩ 1 none) (by decide +kernel)) rfl (by rw [hml]; exact hl.1) rfl dX1_init_1 (by rw [hR]; decide) (by rw [hR]; exact Nat.le_of_ble_eq_true rfl) ?_
  refine W.eq (g2 := F0 m 4 ls []) rfl ?_
  refine lv_aload_n hx hb dX1_init_4 rfl (lv_at hl 0 rfl) ?_
  refine lv_bipush (v := 72) hx hb dX1_init_5 (by decide) ?_
  refine mm_newa (atype := .int) (ty := .int) (N' := 72) hx hb (hts (.arrayClass .int) (by decide +kernel)) rfl 0 rfl (fun _ h => h) rfl hK hV (by decide) (by decide +kernel) (by decide +kernel) (by rw [hR]; exact Nat.le_of_ble_eq_true rfl) (by rw [hR]; exact Nat.le_of_ble_eq_true rfl) dX1_init_7 (fun pk H hq_pk hV => ?_)
  refine W.widen (k := 1) (n := 72) (Nat.le_refl _) (Nat.le_refl _) ?_
  obtain ⟨L_1, eL_1⟩ : ∃ z, z = L ++ [pk] := ⟨_, rfl⟩
  obtain ⟨M_2, eM_2⟩ : ∃ z, z = va_up M pk (.inl (dA 0, 72, .inl (fun _ => 0))) := ⟨_, rfl⟩
  rw [← eL_1, ← eM_2] at hV
  have n_t_pk : t ≠ pk := fun h => hq_pk (by rw [← h]; exact i_t)
  have m_t : M_2 t = _ := (congrFun eM_2 t).trans ((va_up_ne _ _ n_t_pk).trans m_t)
  have i_t : t ∈ L_1 := by rw [eL_1]; exact List.mem_append_left _ i_t
  have i_pk : pk ∈ L_1 := by rw [eL_1]; exact List.mem_append_right _ (List.mem_singleton.mpr rfl)
  have m_pk : M_2 pk = .inl (dA 0, 72, .inl (fun _ => 0)) := by rw [eM_2]; exact va_up_self _ _ _
  have fr : ∀ q : Nat, q ≠ pk → M_2 q = M q := fun q h0 => (congrFun eM_2 q).trans ((va_up_ne _ _ h0).trans rfl)
  refine mm_putF (ci := 1) (v := .ref pk) (fs' := [.ref pk, .int 0]) (ty := .array .int) (C := RX1) (T := TX1) (N := 2) hx hb hts in_X1 tyX1 tyX1_ok nmX1 hown hK hV i_t m_t rfl 0 (by decide) f_11 (fun _ h => h) rfl hin rfl (by decide +kernel) rfl rfl (Nat.le_of_ble_eq_true rfl) rfl dX1_init_9 (fun M_3 H locs eM_3 hV => ?_)
  have m_pk : M_3 pk = _ := (congrFun eM_3 pk).trans ((va_up_ne _ _ (Ne.symm n_t_pk)).trans m_pk)
  have m_t : M_3 t = .inr (1, [.ref pk, .int 0]) := by rw [eM_3]; exact va_up_self _ _ _
  have fr : ∀ q : Nat, q ≠ pk → q ≠ t → M_3 q = M q := fun q h0 h1 => (congrFun eM_3 q).trans ((va_up_ne _ _ h1).trans (fr q h0))
  exact hret dX1_init_12 hV (by decide) (by decide) ⟨pk, hq_pk, eL_1, mm_fin2 m_pk m_t (Ne.symm n_t_pk) fr⟩
