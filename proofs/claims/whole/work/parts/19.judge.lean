theorem zW.mono {L L1 : List Nat} {z : Nat → Nat} (h : zW L z) (hs : ∀ q, q ∈ L → q ∈ L1) : zW L1 z := ⟨fun i hi => hs _ (h.1 i hi), h.2⟩
/-- whether the endings are there -/
def jE (dA : Nat → ClassId) (L : List Nat) (M : mm_M) (ev : Value) : Bool → Prop
  | false => ev = .null
  | true => ∃ (en vd ct nz : Nat) (cf nf : Nat → Int32), ev = .ref en ∧ enW dA L M en vd ct nz VT cf nf
def kc (a b : Bool) : Nat := if !a && b then 8 else 0
def ks (a b : Bool) : Nat := if !a && b then 7864 else 0

theorem mm_weakI {l : Launch} {D : va_G} {dA : Nat → ClassId} {y : MethodName} {ws : List Cond} {k mc ms sz : Nat} {av : List Value} {L : List Nat} {M : mm_M} {post post2 : Int32 → List Nat → mm_M → Prop} (h : Met l y ws (mm_rm k mc ms) (va_Pc av (mm_B D dA L M sz)) (mm_Qi D (mm_A L sz) post) mc ms (mm_A L sz)) (hp : ∀ r L1 M1, post r L1 M1 → post2 r L1 M1) : Met l y ws (mm_rm k mc ms) (va_Pc av (mm_B D dA L M sz)) (mm_Qi D (mm_A L sz) post2) mc ms (mm_A L sz) := by
  intro p e ha hc hk s m args below hf happ hP hT
  obtain ⟨t, o, h1, h2, h3, h4⟩ := h p e ha hc hk s m args below hf happ hP hT
  refine ⟨t, o, h1, h2, h3, ?_⟩
  obtain ⟨⟨⟨r, u, q1, q2, q3⟩, q4⟩, q5⟩ := h4
  exact ⟨⟨⟨r, u, q1, hp _ _ _ q2, q3⟩, q4⟩, q5⟩

set_option maxHeartbeats 1000000 in
set_option maxRecDepth 100000 in
theorem c_judge_t (l : Launch) (D : va_G) (dA : Nat → ClassId) {L : List Nat} {M : mm_M} {z : Nat → Nat} {lt a q0 : Nat} {P : Ps} {en vd ct nz : Nat} {cf nf : Nat → Int32} (hz : zW L z) (m_0 : M (z 0) = jO z (.ref en) lt) (hE : enW dA L M en vd ct nz VT cf nf) (i_a : a ∈ L) (m_a : M a = oP P) (hq : numF P = nI q0) (hq2 : q0 ≤ 1296) : mm_Cp l D dA yX4_judge wsX4_judge 23 [.ref (z 0), .ref a] L M (VT q0) := by
  have m_0 : M (z 0) = .inr (4, [.ref (z 1), .ref en, .ref (z 4), .int (nI lt), .ref (z 5), .ref (z 7), .ref (z 8), .ref (z 9)]) := m_0
  have m_a : M a = .inr (2, [.int P.1, .int P.2.1, .int P.2.2.1, .int P.2.2.2.1, .int P.2.2.2.2]) := m_a
  refine mm_enter_i (cc := cX4_judge) (maxL := 2) (by decide) rfl (Nat.le_of_ble_eq_true rfl) ?_
  intro p e R s m args below meth c A ls H locs Q hR hx hb hml hin hown hts hK hV hl hret
  have hl : lv_has ls 2 [(0, .ref (z 0)), (1, .ref a)] := hl
  have hown : s.vm.findClass RX4 = some m.cls := hown
  have f_16 := hts (.fieldLink RX4 16 "JumpBoard" "endings" "LJumpBoard$Endings;") (by decide +kernel)
  have in_X4 : ∀ w ∈ wsX40, w ∈ wsX4_judge := by decide +kernel
  refine lv_aload_n hx hb dX4_judge_0 rfl (lv_at hl 0 rfl) ?_
  refine mm_get (ci := 4) (C := RX4) (T := TX4) (N := 8) hx hb hts in_X4 hown hK hV (hz.1 0 (by omega)) m_0 rfl 1 (by decide) f_16 (fun _ h => h) rfl dX4_judge_1 ?_
  refine lv_ifnonnull (tgt := 22) hx hb dX4_judge_4 (by decide) ?_
  refine lv_aload_n hx hb dX4_judge_22 rfl (lv_at hl 0 rfl) ?_
  refine mm_get (ci := 4) (C := RX4) (T := TX4) (N := 8) hx hb hts in_X4 hown hK hV (hz.1 0 (by omega)) m_0 rfl 1 (by decide) f_16 (fun _ h => h) rfl dX4_judge_23 ?_
  refine lv_aload_n hx hb dX4_judge_26 rfl (lv_at hl 1 rfl) ?_
  refine mm_Vp (v := (VT q0)) (ci := 0) (As := [.ref a]) (rest := []) ⟨hx, hb, hml, hown, hts⟩ hK hV (c_look l D dA (P := P) (q0 := q0) hE i_a m_a hq hq2) (cwV 1 hts gX4_judge_X0_look rfl rfl rfl (by decide +kernel) (mm_levR hR (by omega) (by decide))) hE.1 hE.2.2.2.2.1 rfl rfl hl.1 rfl (Nat.le_of_ble_eq_true rfl) dX4_judge_27 ⟨Nat.zero_le _, Nat.zero_le _⟩ (fun H locs hV => ?_)
  exact hret (v := VT q0) dX4_judge_30 hV (by decide) (by decide) ⟨rfl, rfl, rfl⟩

set_option maxHeartbeats 1000000 in
set_option maxRecDepth 100000 in
theorem c_judge_f (l : Launch) (D : va_G) (dA : Nat → ClassId) {L : List Nat} {M : mm_M} {z : Nat → Nat} {lt a q0 : Nat} {P : Ps} (htb : ∀ e, e < 1296 → ∀ j, j < CNx e → NXv e j = nI (NXx e j) ∧ NXx e j < 1297) (hz : zW L z) (m_0 : M (z 0) = jO z .null lt) (hr : ruW dA L M (z 1) (z 2) (z 3)) (i_a : a ∈ L) (m_a : M a = oP P) (hq : numF P = nI q0) (hq2 : q0 ≤ 1296) : mm_Ci l D dA yX4_judge wsX4_judge 23 8 7864 [.ref (z 0), .ref a] L M (fun r L1 M1 => r = VT q0 ∧ (∀ q, q ∈ L → q ∈ L1) ∧ (∃ ev, M1 (z 0) = jO z ev lt ∧ jE dA L1 M1 ev true) ∧ ∀ q, q ∈ L → q ≠ z 0 → M1 q = M q) := by
  have m_0 : M (z 0) = .inr (4, [.ref (z 1), .null, .ref (z 4), .int (nI lt), .ref (z 5), .ref (z 7), .ref (z 8), .ref (z 9)]) := m_0
  have m_a : M a = .inr (2, [.int P.1, .int P.2.1, .int P.2.2.1, .int P.2.2.2.1, .int P.2.2.2.2]) := m_a
  obtain ⟨-, -, -, m_1, m_2, m_3⟩ := hr
  have hsub : ∀ x, x ∈ L → x ∈ L := fun _ h => h
  have fE : ∀ q : Nat, q ∈ L → q ≠ z 0 → M q = M q := fun _ _ _ => rfl
  refine mm_enter_i (cc := cX4_judge) (maxL := 2) (by decide) rfl (Nat.le_of_ble_eq_true rfl) ?_
  intro p e R s m args below meth c A ls H locs Q hR hx hb hml hin hown hts hK hV hl hret
  have hl : lv_has ls 2 [(0, .ref (z 0)), (1, .ref a)] := hl
  have hown : s.vm.findClass RX4 = some m.cls := hown
  have f_16 := hts (.fieldLink RX4 16 "JumpBoard" "endings" "LJumpBoard$Endings;") (by decide +kernel)
  have in_X4 : ∀ w ∈ wsX40, w ∈ wsX4_judge := by decide +kernel
  have in_X0 : ∀ w ∈ wsX00, w ∈ wsX4_judge := by decide +kernel
  have f_10 := hts (.fieldLink RX4 10 "JumpBoard" "rules" "LJumpBoard$Rules;") (by decide +kernel)
  refine lv_aload_n hx hb dX4_judge_0 rfl (lv_at hl 0 rfl) ?_
  refine mm_get (ci := 4) (C := RX4) (T := TX4) (N := 8) hx hb hts in_X4 hown hK hV (hz.1 0 (by omega)) m_0 rfl 1 (by decide) f_16 (fun _ h => h) rfl dX4_judge_1 ?_
  refine lv_ifnonnullN hx hb dX4_judge_4 ?_
  refine lv_aload_n hx hb dX4_judge_7 rfl (lv_at hl 0 rfl) ?_
  refine mm_new (ci := 0) (fs := [.null, .null, .null]) (C := RX0) (T := TX0) (N := 3) hx hb hts in_X0 tyX0 tyX0_ok hown (hts (.classLink RX4 152 RX0) (by decide +kernel)) (hts (.instantiable RX0 3) (by decide +kernel)) (hts (.initialized RX0) (by decide +kernel)) hK hV rfl (fun j hj => by rcases (show j = 0 ∨ j = 1 ∨ j = 2 by omega) with rfl | rfl | rfl <;> rfl) (by rw [hR]; exact Nat.le_of_ble_eq_true rfl) (by rw [hR]; exact Nat.le_of_ble_eq_true rfl) dX4_judge_8 (fun en H hq_en hV => ?_)
  refine W.widen (k := 1) (n := 3) (Nat.le_refl _) (Nat.le_refl _) ?_
  obtain ⟨L_1, eL_1⟩ : ∃ z, z = L ++ [en] := ⟨_, rfl⟩
  obtain ⟨M_2, eM_2⟩ : ∃ z, z = va_up M en (.inr (0, [.null, .null, .null])) := ⟨_, rfl⟩
  rw [← eL_1, ← eM_2] at hV
  have n_z0_en : (z 0) ≠ en := fun h => hq_en (by rw [← h]; exact (hz.1 0 (by omega)))
  have m_0 : M_2 (z 0) = _ := (congrFun eM_2 (z 0)).trans ((va_up_ne _ _ n_z0_en).trans m_0)
  have n_a_en : a ≠ en := fun h => hq_en (by rw [← h]; exact i_a)
  have m_a : M_2 a = _ := (congrFun eM_2 a).trans ((va_up_ne _ _ n_a_en).trans m_a)
  have i_a : a ∈ L_1 := by rw [eL_1]; exact List.mem_append_left _ i_a
  have n_z1_en : (z 1) ≠ en := fun h => hq_en (by rw [← h]; exact (hz.1 1 (by omega)))
  have m_1 : M_2 (z 1) = _ := (congrFun eM_2 (z 1)).trans ((va_up_ne _ _ n_z1_en).trans m_1)
  have n_z2_en : (z 2) ≠ en := fun h => hq_en (by rw [← h]; exact (hz.1 2 (by omega)))
  have m_2 : M_2 (z 2) = _ := (congrFun eM_2 (z 2)).trans ((va_up_ne _ _ n_z2_en).trans m_2)
  have n_z3_en : (z 3) ≠ en := fun h => hq_en (by rw [← h]; exact (hz.1 3 (by omega)))
  have m_3 : M_2 (z 3) = _ := (congrFun eM_2 (z 3)).trans ((va_up_ne _ _ n_z3_en).trans m_3)
  have o_en : en ∉ L := fun h => hq_en (hsub en h)
  have hsub : ∀ x, x ∈ L → x ∈ L_1 := fun x h => by rw [eL_1]; exact List.mem_append_left _ (hsub x h)
  have hz : zW L_1 z := hz.mono (fun x h => by rw [eL_1]; exact List.mem_append_left _ h)
  have i_en : en ∈ L_1 := by rw [eL_1]; exact List.mem_append_right _ (List.mem_singleton.mpr rfl)
  have m_en : M_2 en = .inr (0, [.null, .null, .null]) := by rw [eM_2]; exact va_up_self _ _ _
  have fE : ∀ q : Nat, q ∈ L → q ≠ z 0 → M_2 q = M q := fun q h0 h1 => (congrFun eM_2 q).trans ((va_up_ne _ _ (fun h => o_en (by rw [← h]; exact h0))).trans (fE q h0 h1))
  refine lv_dup hx hb dX4_judge_11 rfl ?_
  refine lv_aload_n hx hb dX4_judge_12 rfl (lv_at hl 0 rfl) ?_
  refine mm_get (ci := 4) (C := RX4) (T := TX4) (N := 8) hx hb hts in_X4 hown hK hV (hz.1 0 (by omega)) m_0 rfl 0 (by decide) f_10 (fun _ h => h) rfl dX4_judge_13 ?_
  refine mm_Iv (mc := 7) (ms := 7861) (As := [.ref (z 1)]) (rest := [.ref en, .ref (z 0)]) ⟨hx, hb, hml, hown, hts⟩ hK hV (c_X0_init l D dA htb ⟨hz.1 1 (by omega), hz.1 2 (by omega), hz.1 3 (by omega), m_1, m_2, m_3⟩ i_en m_en) (cwI 1 hts gX4_judge_X0_init rfl rfl rfl (hts (.initialized RX0) (by decide +kernel)) (hts (.methodLink RX4 154 yX0_init) (by decide +kernel)) (hts (.instanceMethod yX0_init) (by decide +kernel)) rfl (by decide +kernel) (mm_levR hR (by omega) (by decide))) rfl hl.1 rfl (Nat.le_of_ble_eq_true rfl) dX4_judge_16 (by rw [hR]; exact ⟨Nat.le_of_ble_eq_true rfl, Nat.le_of_ble_eq_true rfl⟩) (fun L9 M9 H locs hp hV => ?_)
  refine W.widen (k := 8) (n := 7864) (Nat.le_refl _) (Nat.le_refl _) ?_
  obtain ⟨vd, ct, nz, cf, nf, hE, hs9, hf9⟩ := hp
  have m_0 : M9 (z 0) = _ := (hf9 (z 0) (hz.1 0 (by omega)) n_z0_en).trans m_0
  have m_a : M9 a = _ := (hf9 a i_a n_a_en).trans m_a
  have m_1 : M9 (z 1) = _ := (hf9 (z 1) (hz.1 1 (by omega)) n_z1_en).trans m_1
  have m_2 : M9 (z 2) = _ := (hf9 (z 2) (hz.1 2 (by omega)) n_z2_en).trans m_2
  have m_3 : M9 (z 3) = _ := (hf9 (z 3) (hz.1 3 (by omega)) n_z3_en).trans m_3
  have i_a := hs9 _ i_a
  have hz : zW L9 z := hz.mono hs9
  have m_en := hE.2.2.2.2.1
  have i_en := hE.1
  have fE : ∀ q : Nat, q ∈ L → q ≠ z 0 → M9 q = M q := fun q h0 h1 => (hf9 q (hsub q h0) (fun h => o_en (by rw [← h]; exact h0))).trans (fE q h0 h1)
  have hsub : ∀ x, x ∈ L → x ∈ L9 := fun x h => hs9 x (hsub x h)
  have m_00 := m_0
  refine mm_put (ci := 4) (v := .ref en) (fs' := [.ref (z 1), .ref en, .ref (z 4), .int (nI lt), .ref (z 5), .ref (z 7), .ref (z 8), .ref (z 9)]) (ty := .object "JumpBoard$Endings") (C := RX4) (T := TX4) (N := 8) hx hb hts in_X4 tyX4 tyX4_ok nmX4 hown hK hV (hz.1 0 (by omega)) m_0 rfl 1 (by decide) f_16 (fun _ h => h) rfl (by decide +kernel) rfl rfl (Nat.le_of_ble_eq_true rfl) rfl dX4_judge_19 (fun M_3 H locs eM_3 hV => ?_)
  have m_a : M_3 a = _ := (congrFun eM_3 a).trans ((va_up_ne _ _ (mm_neq m_a m_0 (by intro h; cases h))).trans m_a)
  have m_1 : M_3 (z 1) = _ := (congrFun eM_3 (z 1)).trans ((va_up_ne _ _ (hz.ne (i := 1) (j := 0) (by omega) (by omega) (by omega))).trans m_1)
  have m_2 : M_3 (z 2) = _ := (congrFun eM_3 (z 2)).trans ((va_up_ne _ _ (hz.ne (i := 2) (j := 0) (by omega) (by omega) (by omega))).trans m_2)
  have m_3 : M_3 (z 3) = _ := (congrFun eM_3 (z 3)).trans ((va_up_ne _ _ (hz.ne (i := 3) (j := 0) (by omega) (by omega) (by omega))).trans m_3)
  have m_en : M_3 en = _ := (congrFun eM_3 en).trans ((va_up_ne _ _ (Ne.symm n_z0_en)).trans m_en)
  have m_0 : M_3 (z 0) = .inr (4, [.ref (z 1), .ref en, .ref (z 4), .int (nI lt), .ref (z 5), .ref (z 7), .ref (z 8), .ref (z 9)]) := by rw [eM_3]; exact va_up_self _ _ _
  have fE : ∀ q : Nat, q ∈ L → q ≠ z 0 → M_3 q = M q := fun q h0 h1 => (congrFun eM_3 q).trans ((va_up_ne _ _ h1).trans (fE q h0 h1))
  have hE : enW dA L9 M_3 en vd ct nz VT cf nf := ⟨hE.1, hE.2.1, hE.2.2.1, hE.2.2.2.1, m_en, (congrFun eM_3 vd).trans ((va_up_ne _ _ (mm_neq hE.2.2.2.2.2.1 m_00 (by intro h; cases h))).trans hE.2.2.2.2.2.1), (congrFun eM_3 ct).trans ((va_up_ne _ _ (mm_neq hE.2.2.2.2.2.2.1 m_00 (by intro h; cases h))).trans hE.2.2.2.2.2.2.1), (congrFun eM_3 nz).trans ((va_up_ne _ _ (mm_neq hE.2.2.2.2.2.2.2 m_00 (by intro h; cases h))).trans hE.2.2.2.2.2.2.2)⟩
  refine lv_aload_n hx hb dX4_judge_22 rfl (lv_at hl 0 rfl) ?_
  refine mm_get (ci := 4) (C := RX4) (T := TX4) (N := 8) hx hb hts in_X4 hown hK hV (hz.1 0 (by omega)) m_0 rfl 1 (by decide) f_16 (fun _ h => h) rfl dX4_judge_23 ?_
  refine lv_aload_n hx hb dX4_judge_26 rfl (lv_at hl 1 rfl) ?_
  refine mm_Vp (v := (VT q0)) (ci := 0) (As := [.ref a]) (rest := []) ⟨hx, hb, hml, hown, hts⟩ hK hV (c_look l D dA (P := P) (q0 := q0) hE i_a m_a hq hq2) (cwV 1 hts gX4_judge_X0_look rfl rfl rfl (by decide +kernel) (mm_levR hR (by omega) (by decide))) i_en m_en rfl rfl hl.1 rfl (Nat.le_of_ble_eq_true rfl) dX4_judge_27 (by rw [hR]; exact ⟨Nat.le_refl _, Nat.le_refl _⟩) (fun H locs hV => ?_)
  exact hret (v := VT q0) dX4_judge_30 hV (by decide) (by decide) ⟨rfl, hsub, ⟨.ref en, m_0, en, vd, ct, nz, cf, nf, rfl, hE⟩, fE⟩

/-- judge -/
theorem c_judge (l : Launch) (D : va_G) (dA : Nat → ClassId) {L : List Nat} {M : mm_M} {z : Nat → Nat} {lt a q0 : Nat} {P : Ps} {ev : Value} {e : Bool} (htb : ∀ e, e < 1296 → ∀ j, j < CNx e → NXv e j = nI (NXx e j) ∧ NXx e j < 1297) (hz : zW L z) (m_0 : M (z 0) = jO z ev lt) (he : jE dA L M ev e) (hr : ruW dA L M (z 1) (z 2) (z 3)) (i_a : a ∈ L) (m_a : M a = oP P) (hq : numF P = nI q0) (hq2 : q0 ≤ 1296) : mm_Ci l D dA yX4_judge wsX4_judge 23 (kc e true) (ks e true) [.ref (z 0), .ref a] L M (fun r L1 M1 => r = VT q0 ∧ (∀ q, q ∈ L → q ∈ L1) ∧ (∃ ev, M1 (z 0) = jO z ev lt ∧ jE dA L1 M1 ev true) ∧ ∀ q, q ∈ L → q ≠ z 0 → M1 q = M q) := by
  cases e with
  | false =>
    have he : ev = .null := he
    subst he
    exact c_judge_f l D dA htb hz m_0 hr i_a m_a hq hq2
  | true =>
    obtain ⟨en, vd, ct, nz, cf, nf, rfl, hE⟩ := he
    intro sz
    have h := c_judge_t l D dA hz m_0 hE i_a m_a hq hq2 sz
    exact mm_weakI h (fun r L1 M1 hp => by
      obtain ⟨h1, h2, h3⟩ := hp
      subst h2; subst h3
      exact ⟨h1, fun _ h => h, ⟨_, m_0, en, vd, ct, nz, cf, nf, rfl, hE⟩, fun _ _ _ => rfl⟩)
