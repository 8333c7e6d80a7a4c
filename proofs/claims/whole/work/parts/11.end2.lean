/-! The endings' tables: vf verdicts, CN e how many moves, NX e j where they lead -/
def enW (dA : Nat → ClassId) (L : List Nat) (M : mm_M) (en vd ct nz : Nat) (vf cf nf : Nat → Int32) : Prop := en ∈ L ∧ vd ∈ L ∧ ct ∈ L ∧ nz ∈ L ∧ M en = .inr (0, [.ref vd, .ref ct, .ref nz]) ∧ M vd = .inl (dA 1, 1297, .inl vf) ∧ M ct = .inl (dA 1, 1296, .inl cf) ∧ M nz = .inl (dA 2, 5184, .inl nf)
def enC (cf nf : Nat → Int32) (CN : Nat → Nat) (NX : Nat → Nat → Nat) : Prop := (∀ e, e < 1296 → cf e = nI (CN e) ∧ CN e ≤ 4) ∧ ∀ e, e < 1296 → ∀ j, j < CN e → nf (4 * e + j) = nI (NX e j) ∧ NX e j < 1297
def llK (vf : Nat → Int32) (nx : Nat → Nat) : Nat → Nat → Int32
  | 0, _ => 0
  | k + 1, j => if 0 ≤ vf (nx j) then llK vf nx k (j + 1) else 1
def lwK (vf : Nat → Int32) (nx : Nat → Nat) : Nat → Nat → Int32
  | 0, _ => 1
  | k + 1, j => if 0 < vf (nx j) then lwK vf nx k (j + 1) else 0
def fwK (n : Int32) (CN : Nat → Nat) (NX : Nat → Nat → Nat) : Nat → Nat → (Nat → Int32) → Int32 → (Nat → Int32) × Int32
  | 0, _, vf, fd => (vf, fd)
  | k + 1, e, vf, fd => if vf e = 0 then (if llK vf (NX e) (CN e) 0 = 0 then fwK n CN NX k (e + 1) vf fd else fwK n CN NX k (e + 1) (upd vf e (n.toInt8.toInt32)) 1) else fwK n CN NX k (e + 1) vf fd
def flK (n : Int32) (CN : Nat → Nat) (NX : Nat → Nat → Nat) : Nat → Nat → (Nat → Int32) → Int32 → (Nat → Int32) × Int32
  | 0, _, vf, fd => (vf, fd)
  | k + 1, e, vf, fd => if vf e = 0 then (if CN e = 0 then flK n CN NX k (e + 1) vf fd else if lwK vf (NX e) (CN e) 0 = 0 then flK n CN NX k (e + 1) vf fd else flK n CN NX k (e + 1) (upd vf e ((-n).toInt8.toInt32)) 1) else flK n CN NX k (e + 1) vf fd
def stK (CN : Nat → Nat) (NX : Nat → Nat → Nat) : Nat → Nat → Int32 → (Nat → Int32) → (Nat → Int32)
  | 0, _, _, vf => vf
  | k + 1, n, fd, vf => if fd = 0 then vf else if n % 2 = 1 then stK CN NX k (n + 1) (fwK (nI n) CN NX 1296 0 vf 0).2 (fwK (nI n) CN NX 1296 0 vf 0).1 else stK CN NX k (n + 1) (flK (nI n) CN NX 1296 0 vf 0).2 (flK (nI n) CN NX 1296 0 vf 0).1
theorem fwK_01 {n : Int32} {CN : Nat → Nat} {NX : Nat → Nat → Nat} : ∀ (k e : Nat) (vf : Nat → Int32) (fd : Int32), (fd = 0 ∨ fd = 1) → (fwK n CN NX k e vf fd).2 = 0 ∨ (fwK n CN NX k e vf fd).2 = 1
  | 0, _, _, _, h => h
  | k + 1, e, vf, fd, h => by
    unfold fwK
    split
    · split
      · exact fwK_01 k _ _ _ h
      · exact fwK_01 k _ _ _ (Or.inr rfl)
    · exact fwK_01 k _ _ _ h

set_option maxHeartbeats 1000000 in
set_option maxRecDepth 100000 in
theorem c_ltl (l : Launch) (D : va_G) (dA : Nat → ClassId) {L : List Nat} {M : mm_M} {en vd ct nz : Nat} {vf cf nf : Nat → Int32} {CN : Nat → Nat} {NX : Nat → Nat → Nat} {e0 : Nat} (x : Int32) (he : enW dA L M en vd ct nz vf cf nf) (hc : enC cf nf CN NX) (hxe : x = nI e0) (he0 : e0 < 1296) : mm_Cp l D dA yX0_leadsToLoss wsX0_leadsToLoss 0 [.ref en, .int x] L M (llK vf (NX e0) (CN e0) 0) := by
  obtain ⟨i_en, i_vd, i_ct, i_nz, m_en, m_vd, m_ct, m_nz⟩ := he
  refine mm_enter_z (cc := cX0_leadsToLoss) (maxL := 3) (by decide) rfl (Nat.le_of_ble_eq_true rfl) ?_
  intro p e R s m args below meth c A ls H locs Q hR hx hb hml hin hown hts hK hV hl hret
  have hl : lv_has ls 3 [(0, .ref en), (1, .int x)] := hl
  have hown : s.vm.findClass RX0 = some m.cls := hown
  have f_15 := hts (.fieldLink RX0 15 "JumpBoard$Endings" "counts" "[B") (by decide +kernel)
  have in_X0 : ∀ w ∈ wsX00, w ∈ wsX0_leadsToLoss := by decide +kernel
  have f_11 := hts (.fieldLink RX0 11 "JumpBoard$Endings" "verdicts" "[B") (by decide +kernel)
  have f_18 := hts (.fieldLink RX0 18 "JumpBoard$Endings" "nexts" "[S") (by decide +kernel)
  refine lv_iconst (v := 0) hx hb dX0_leadsToLoss_0 (by decide) ?_
  refine lv_topi (fun x2 ex2 => ?_)
  refine lv_istore_n (lv' := [(2, .int x2), (0, .ref en), (1, .int x)]) hx hb dX0_leadsToLoss_1 rfl hl (by decide) rfl (fun ls hl => ?_)
  have hce := hc.1 e0 he0
  have LP : ∀ (k j : Nat) (x2 : Int32) (ls : Array Slot), j + k = CN e0 → x2 = nI j → llK vf (NX e0) k j = llK vf (NX e0) (CN e0) 0 → lv_has ls 3 [(0, .ref en), (1, .int x), (2, .int x2)] → W p l e R s m args below meth c H locs 0 0 Q (F0 m 2 ls []) := by
    intro k
    induction k with
    | zero =>
      intro j x2 ls hjk hx2 hres hl
      refine lv_iload_n hx hb dX0_leadsToLoss_2 rfl (lv_at hl 2 rfl) ?_
      refine lv_aload_n hx hb dX0_leadsToLoss_3 rfl (lv_at hl 0 rfl) ?_
      refine mm_get (ci := 0) (C := RX0) (T := TX0) (N := 3) hx hb hts in_X0 hown hK hV i_en m_en rfl 1 (by decide) f_15 (fun _ h => h) rfl dX0_leadsToLoss_4 ?_
      refine lv_iload_n hx hb dX0_leadsToLoss_7 rfl (lv_at hl 1 rfl) ?_
      refine mm_baldN (j := e0) hx hb hK hV i_ct m_ct hxe (by omega) (by decide) dX0_leadsToLoss_8 ?_
      refine lv_icmp_ge (tgt := 38) hx hb dX0_leadsToLoss_9 (by decide) (fun c9 => ?_) (fun c9 => ?_)
      · refine lv_iconst (v := 0) hx hb dX0_leadsToLoss_38 (by decide) ?_
        exact hret (v := 0) dX0_leadsToLoss_39 hV (by decide) (by decide) (by subst_vars; (repeat' split) <;> first | exact Or.inl rfl | exact Or.inr rfl) ⟨by rw [← hres]; rfl, rfl, rfl⟩
      · exact absurd (by rw [hce.1, hx2, ← hjk]; exact nI_le (by omega) (by omega)) c9
    | succ k ih =>
      intro j x2 ls hjk hx2 hres hl
      refine lv_iload_n hx hb dX0_leadsToLoss_2 rfl (lv_at hl 2 rfl) ?_
      refine lv_aload_n hx hb dX0_leadsToLoss_3 rfl (lv_at hl 0 rfl) ?_
      refine mm_get (ci := 0) (C := RX0) (T := TX0) (N := 3) hx hb hts in_X0 hown hK hV i_en m_en rfl 1 (by decide) f_15 (fun _ h => h) rfl dX0_leadsToLoss_4 ?_
      refine lv_iload_n hx hb dX0_leadsToLoss_7 rfl (lv_at hl 1 rfl) ?_
      refine mm_baldN (j := e0) hx hb hK hV i_ct m_ct hxe (by omega) (by decide) dX0_leadsToLoss_8 ?_
      refine lv_icmp_ge (tgt := 38) hx hb dX0_leadsToLoss_9 (by decide) (fun c9 => ?_) (fun c9 => ?_)
      · exact absurd c9 (by rw [hce.1, hx2]; exact nI_ge (by omega) (by omega))
      · have hj : j < CN e0 := by omega
        refine lv_aload_n hx hb dX0_leadsToLoss_12 rfl (lv_at hl 0 rfl) ?_
        refine mm_get (ci := 0) (C := RX0) (T := TX0) (N := 3) hx hb hts in_X0 hown hK hV i_en m_en rfl 0 (by decide) f_11 (fun _ h => h) rfl dX0_leadsToLoss_13 ?_
        refine lv_aload_n hx hb dX0_leadsToLoss_16 rfl (lv_at hl 0 rfl) ?_
        refine mm_get (ci := 0) (C := RX0) (T := TX0) (N := 3) hx hb hts in_X0 hown hK hV i_en m_en rfl 2 (by decide) f_18 (fun _ h => h) rfl dX0_leadsToLoss_17 ?_
        refine lv_iload_n hx hb dX0_leadsToLoss_20 rfl (lv_at hl 1 rfl) ?_
        refine lv_iconst (v := 4) hx hb dX0_leadsToLoss_21 (by decide) ?_
        refine lv_imul hx hb dX0_leadsToLoss_22 ?_
        refine lv_iload_n hx hb dX0_leadsToLoss_23 rfl (lv_at hl 2 rfl) ?_
        refine lv_iadd hx hb dX0_leadsToLoss_24 ?_
        refine mm_saldN (j := (4 * e0 + j)) hx hb hK hV i_nz m_nz (ixN hxe hx2) (by omega) (by decide) dX0_leadsToLoss_25 ?_
        refine mm_baldN (j := (NX e0 j)) hx hb hK hV i_vd m_vd (hc.2 e0 he0 j hj).1 (hc.2 e0 he0 j hj).2 (by decide) dX0_leadsToLoss_26 ?_
        refine lv_if_ge (tgt := 32) hx hb dX0_leadsToLoss_27 (by decide) (fun c27 => ?_) (fun c27 => ?_)
        · obtain ⟨x2_n, ex2_n⟩ : ∃ y : Int32, y = x2 + 1 := ⟨_, rfl⟩
          refine lv_iinc (v := x2_n) (lv' := [(2, .int x2_n), (0, .ref en), (1, .int x)]) hx hb dX0_leadsToLoss_32 hl (k := 2) rfl (by rw [ex2_n]; rfl) (by decide) rfl (fun ls hl => ?_)
          refine lv_goto (tgt := 2) hx hb dX0_leadsToLoss_35 (by decide) ?_
          exact ih (j + 1) x2_n ls (by omega) (by rw [ex2_n, hx2]; exact nI_1 j) (by rw [← hres, llK, if_pos c27]) (lv_sub hl [1, 2, 0] rfl)
        · refine lv_iconst (v := 1) hx hb dX0_leadsToLoss_30 (by decide) ?_
          exact hret (v := 1) dX0_leadsToLoss_31 hV (by decide) (by decide) (by subst_vars; (repeat' split) <;> first | exact Or.inl rfl | exact Or.inr rfl) ⟨by rw [← hres, llK, if_neg c27], rfl, rfl⟩
  exact LP (CN e0) 0 x2 ls (by omega) (by rw [ex2]; rfl) rfl (lv_sub hl [1, 2, 0] rfl)

set_option maxHeartbeats 1000000 in
set_option maxRecDepth 100000 in
theorem c_ltw (l : Launch) (D : va_G) (dA : Nat → ClassId) {L : List Nat} {M : mm_M} {en vd ct nz : Nat} {vf cf nf : Nat → Int32} {CN : Nat → Nat} {NX : Nat → Nat → Nat} {e0 : Nat} (x : Int32) (he : enW dA L M en vd ct nz vf cf nf) (hc : enC cf nf CN NX) (hxe : x = nI e0) (he0 : e0 < 1296) : mm_Cp l D dA yX0_leadsToWinsAlone wsX0_leadsToWinsAlone 0 [.ref en, .int x] L M (lwK vf (NX e0) (CN e0) 0) := by
  obtain ⟨i_en, i_vd, i_ct, i_nz, m_en, m_vd, m_ct, m_nz⟩ := he
  refine mm_enter_z (cc := cX0_leadsToWinsAlone) (maxL := 3) (by decide) rfl (Nat.le_of_ble_eq_true rfl) ?_
  intro p e R s m args below meth c A ls H locs Q hR hx hb hml hin hown hts hK hV hl hret
  have hl : lv_has ls 3 [(0, .ref en), (1, .int x)] := hl
  have hown : s.vm.findClass RX0 = some m.cls := hown
  have f_15 := hts (.fieldLink RX0 15 "JumpBoard$Endings" "counts" "[B") (by decide +kernel)
  have in_X0 : ∀ w ∈ wsX00, w ∈ wsX0_leadsToWinsAlone := by decide +kernel
  have f_11 := hts (.fieldLink RX0 11 "JumpBoard$Endings" "verdicts" "[B") (by decide +kernel)
  have f_18 := hts (.fieldLink RX0 18 "JumpBoard$Endings" "nexts" "[S") (by decide +kernel)
  refine lv_iconst (v := 0) hx hb dX0_leadsToWinsAlone_0 (by decide) ?_
  refine lv_topi (fun x2 ex2 => ?_)
  refine lv_istore_n (lv' := [(2, .int x2), (0, .ref en), (1, .int x)]) hx hb dX0_leadsToWinsAlone_1 rfl hl (by decide) rfl (fun ls hl => ?_)
  have hce := hc.1 e0 he0
  have LP : ∀ (k j : Nat) (x2 : Int32) (ls : Array Slot), j + k = CN e0 → x2 = nI j → lwK vf (NX e0) k j = lwK vf (NX e0) (CN e0) 0 → lv_has ls 3 [(0, .ref en), (1, .int x), (2, .int x2)] → W p l e R s m args below meth c H locs 0 0 Q (F0 m 2 ls []) := by
    intro k
    induction k with
    | zero =>
      intro j x2 ls hjk hx2 hres hl
      refine lv_iload_n hx hb dX0_leadsToWinsAlone_2 rfl (lv_at hl 2 rfl) ?_
      refine lv_aload_n hx hb dX0_leadsToWinsAlone_3 rfl (lv_at hl 0 rfl) ?_
      refine mm_get (ci := 0) (C := RX0) (T := TX0) (N := 3) hx hb hts in_X0 hown hK hV i_en m_en rfl 1 (by decide) f_15 (fun _ h => h) rfl dX0_leadsToWinsAlone_4 ?_
      refine lv_iload_n hx hb dX0_leadsToWinsAlone_7 rfl (lv_at hl 1 rfl) ?_
      refine mm_baldN (j := e0) hx hb hK hV i_ct m_ct hxe (by omega) (by decide) dX0_leadsToWinsAlone_8 ?_
      refine lv_icmp_ge (tgt := 38) hx hb dX0_leadsToWinsAlone_9 (by decide) (fun c9 => ?_) (fun c9 => ?_)
      · refine lv_iconst (v := 1) hx hb dX0_leadsToWinsAlone_38 (by decide) ?_
        exact hret (v := 1) dX0_leadsToWinsAlone_39 hV (by decide) (by decide) (by subst_vars; (repeat' split) <;> first | exact Or.inl rfl | exact Or.inr rfl) ⟨by rw [← hres]; rfl, rfl, rfl⟩
      · exact absurd (by rw [hce.1, hx2, ← hjk]; exact nI_le (by omega) (by omega)) c9
    | succ k ih =>
      intro j x2 ls hjk hx2 hres hl
      refine lv_iload_n hx hb dX0_leadsToWinsAlone_2 rfl (lv_at hl 2 rfl) ?_
      refine lv_aload_n hx hb dX0_leadsToWinsAlone_3 rfl (lv_at hl 0 rfl) ?_
      refine mm_get (ci := 0) (C := RX0) (T := TX0) (N := 3) hx hb hts in_X0 hown hK hV i_en m_en rfl 1 (by decide) f_15 (fun _ h => h) rfl dX0_leadsToWinsAlone_4 ?_
      refine lv_iload_n hx hb dX0_leadsToWinsAlone_7 rfl (lv_at hl 1 rfl) ?_
      refine mm_baldN (j := e0) hx hb hK hV i_ct m_ct hxe (by omega) (by decide) dX0_leadsToWinsAlone_8 ?_
      refine lv_icmp_ge (tgt := 38) hx hb dX0_leadsToWinsAlone_9 (by decide) (fun c9 => ?_) (fun c9 => ?_)
      · exact absurd c9 (by rw [hce.1, hx2]; exact nI_ge (by omega) (by omega))
      · have hj : j < CN e0 := by omega
        refine lv_aload_n hx hb dX0_leadsToWinsAlone_12 rfl (lv_at hl 0 rfl) ?_
        refine mm_get (ci := 0) (C := RX0) (T := TX0) (N := 3) hx hb hts in_X0 hown hK hV i_en m_en rfl 0 (by decide) f_11 (fun _ h => h) rfl dX0_leadsToWinsAlone_13 ?_
        refine lv_aload_n hx hb dX0_leadsToWinsAlone_16 rfl (lv_at hl 0 rfl) ?_
        refine mm_get (ci := 0) (C := RX0) (T := TX0) (N := 3) hx hb hts in_X0 hown hK hV i_en m_en rfl 2 (by decide) f_18 (fun _ h => h) rfl dX0_leadsToWinsAlone_17 ?_
        refine lv_iload_n hx hb dX0_leadsToWinsAlone_20 rfl (lv_at hl 1 rfl) ?_
        refine lv_iconst (v := 4) hx hb dX0_leadsToWinsAlone_21 (by decide) ?_
        refine lv_imul hx hb dX0_leadsToWinsAlone_22 ?_
        refine lv_iload_n hx hb dX0_leadsToWinsAlone_23 rfl (lv_at hl 2 rfl) ?_
        refine lv_iadd hx hb dX0_leadsToWinsAlone_24 ?_
        refine mm_saldN (j := (4 * e0 + j)) hx hb hK hV i_nz m_nz (ixN hxe hx2) (by omega) (by decide) dX0_leadsToWinsAlone_25 ?_
        refine mm_baldN (j := (NX e0 j)) hx hb hK hV i_vd m_vd (hc.2 e0 he0 j hj).1 (hc.2 e0 he0 j hj).2 (by decide) dX0_leadsToWinsAlone_26 ?_
        refine lv_if_gt (tgt := 32) hx hb dX0_leadsToWinsAlone_27 (by decide) (fun c27 => ?_) (fun c27 => ?_)
        · obtain ⟨x2_n, ex2_n⟩ : ∃ y : Int32, y = x2 + 1 := ⟨_, rfl⟩
          refine lv_iinc (v := x2_n) (lv' := [(2, .int x2_n), (0, .ref en), (1, .int x)]) hx hb dX0_leadsToWinsAlone_32 hl (k := 2) rfl (by rw [ex2_n]; rfl) (by decide) rfl (fun ls hl => ?_)
          refine lv_goto (tgt := 2) hx hb dX0_leadsToWinsAlone_35 (by decide) ?_
          exact ih (j + 1) x2_n ls (by omega) (by rw [ex2_n, hx2]; exact nI_1 j) (by rw [← hres, lwK, if_pos c27]) (lv_sub hl [1, 2, 0] rfl)
        · refine lv_iconst (v := 0) hx hb dX0_leadsToWinsAlone_30 (by decide) ?_
          exact hret (v := 0) dX0_leadsToWinsAlone_31 hV (by decide) (by decide) (by subst_vars; (repeat' split) <;> first | exact Or.inl rfl | exact Or.inr rfl) ⟨by rw [← hres, lwK, if_neg c27], rfl, rfl⟩
  exact LP (CN e0) 0 x2 ls (by omega) (by rw [ex2]; rfl) rfl (lv_sub hl [1, 2, 0] rfl)

set_option maxHeartbeats 1000000 in
set_option maxRecDepth 100000 in
theorem c_fw (l : Launch) (D : va_G) (dA : Nat → ClassId) {L : List Nat} {M : mm_M} {en vd ct nz : Nat} {vf0 cf nf : Nat → Int32} {CN : Nat → Nat} {NX : Nat → Nat → Nat} (x : Int32) (he : enW dA L M en vd ct nz vf0 cf nf) (hc : enC cf nf CN NX) : mm_Cn l D dA yX0_findWins wsX0_findWins 1 [.ref en, .int x] L M (fun r M1 => r = (fwK x CN NX 1296 0 vf0 0).2 ∧ M1 = va_up M vd (.inl (dA 1, 1297, .inl (fwK x CN NX 1296 0 vf0 0).1))) := by
  obtain ⟨i_en, i_vd, i_ct, i_nz, m_en, m_vd, m_ct, m_nz⟩ := he
  obtain ⟨RES, eRES⟩ : ∃ z, z = fwK x CN NX 1296 0 vf0 0 := ⟨_, rfl⟩
  rw [← eRES]
  refine mm_enter_z (cc := cX0_findWins) (maxL := 4) (by decide) rfl (Nat.le_of_ble_eq_true rfl) ?_
  intro p e R s m args below meth c A ls H locs Q hR hx hb hml hin hown hts hK hV hl hret
  have hl : lv_has ls 4 [(0, .ref en), (1, .int x)] := hl
  have hown : s.vm.findClass RX0 = some m.cls := hown
  have f_11 := hts (.fieldLink RX0 11 "JumpBoard$Endings" "verdicts" "[B") (by decide +kernel)
  have in_X0 : ∀ w ∈ wsX00, w ∈ wsX0_findWins := by decide +kernel
  refine lv_iconst (v := 0) hx hb dX0_findWins_0 (by decide) ?_
  refine lv_topi (fun x2 ex2 => ?_)
  refine lv_istore_n (lv' := [(2, .int x2), (0, .ref en), (1, .int x)]) hx hb dX0_findWins_1 rfl hl (by decide) rfl (fun ls hl => ?_)
  refine lv_iconst (v := 0) hx hb dX0_findWins_2 (by decide) ?_
  refine lv_topi (fun x3 ex3 => ?_)
  refine lv_istore_n (lv' := [(3, .int x3), (2, .int x2), (0, .ref en), (1, .int x)]) hx hb dX0_findWins_3 rfl hl (by decide) rfl (fun ls hl => ?_)
  have LP : ∀ (k e0 : Nat) (x2 x3 : Int32) (vf : Nat → Int32) (M1 : mm_M) (H : Heap) (locs : List Loc) (ls : Array Slot), e0 + k = 1296 → x3 = nI e0 → (x2 = 0 ∨ x2 = 1) → fwK x CN NX k e0 vf x2 = RES → mm_V A D L M1 s H locs → M1 en = .inr (0, [.ref vd, .ref ct, .ref nz]) → M1 vd = .inl (dA 1, 1297, .inl vf) → M1 ct = .inl (dA 1, 1296, .inl cf) → M1 nz = .inl (dA 2, 5184, .inl nf) → (∀ q : Nat, q ≠ vd → M1 q = M q) → lv_has ls 4 [(0, .ref en), (1, .int x), (2, .int x2), (3, .int x3)] → W p l e R s m args below meth c H locs 0 0 Q (F0 m 4 ls []) := by
    intro k
    induction k with
    | zero =>
      intro e0 x2 x3 vf M1 H locs ls hek hx3 h01 hres hV m_en m_vd m_ct m_nz fr hl
      refine lv_iload_n hx hb dX0_findWins_4 rfl (lv_at hl 3 rfl) ?_
      refine lv_sipush (v := 1296) hx hb dX0_findWins_5 (by decide) ?_
      refine lv_icmp_ge (tgt := 44) hx hb dX0_findWins_8 (by decide) (fun c8 => ?_) (fun c8 => ?_)
      · have hres2 : RES = (vf, x2) := hres.symm
        refine lv_iload_n hx hb dX0_findWins_44 rfl (lv_at hl 2 rfl) ?_
        exact hret (v := x2) dX0_findWins_45 hV (by decide) (by decide) h01 ⟨rfl, by rw [hres2], by rw [hres2]; exact mm_fin1 m_vd fr⟩
      · exact absurd (by rw [hx3]; exact nI_le (a := 1296) (by omega) (by omega)) c8
    | succ k ih =>
      intro e0 x2 x3 vf M1 H locs ls hek hx3 h01 hres hV m_en m_vd m_ct m_nz fr hl
      refine lv_iload_n hx hb dX0_findWins_4 rfl (lv_at hl 3 rfl) ?_
      refine lv_sipush (v := 1296) hx hb dX0_findWins_5 (by decide) ?_
      refine lv_icmp_ge (tgt := 44) hx hb dX0_findWins_8 (by decide) (fun c8 => ?_) (fun c8 => ?_)
      · exact absurd c8 (by rw [hx3]; exact nI_ge (b := 1296) (by omega) (by decide))
      · have he0 : e0 < 1296 := by omega
        have hce := hc.1 e0 he0
        refine lv_aload_n hx hb dX0_findWins_11 rfl (lv_at hl 0 rfl) ?_
        refine mm_get (ci := 0) (C := RX0) (T := TX0) (N := 3) hx hb hts in_X0 hown hK hV i_en m_en rfl 0 (by decide) f_11 (fun _ h => h) rfl dX0_findWins_12 ?_
        refine lv_iload_n hx hb dX0_findWins_15 rfl (lv_at hl 3 rfl) ?_
        refine mm_baldN (j := e0) hx hb hK hV i_vd m_vd hx3 (by omega) (by decide) dX0_findWins_16 ?_
        refine lv_if_ne (tgt := 38) hx hb dX0_findWins_17 (by decide) (fun c17 => ?_) (fun c17 => ?_)
        · obtain ⟨x3_n, ex3_n⟩ : ∃ y : Int32, y = x3 + 1 := ⟨_, rfl⟩
          refine lv_iinc (v := x3_n) (lv' := [(3, .int x3_n), (0, .ref en), (1, .int x), (2, .int x2)]) hx hb dX0_findWins_38 hl (k := 3) rfl (by rw [ex3_n]; rfl) (by decide) rfl (fun ls hl => ?_)
          refine lv_goto (tgt := 4) hx hb dX0_findWins_41 (by decide) ?_
          exact ih (e0 + 1) x2 x3_n vf M1 _ _ ls (by omega) (by rw [ex3_n, hx3]; exact nI_1 e0) h01 (by rw [← hres, fwK, if_neg c17]) hV m_en m_vd m_ct m_nz fr (lv_sub hl [1, 2, 3, 0] rfl)
        · refine lv_aload_n hx hb dX0_findWins_20 rfl (lv_at hl 0 rfl) ?_
          refine lv_iload_n hx hb dX0_findWins_21 rfl (lv_at hl 3 rfl) ?_
          refine mm_Vp (v := (llK vf (NX e0) (CN e0) 0)) (ci := 0) (As := [.int x3]) (rest := []) ⟨hx, hb, hml, hown, hts⟩ hK hV (c_ltl l D dA (e0 := e0) x3 ⟨i_en, i_vd, i_ct, i_nz, m_en, m_vd, m_ct, m_nz⟩ hc hx3 he0) (cwV 1 hts gX0_findWins_X0_leadsToLoss rfl rfl rfl (by decide +kernel) (mm_levR hR (by omega) (by decide))) i_en m_en rfl rfl hl.1 rfl (Nat.le_of_ble_eq_true rfl) dX0_findWins_22 ⟨Nat.zero_le _, Nat.zero_le _⟩ (fun H locs hV => ?_)
          refine lv_if_eq (tgt := 38) hx hb dX0_findWins_25 (by decide) (fun c25 => ?_) (fun c25 => ?_)
          · obtain ⟨x3_n, ex3_n⟩ : ∃ y : Int32, y = x3 + 1 := ⟨_, rfl⟩
            refine lv_iinc (v := x3_n) (lv' := [(3, .int x3_n), (0, .ref en), (1, .int x), (2, .int x2)]) hx hb dX0_findWins_38 hl (k := 3) rfl (by rw [ex3_n]; rfl) (by decide) rfl (fun ls hl => ?_)
            refine lv_goto (tgt := 4) hx hb dX0_findWins_41 (by decide) ?_
            exact ih (e0 + 1) x2 x3_n vf M1 _ _ ls (by omega) (by rw [ex3_n, hx3]; exact nI_1 e0) h01 (by rw [← hres, fwK, if_pos c17, if_pos c25]) hV m_en m_vd m_ct m_nz fr (lv_sub hl [1, 2, 3, 0] rfl)
          · refine lv_aload_n hx hb dX0_findWins_28 rfl (lv_at hl 0 rfl) ?_
            refine mm_get (ci := 0) (C := RX0) (T := TX0) (N := 3) hx hb hts in_X0 hown hK hV i_en m_en rfl 0 (by decide) f_11 (fun _ h => h) rfl dX0_findWins_29 ?_
            refine lv_iload_n hx hb dX0_findWins_32 rfl (lv_at hl 3 rfl) ?_
            refine lv_iload_n hx hb dX0_findWins_33 rfl (lv_at hl 1 rfl) ?_
            refine lv_i2b hx hb dX0_findWins_34 rfl ?_
            refine lv_topi (fun vb evb => ?_)
            refine mm_bastN (j := e0) (x := vb) hx hb hK hV i_vd m_vd hx3 (by omega) (by decide) dX0_findWins_35 (fun M_1 H locs eM_1 hV => ?_)
            have m_en : M_1 en = _ := (congrFun eM_1 en).trans ((va_up_ne _ _ (mm_neq m_en m_vd (by intro h; cases h))).trans m_en)
            have m_ct : M_1 ct = _ := (congrFun eM_1 ct).trans ((va_up_ne _ _ (mm_neq m_ct m_vd (mm_nelen (by decide)))).trans m_ct)
            have m_nz : M_1 nz = _ := (congrFun eM_1 nz).trans ((va_up_ne _ _ (mm_neq m_nz m_vd (mm_nelen (by decide)))).trans m_nz)
            have m_vd : M_1 vd = .inl (dA 1, 1297, .inl (upd vf e0 (vp_nar .byte vb))) := by rw [eM_1]; exact va_up_self _ _ _
            have fr : ∀ q : Nat, q ≠ vd → M_1 q = M q := fun q h0 => (congrFun eM_1 q).trans ((va_up_ne _ _ h0).trans (fr q h0))
            refine lv_iconst (v := 1) hx hb dX0_findWins_36 (by decide) ?_
            refine lv_topi (fun x2_n ex2_n => ?_)
            refine lv_istore_n (lv' := [(2, .int x2_n), (0, .ref en), (1, .int x), (3, .int x3)]) hx hb dX0_findWins_37 rfl hl (by decide) rfl (fun ls hl => ?_)
            obtain ⟨x3_n, ex3_n⟩ : ∃ y : Int32, y = x3 + 1 := ⟨_, rfl⟩
            refine lv_iinc (v := x3_n) (lv' := [(3, .int x3_n), (2, .int x2_n), (0, .ref en), (1, .int x)]) hx hb dX0_findWins_38 hl (k := 3) rfl (by rw [ex3_n]; rfl) (by decide) rfl (fun ls hl => ?_)
            refine lv_goto (tgt := 4) hx hb dX0_findWins_41 (by decide) ?_
            exact ih (e0 + 1) x2_n x3_n (upd vf e0 vb) M_1 _ _ ls (by omega) (by rw [ex3_n, hx3]; exact nI_1 e0) (Or.inr ex2_n) (by rw [← hres, fwK, if_pos c17, if_neg c25, ← evb, ← ex2_n]) hV m_en (by rw [m_vd]; rw [show vp_nar .byte vb = vb from by rw [evb]; exact pk_vb _]) m_ct m_nz fr (lv_sub hl [2, 3, 1, 0] rfl)
  exact LP 1296 0 x2 x3 vf0 M H locs ls rfl (by rw [ex3]; rfl) (Or.inl ex2) (by rw [ex2]; exact eRES.symm) hV m_en m_vd m_ct m_nz (fun q _ => rfl) (lv_sub hl [2, 3, 1, 0] rfl)

set_option maxHeartbeats 1000000 in
set_option maxRecDepth 100000 in
theorem c_fl (l : Launch) (D : va_G) (dA : Nat → ClassId) {L : List Nat} {M : mm_M} {en vd ct nz : Nat} {vf0 cf nf : Nat → Int32} {CN : Nat → Nat} {NX : Nat → Nat → Nat} (x : Int32) (he : enW dA L M en vd ct nz vf0 cf nf) (hc : enC cf nf CN NX) : mm_Cn l D dA yX0_findLosses wsX0_findLosses 1 [.ref en, .int x] L M (fun r M1 => r = (flK x CN NX 1296 0 vf0 0).2 ∧ M1 = va_up M vd (.inl (dA 1, 1297, .inl (flK x CN NX 1296 0 vf0 0).1))) := by
  obtain ⟨i_en, i_vd, i_ct, i_nz, m_en, m_vd, m_ct, m_nz⟩ := he
  obtain ⟨RES, eRES⟩ : ∃ z, z = flK x CN NX 1296 0 vf0 0 := ⟨_, rfl⟩
  rw [← eRES]
  refine mm_enter_z (cc := cX0_findLosses) (maxL := 4) (by decide) rfl (Nat.le_of_ble_eq_true rfl) ?_
  intro p e R s m args below meth c A ls H locs Q hR hx hb hml hin hown hts hK hV hl hret
  have hl : lv_has ls 4 [(0, .ref en), (1, .int x)] := hl
  have hown : s.vm.findClass RX0 = some m.cls := hown
  have f_11 := hts (.fieldLink RX0 11 "JumpBoard$Endings" "verdicts" "[B") (by decide +kernel)
  have in_X0 : ∀ w ∈ wsX00, w ∈ wsX0_findLosses := by decide +kernel
  have f_15 := hts (.fieldLink RX0 15 "JumpBoard$Endings" "counts" "[B") (by decide +kernel)
  refine lv_iconst (v := 0) hx hb dX0_findLosses_0 (by decide) ?_
  refine lv_topi (fun x2 ex2 => ?_)
  refine lv_istore_n (lv' := [(2, .int x2), (0, .ref en), (1, .int x)]) hx hb dX0_findLosses_1 rfl hl (by decide) rfl (fun ls hl => ?_)
  refine lv_iconst (v := 0) hx hb dX0_findLosses_2 (by decide) ?_
  refine lv_topi (fun x3 ex3 => ?_)
  refine lv_istore_n (lv' := [(3, .int x3), (2, .int x2), (0, .ref en), (1, .int x)]) hx hb dX0_findLosses_3 rfl hl (by decide) rfl (fun ls hl => ?_)
  have LP : ∀ (k e0 : Nat) (x2 x3 : Int32) (vf : Nat → Int32) (M1 : mm_M) (H : Heap) (locs : List Loc) (ls : Array Slot), e0 + k = 1296 → x3 = nI e0 → (x2 = 0 ∨ x2 = 1) → flK x CN NX k e0 vf x2 = RES → mm_V A D L M1 s H locs → M1 en = .inr (0, [.ref vd, .ref ct, .ref nz]) → M1 vd = .inl (dA 1, 1297, .inl vf) → M1 ct = .inl (dA 1, 1296, .inl cf) → M1 nz = .inl (dA 2, 5184, .inl nf) → (∀ q : Nat, q ≠ vd → M1 q = M q) → lv_has ls 4 [(0, .ref en), (1, .int x), (2, .int x2), (3, .int x3)] → W p l e R s m args below meth c H locs 0 0 Q (F0 m 4 ls []) := by
    intro k
    induction k with
    | zero =>
      intro e0 x2 x3 vf M1 H locs ls hek hx3 h01 hres hV m_en m_vd m_ct m_nz fr hl
      refine lv_iload_n hx hb dX0_findLosses_4 rfl (lv_at hl 3 rfl) ?_
      refine lv_sipush (v := 1296) hx hb dX0_findLosses_5 (by decide) ?_
      refine lv_icmp_ge (tgt := 54) hx hb dX0_findLosses_8 (by decide) (fun c8 => ?_) (fun c8 => ?_)
      · have hres2 : RES = (vf, x2) := hres.symm
        refine lv_iload_n hx hb dX0_findLosses_54 rfl (lv_at hl 2 rfl) ?_
        exact hret (v := x2) dX0_findLosses_55 hV (by decide) (by decide) h01 ⟨rfl, by rw [hres2], by rw [hres2]; exact mm_fin1 m_vd fr⟩
      · exact absurd (by rw [hx3]; exact nI_le (a := 1296) (by omega) (by omega)) c8
    | succ k ih =>
      intro e0 x2 x3 vf M1 H locs ls hek hx3 h01 hres hV m_en m_vd m_ct m_nz fr hl
      refine lv_iload_n hx hb dX0_findLosses_4 rfl (lv_at hl 3 rfl) ?_
      refine lv_sipush (v := 1296) hx hb dX0_findLosses_5 (by decide) ?_
      refine lv_icmp_ge (tgt := 54) hx hb dX0_findLosses_8 (by decide) (fun c8 => ?_) (fun c8 => ?_)
      · exact absurd c8 (by rw [hx3]; exact nI_ge (b := 1296) (by omega) (by decide))
      · have he0 : e0 < 1296 := by omega
        have hce := hc.1 e0 he0
        refine lv_aload_n hx hb dX0_findLosses_11 rfl (lv_at hl 0 rfl) ?_
        refine mm_get (ci := 0) (C := RX0) (T := TX0) (N := 3) hx hb hts in_X0 hown hK hV i_en m_en rfl 0 (by decide) f_11 (fun _ h => h) rfl dX0_findLosses_12 ?_
        refine lv_iload_n hx hb dX0_findLosses_15 rfl (lv_at hl 3 rfl) ?_
        refine mm_baldN (j := e0) hx hb hK hV i_vd m_vd hx3 (by omega) (by decide) dX0_findLosses_16 ?_
        refine lv_if_ne (tgt := 48) hx hb dX0_findLosses_17 (by decide) (fun c17 => ?_) (fun c17 => ?_)
        · obtain ⟨x3_n, ex3_n⟩ : ∃ y : Int32, y = x3 + 1 := ⟨_, rfl⟩
          refine lv_iinc (v := x3_n) (lv' := [(3, .int x3_n), (0, .ref en), (1, .int x), (2, .int x2)]) hx hb dX0_findLosses_48 hl (k := 3) rfl (by rw [ex3_n]; rfl) (by decide) rfl (fun ls hl => ?_)
          refine lv_goto (tgt := 4) hx hb dX0_findLosses_51 (by decide) ?_
          exact ih (e0 + 1) x2 x3_n vf M1 _ _ ls (by omega) (by rw [ex3_n, hx3]; exact nI_1 e0) h01 (by rw [← hres, flK, if_neg c17]) hV m_en m_vd m_ct m_nz fr (lv_sub hl [1, 2, 3, 0] rfl)
        · refine lv_aload_n hx hb dX0_findLosses_20 rfl (lv_at hl 0 rfl) ?_
          refine mm_get (ci := 0) (C := RX0) (T := TX0) (N := 3) hx hb hts in_X0 hown hK hV i_en m_en rfl 1 (by decide) f_15 (fun _ h => h) rfl dX0_findLosses_21 ?_
          refine lv_iload_n hx hb dX0_findLosses_24 rfl (lv_at hl 3 rfl) ?_
          refine mm_baldN (j := e0) hx hb hK hV i_ct m_ct hx3 (by omega) (by decide) dX0_findLosses_25 ?_
          refine lv_if_le (tgt := 48) hx hb dX0_findLosses_26 (by decide) (fun c26 => ?_) (fun c26 => ?_)
          · obtain ⟨x3_n, ex3_n⟩ : ∃ y : Int32, y = x3 + 1 := ⟨_, rfl⟩
            refine lv_iinc (v := x3_n) (lv' := [(3, .int x3_n), (0, .ref en), (1, .int x), (2, .int x2)]) hx hb dX0_findLosses_48 hl (k := 3) rfl (by rw [ex3_n]; rfl) (by decide) rfl (fun ls hl => ?_)
            refine lv_goto (tgt := 4) hx hb dX0_findLosses_51 (by decide) ?_
            exact ih (e0 + 1) x2 x3_n vf M1 _ _ ls (by omega) (by rw [ex3_n, hx3]; exact nI_1 e0) h01 (by rw [← hres, flK, if_pos c17, if_pos (mm_zero (by omega) (by rw [← hce.1]; exact c26))]) hV m_en m_vd m_ct m_nz fr (lv_sub hl [1, 2, 3, 0] rfl)
          · refine lv_aload_n hx hb dX0_findLosses_29 rfl (lv_at hl 0 rfl) ?_
            refine lv_iload_n hx hb dX0_findLosses_30 rfl (lv_at hl 3 rfl) ?_
            refine mm_Vp (v := (lwK vf (NX e0) (CN e0) 0)) (ci := 0) (As := [.int x3]) (rest := []) ⟨hx, hb, hml, hown, hts⟩ hK hV (c_ltw l D dA (e0 := e0) x3 ⟨i_en, i_vd, i_ct, i_nz, m_en, m_vd, m_ct, m_nz⟩ hc hx3 he0) (cwV 1 hts gX0_findLosses_X0_leadsToWinsAlone rfl rfl rfl (by decide +kernel) (mm_levR hR (by omega) (by decide))) i_en m_en rfl rfl hl.1 rfl (Nat.le_of_ble_eq_true rfl) dX0_findLosses_31 ⟨Nat.zero_le _, Nat.zero_le _⟩ (fun H locs hV => ?_)
            refine lv_if_eq (tgt := 48) hx hb dX0_findLosses_34 (by decide) (fun c34 => ?_) (fun c34 => ?_)
            · obtain ⟨x3_n, ex3_n⟩ : ∃ y : Int32, y = x3 + 1 := ⟨_, rfl⟩
              refine lv_iinc (v := x3_n) (lv' := [(3, .int x3_n), (0, .ref en), (1, .int x), (2, .int x2)]) hx hb dX0_findLosses_48 hl (k := 3) rfl (by rw [ex3_n]; rfl) (by decide) rfl (fun ls hl => ?_)
              refine lv_goto (tgt := 4) hx hb dX0_findLosses_51 (by decide) ?_
              exact ih (e0 + 1) x2 x3_n vf M1 _ _ ls (by omega) (by rw [ex3_n, hx3]; exact nI_1 e0) h01 (by rw [← hres, flK, if_pos c17, if_neg (Nat.ne_of_gt (mm_pos (by omega) (by rw [← hce.1]; exact c26))), if_pos c34]) hV m_en m_vd m_ct m_nz fr (lv_sub hl [1, 2, 3, 0] rfl)
            · refine lv_aload_n hx hb dX0_findLosses_37 rfl (lv_at hl 0 rfl) ?_
              refine mm_get (ci := 0) (C := RX0) (T := TX0) (N := 3) hx hb hts in_X0 hown hK hV i_en m_en rfl 0 (by decide) f_11 (fun _ h => h) rfl dX0_findLosses_38 ?_
              refine lv_iload_n hx hb dX0_findLosses_41 rfl (lv_at hl 3 rfl) ?_
              refine lv_iload_n hx hb dX0_findLosses_42 rfl (lv_at hl 1 rfl) ?_
              refine lv_ineg hx hb dX0_findLosses_43 ?_
              refine lv_i2b hx hb dX0_findLosses_44 rfl ?_
              refine lv_topi (fun vb evb => ?_)
              refine mm_bastN (j := e0) (x := vb) hx hb hK hV i_vd m_vd hx3 (by omega) (by decide) dX0_findLosses_45 (fun M_1 H locs eM_1 hV => ?_)
              have m_en : M_1 en = _ := (congrFun eM_1 en).trans ((va_up_ne _ _ (mm_neq m_en m_vd (by intro h; cases h))).trans m_en)
              have m_ct : M_1 ct = _ := (congrFun eM_1 ct).trans ((va_up_ne _ _ (mm_neq m_ct m_vd (mm_nelen (by decide)))).trans m_ct)
              have m_nz : M_1 nz = _ := (congrFun eM_1 nz).trans ((va_up_ne _ _ (mm_neq m_nz m_vd (mm_nelen (by decide)))).trans m_nz)
              have m_vd : M_1 vd = .inl (dA 1, 1297, .inl (upd vf e0 (vp_nar .byte vb))) := by rw [eM_1]; exact va_up_self _ _ _
              have fr : ∀ q : Nat, q ≠ vd → M_1 q = M q := fun q h0 => (congrFun eM_1 q).trans ((va_up_ne _ _ h0).trans (fr q h0))
              refine lv_iconst (v := 1) hx hb dX0_findLosses_46 (by decide) ?_
              refine lv_topi (fun x2_n ex2_n => ?_)
              refine lv_istore_n (lv' := [(2, .int x2_n), (0, .ref en), (1, .int x), (3, .int x3)]) hx hb dX0_findLosses_47 rfl hl (by decide) rfl (fun ls hl => ?_)
              obtain ⟨x3_n, ex3_n⟩ : ∃ y : Int32, y = x3 + 1 := ⟨_, rfl⟩
              refine lv_iinc (v := x3_n) (lv' := [(3, .int x3_n), (2, .int x2_n), (0, .ref en), (1, .int x)]) hx hb dX0_findLosses_48 hl (k := 3) rfl (by rw [ex3_n]; rfl) (by decide) rfl (fun ls hl => ?_)
              refine lv_goto (tgt := 4) hx hb dX0_findLosses_51 (by decide) ?_
              exact ih (e0 + 1) x2_n x3_n (upd vf e0 vb) M_1 _ _ ls (by omega) (by rw [ex3_n, hx3]; exact nI_1 e0) (Or.inr ex2_n) (by rw [← hres, flK, if_pos c17, if_neg (Nat.ne_of_gt (mm_pos (by omega) (by rw [← hce.1]; exact c26))), if_neg c34, ← evb, ← ex2_n]) hV m_en (by rw [m_vd]; rw [show vp_nar .byte vb = vb from by rw [evb]; exact pk_vb _]) m_ct m_nz fr (lv_sub hl [2, 3, 1, 0] rfl)
  exact LP 1296 0 x2 x3 vf0 M H locs ls rfl (by rw [ex3]; rfl) (Or.inl ex2) (by rw [ex2]; exact eRES.symm) hV m_en m_vd m_ct m_nz (fun q _ => rfl) (lv_sub hl [2, 3, 1, 0] rfl)
