def putOK (x y : Int32) : Int32 :=
  if isSqF x = 0 then 0 else if y < 0 then 0 else if y ≤ 4 then
    (if y = 1 then (if ((1 : Int32) <<< (x &&& 31)) &&& 229376 = 0 then (if y = 3 then (if ((1 : Int32) <<< (x &&& 31)) &&& 7 = 0 then 1 else 0) else 1) else 0) else (if y = 3 then (if ((1 : Int32) <<< (x &&& 31)) &&& 7 = 0 then 1 else 0) else 1)) else 0
def turnOK (x : Int32) : Int32 := if x = 0 then 1 else if x = 1 then 1 else 0
def mvPk (P : Ps) (f0 : Nat → Int32) (x : Int32) : Int32 := (movesF P f0).1 x.toNatClampNeg
def moveF (P : Ps) (f0 : Nat → Int32) (x y : Int32) : Int32 := if x < 0 then -1 else if x < nI (movesF P f0).2 then (if y = 0 then mvB (mvPk P f0 x) else if y = 1 then mvE (mvPk P f0 x) else if y = 2 then mvT (mvPk P f0 x) else -1) else -1
def mvM (dA : Nat → ClassId) (M : mm_M) (z : Nat → Nat) (P : Ps) (f0 : Nat → Int32) : mm_M := va_up (va_up M (z 5) (oL (z 6) (nI (movesF P f0).2))) (z 6) (.inl (dA 0, 72, .inl (movesF P f0).1))
def playOK (P : Ps) (f0 : Nat → Int32) (lt : Nat) (x : Int32) : Prop := overF P = 0 ∧ ¬ x < 0 ∧ x < nI (movesF P f0).2 ∧ lt < 100
theorem mm_sw3 {x : Int32} (h0 : ¬ x = 0) (h1 : ¬ x = 1) (h2 : ¬ x = 2) : x.toInt < 0 ∨ 2 < x.toInt := by
  have a0 := lv_neT h0 (show (0 : Int32).toInt = 0 by decide)
  have a1 := lv_neT h1 (show (1 : Int32).toInt = 1 by decide)
  have a2 := lv_neT h2 (show (2 : Int32).toInt = 2 by decide)
  omega

set_option maxHeartbeats 1000000 in
set_option maxRecDepth 100000 in
theorem c_put (l : Launch) (D : va_G) (dA : Nat → ClassId) {L : List Nat} {M : mm_M} {z : Nat → Nat} {ev : Value} {lt : Nat} {P : Ps} {P0 : Ps} (x : Int32) (y : Int32) (hz : zW L z) (m_0 : M (z 0) = jO z ev lt) (m_4 : M (z 4) = .inl (dA 4, 101, .inr (.inr (.inr (.inr (gzL z)))))) (hlt : lt ≤ 100) (m_p : M (z (10 + lt)) = oP P) (m_q : M (z 10) = oP P0) : mm_Cn l D dA yX4_put wsX4_put 2 [.ref (z 0), .int x, .int y] L M (fun r M1 => r = putOK x y ∧ M1 = if putOK x y = 0 then M else va_up (va_up M (z 10) (oP (placeP (quietP P) ((1 : Int32) <<< (x &&& 31)) y))) (z 0) (jO z ev 0)) := by
  have m_0 : M (z 0) = .inr (4, [.ref (z 1), ev, .ref (z 4), .int (nI lt), .ref (z 5), .ref (z 7), .ref (z 8), .ref (z 9)]) := m_0
  have m_q : M (z 10) = .inr (2, [.int P0.1, .int P0.2.1, .int P0.2.2.1, .int P0.2.2.2.1, .int P0.2.2.2.2]) := m_q
  refine mm_enter_z (cc := cX4_put) (maxL := 4) (by decide) rfl (Nat.le_of_ble_eq_true rfl) ?_
  intro p e R s m args below meth c A ls H locs Q hR hx hb hml hin hown hts hK hV hl hret
  have hl : lv_has ls 4 [(0, .ref (z 0)), (1, .int x), (2, .int y)] := hl
  have hown : s.vm.findClass RX4 = some m.cls := hown
  have f_22 := hts (.fieldLink RX4 22 "JumpBoard" "line" "[LJumpBoard$Position;") (by decide +kernel)
  have in_X4 : ∀ w ∈ wsX40, w ∈ wsX4_put := by decide +kernel
  refine lv_iload_n hx hb dX4_put_0 rfl (lv_at hl 1 rfl) ?_
  refine mm_Sp (v := (isSqF x)) (As := [.int x]) (rest := []) ⟨hx, hb, hml, hown, hts⟩ hK hV (c_isSq l D dA x) (va_cwS 1 hts gX4_put_X4_isSquare rfl rfl rfl (by decide +kernel) (mm_levR hR (by omega) (by decide))) rfl hl.1 rfl (Nat.le_of_ble_eq_true rfl) dX4_put_1 ⟨Nat.zero_le _, Nat.zero_le _⟩ (fun H locs hV => ?_)
  refine lv_if_eq (tgt := 16) hx hb dX4_put_4 (by decide) (fun c4 => ?_) (fun c4 => ?_)
  · refine lv_iconst (v := 0) hx hb dX4_put_16 (by decide) ?_
    exact hret (v := 0) dX4_put_17 hV (by decide) (by decide) (by subst_vars; (repeat' split) <;> first | exact Or.inl rfl | exact Or.inr rfl) ⟨rfl, (show putOK x y = 0 from by unfold putOK; rw [if_pos c4]).symm, by rw [if_pos (show putOK x y = 0 from by unfold putOK; rw [if_pos c4])]⟩
  · refine lv_iload_n hx hb dX4_put_7 rfl (lv_at hl 2 rfl) ?_
    refine lv_if_lt (tgt := 16) hx hb dX4_put_8 (by decide) (fun c8 => ?_) (fun c8 => ?_)
    · refine lv_iconst (v := 0) hx hb dX4_put_16 (by decide) ?_
      exact hret (v := 0) dX4_put_17 hV (by decide) (by decide) (by subst_vars; (repeat' split) <;> first | exact Or.inl rfl | exact Or.inr rfl) ⟨rfl, (show putOK x y = 0 from by unfold putOK; rw [if_neg c4, if_pos c8]).symm, by rw [if_pos (show putOK x y = 0 from by unfold putOK; rw [if_neg c4, if_pos c8])]⟩
    · refine lv_iload_n hx hb dX4_put_11 rfl (lv_at hl 2 rfl) ?_
      refine lv_iconst (v := 4) hx hb dX4_put_12 (by decide) ?_
      refine lv_icmp_le (tgt := 18) hx hb dX4_put_13 (by decide) (fun c13 => ?_) (fun c13 => ?_)
      · refine lv_iconst (v := 1) hx hb dX4_put_18 (by decide) ?_
        refine lv_iload_n hx hb dX4_put_19 rfl (lv_at hl 1 rfl) ?_
        refine lv_ishl hx hb dX4_put_20 ?_
        refine lv_topi (fun x3 ex3 => ?_)
        refine lv_istore_n (lv' := [(3, .int x3), (0, .ref (z 0)), (1, .int x), (2, .int y)]) hx hb dX4_put_21 rfl hl (by decide) rfl (fun ls hl => ?_)
        refine lv_iload_n hx hb dX4_put_22 rfl (lv_at hl 3 rfl) ?_
        refine lv_iconst (v := 1) hx hb dX4_put_23 (by decide) ?_
        refine lv_icmp_ne (tgt := 36) hx hb dX4_put_24 (by decide) (fun c24 => ?_) (fun c24 => ?_)
        · refine lv_iload_n hx hb dX4_put_36 rfl (lv_at hl 3 rfl) ?_
          refine lv_iconst (v := 3) hx hb dX4_put_37 (by decide) ?_
          refine lv_icmp_ne (tgt := 50) hx hb dX4_put_38 (by decide) (fun c38 => ?_) (fun c38 => ?_)
          · refine lv_aload_n hx hb dX4_put_50 rfl (lv_at hl 1 rfl) ?_
            refine mm_Vm (ci := 4) (As := []) (rest := []) ⟨hx, hb, hml, hown, hts⟩ hK hV (c_forget l D dA hz m_0 m_4 hlt m_p m_q) (cwV 0 hts gX4_put_X4_forgetGame rfl rfl rfl (by decide +kernel) (mm_levR hR (by omega) (by decide))) (hz.1 0 (by omega)) m_0 rfl rfl hl.1 rfl (Nat.le_of_ble_eq_true rfl) dX4_put_51 ⟨Nat.zero_le _, Nat.zero_le _⟩ (fun M_1 H locs eM_1 hV => ?_)
            have m_4 : M_1 (z 4) = _ := (congrFun eM_1 (z 4)).trans ((va_up_ne _ _ (hz.ne (i := 4) (j := 0) (by omega) (by omega) (by omega))).trans ((va_up_ne _ _ (hz.ne (i := 4) (j := 10) (by omega) (by omega) (by omega))).trans m_4))
            have m_q : M_1 (z 10) = .inr (2, [.int ((quietP P).1), .int ((quietP P).2.1), .int ((quietP P).2.2.1), .int ((quietP P).2.2.2.1), .int ((quietP P).2.2.2.2)]) := (congrFun eM_1 (z 10)).trans ((va_up_ne _ _ (hz.ne (i := 10) (j := 0) (by omega) (by omega) (by omega))).trans (va_up_self _ _ _))
            have m_0 : M_1 (z 0) = .inr (4, [.ref (z 1), ev, .ref (z 4), .int (nI 0), .ref (z 5), .ref (z 7), .ref (z 8), .ref (z 9)]) := (congrFun eM_1 (z 0)).trans (va_up_self _ _ _)
            have fr : ∀ q : Nat, q ≠ (z 10) → q ≠ (z 0) → M_1 q = M q := fun q h0 h1 => (congrFun eM_1 q).trans ((va_up_ne _ _ h1).trans ((va_up_ne _ _ h0).trans rfl))
            refine lv_aload_n hx hb dX4_put_54 rfl (lv_at hl 1 rfl) ?_
            refine mm_get (ci := 4) (C := RX4) (T := TX4) (N := 8) hx hb hts in_X4 hown hK hV (hz.1 0 (by omega)) m_0 rfl 2 (by decide) f_22 (fun _ h => h) rfl dX4_put_55 ?_
            refine lv_iconst (v := 0) hx hb dX4_put_58 (by decide) ?_
            refine mm_aaldN (j := 0) (b := (z 10)) hx hb hK hV 4 (hz.1 4 (by omega)) m_4 rfl rfl (by omega) (by decide) (gzL_at (i := 0) (by omega)) dX4_put_59 ?_
            refine lv_iload_n hx hb dX4_put_60 rfl (lv_at hl 0 rfl) ?_
            refine lv_iload_n hx hb dX4_put_61 rfl (lv_at hl 3 rfl) ?_
            refine mm_Vm (ci := 2) (As := [.int x3, .int y]) (rest := []) ⟨hx, hb, hml, hown, hts⟩ hK hV (c_place l D dA (P := (quietP P)) x3 y (hz.1 10 (by omega)) m_q) (cwV 2 hts gX4_put_X2_place rfl rfl rfl (by decide +kernel) (mm_levR hR (by omega) (by decide))) (hz.1 10 (by omega)) m_q rfl rfl hl.1 rfl (Nat.le_of_ble_eq_true rfl) dX4_put_62 ⟨Nat.zero_le _, Nat.zero_le _⟩ (fun M_2 H locs eM_2 hV => ?_)
            have m_0 : M_2 (z 0) = _ := (congrFun eM_2 (z 0)).trans ((va_up_ne _ _ (hz.ne (i := 0) (j := 10) (by omega) (by omega) (by omega))).trans m_0)
            have m_4 : M_2 (z 4) = _ := (congrFun eM_2 (z 4)).trans ((va_up_ne _ _ (hz.ne (i := 4) (j := 10) (by omega) (by omega) (by omega))).trans m_4)
            have m_q : M_2 (z 10) = .inr (2, [.int ((placeP (quietP P) x3 y).1), .int ((placeP (quietP P) x3 y).2.1), .int ((placeP (quietP P) x3 y).2.2.1), .int ((placeP (quietP P) x3 y).2.2.2.1), .int ((placeP (quietP P) x3 y).2.2.2.2)]) := by rw [eM_2]; exact va_up_self _ _ _
            have fr : ∀ q : Nat, q ≠ (z 10) → q ≠ (z 0) → M_2 q = M q := fun q h0 h1 => (congrFun eM_2 q).trans ((va_up_ne _ _ h0).trans (fr q h0 h1))
            refine lv_iconst (v := 1) hx hb dX4_put_65 (by decide) ?_
            exact hret (v := 1) dX4_put_66 hV (by decide) (by decide) (by subst_vars; (repeat' split) <;> first | exact Or.inl rfl | exact Or.inr rfl) ⟨rfl, (show putOK x y = 1 from by unfold putOK; rw [← ex3, if_neg c4, if_neg c8, if_pos c13, if_neg c24, if_neg c38]).symm, by rw [if_neg (by rw [show putOK x y = 1 from (show putOK x y = 1 from by unfold putOK; rw [← ex3, if_neg c4, if_neg c8, if_pos c13, if_neg c24, if_neg c38])]; decide)]; exact mm_fin2 (m_q.trans (by rw [ex3]; rfl)) m_0 (hz.ne (by omega) (by omega) (by omega)) fr⟩
          · refine lv_iload_n hx hb dX4_put_41 rfl (lv_at hl 0 rfl) ?_
            refine lv_bipush (v := 7) hx hb dX4_put_42 (by decide) ?_
            refine lv_iand hx hb dX4_put_44 ?_
            refine lv_if_eq (tgt := 50) hx hb dX4_put_45 (by decide) (fun c45 => ?_) (fun c45 => ?_)
            · refine lv_aload_n hx hb dX4_put_50 rfl (lv_at hl 1 rfl) ?_
              refine mm_Vm (ci := 4) (As := []) (rest := []) ⟨hx, hb, hml, hown, hts⟩ hK hV (c_forget l D dA hz m_0 m_4 hlt m_p m_q) (cwV 0 hts gX4_put_X4_forgetGame rfl rfl rfl (by decide +kernel) (mm_levR hR (by omega) (by decide))) (hz.1 0 (by omega)) m_0 rfl rfl hl.1 rfl (Nat.le_of_ble_eq_true rfl) dX4_put_51 ⟨Nat.zero_le _, Nat.zero_le _⟩ (fun M_3 H locs eM_3 hV => ?_)
              have m_4 : M_3 (z 4) = _ := (congrFun eM_3 (z 4)).trans ((va_up_ne _ _ (hz.ne (i := 4) (j := 0) (by omega) (by omega) (by omega))).trans ((va_up_ne _ _ (hz.ne (i := 4) (j := 10) (by omega) (by omega) (by omega))).trans m_4))
              have m_q : M_3 (z 10) = .inr (2, [.int ((quietP P).1), .int ((quietP P).2.1), .int ((quietP P).2.2.1), .int ((quietP P).2.2.2.1), .int ((quietP P).2.2.2.2)]) := (congrFun eM_3 (z 10)).trans ((va_up_ne _ _ (hz.ne (i := 10) (j := 0) (by omega) (by omega) (by omega))).trans (va_up_self _ _ _))
              have m_0 : M_3 (z 0) = .inr (4, [.ref (z 1), ev, .ref (z 4), .int (nI 0), .ref (z 5), .ref (z 7), .ref (z 8), .ref (z 9)]) := (congrFun eM_3 (z 0)).trans (va_up_self _ _ _)
              have fr : ∀ q : Nat, q ≠ (z 10) → q ≠ (z 0) → M_3 q = M q := fun q h0 h1 => (congrFun eM_3 q).trans ((va_up_ne _ _ h1).trans ((va_up_ne _ _ h0).trans rfl))
              refine lv_aload_n hx hb dX4_put_54 rfl (lv_at hl 1 rfl) ?_
              refine mm_get (ci := 4) (C := RX4) (T := TX4) (N := 8) hx hb hts in_X4 hown hK hV (hz.1 0 (by omega)) m_0 rfl 2 (by decide) f_22 (fun _ h => h) rfl dX4_put_55 ?_
              refine lv_iconst (v := 0) hx hb dX4_put_58 (by decide) ?_
              refine mm_aaldN (j := 0) (b := (z 10)) hx hb hK hV 4 (hz.1 4 (by omega)) m_4 rfl rfl (by omega) (by decide) (gzL_at (i := 0) (by omega)) dX4_put_59 ?_
              refine lv_iload_n hx hb dX4_put_60 rfl (lv_at hl 0 rfl) ?_
              refine lv_iload_n hx hb dX4_put_61 rfl (lv_at hl 3 rfl) ?_
              refine mm_Vm (ci := 2) (As := [.int x3, .int y]) (rest := []) ⟨hx, hb, hml, hown, hts⟩ hK hV (c_place l D dA (P := (quietP P)) x3 y (hz.1 10 (by omega)) m_q) (cwV 2 hts gX4_put_X2_place rfl rfl rfl (by decide +kernel) (mm_levR hR (by omega) (by decide))) (hz.1 10 (by omega)) m_q rfl rfl hl.1 rfl (Nat.le_of_ble_eq_true rfl) dX4_put_62 ⟨Nat.zero_le _, Nat.zero_le _⟩ (fun M_4 H locs eM_4 hV => ?_)
              have m_0 : M_4 (z 0) = _ := (congrFun eM_4 (z 0)).trans ((va_up_ne _ _ (hz.ne (i := 0) (j := 10) (by omega) (by omega) (by omega))).trans m_0)
              have m_4 : M_4 (z 4) = _ := (congrFun eM_4 (z 4)).trans ((va_up_ne _ _ (hz.ne (i := 4) (j := 10) (by omega) (by omega) (by omega))).trans m_4)
              have m_q : M_4 (z 10) = .inr (2, [.int ((placeP (quietP P) x3 y).1), .int ((placeP (quietP P) x3 y).2.1), .int ((placeP (quietP P) x3 y).2.2.1), .int ((placeP (quietP P) x3 y).2.2.2.1), .int ((placeP (quietP P) x3 y).2.2.2.2)]) := by rw [eM_4]; exact va_up_self _ _ _
              have fr : ∀ q : Nat, q ≠ (z 10) → q ≠ (z 0) → M_4 q = M q := fun q h0 h1 => (congrFun eM_4 q).trans ((va_up_ne _ _ h0).trans (fr q h0 h1))
              refine lv_iconst (v := 1) hx hb dX4_put_65 (by decide) ?_
              exact hret (v := 1) dX4_put_66 hV (by decide) (by decide) (by subst_vars; (repeat' split) <;> first | exact Or.inl rfl | exact Or.inr rfl) ⟨rfl, (show putOK x y = 1 from by unfold putOK; rw [← ex3, if_neg c4, if_neg c8, if_pos c13, if_neg c24, if_pos c38, if_pos c45]).symm, by rw [if_neg (by rw [show putOK x y = 1 from (show putOK x y = 1 from by unfold putOK; rw [← ex3, if_neg c4, if_neg c8, if_pos c13, if_neg c24, if_pos c38, if_pos c45])]; decide)]; exact mm_fin2 (m_q.trans (by rw [ex3]; rfl)) m_0 (hz.ne (by omega) (by omega) (by omega)) fr⟩
            · refine lv_iconst (v := 0) hx hb dX4_put_48 (by decide) ?_
              exact hret (v := 0) dX4_put_49 hV (by decide) (by decide) (by subst_vars; (repeat' split) <;> first | exact Or.inl rfl | exact Or.inr rfl) ⟨rfl, (show putOK x y = 0 from by unfold putOK; rw [← ex3, if_neg c4, if_neg c8, if_pos c13, if_neg c24, if_pos c38, if_neg c45]).symm, by rw [if_pos (show putOK x y = 0 from by unfold putOK; rw [← ex3, if_neg c4, if_neg c8, if_pos c13, if_neg c24, if_pos c38, if_neg c45])]⟩
        · refine lv_iload_n hx hb dX4_put_27 rfl (lv_at hl 0 rfl) ?_
          refine lv_ldc hx hb hown (hts (.constant RX4 59 (229376)) (by decide +kernel)) dX4_put_28 ?_
          refine lv_iand hx hb dX4_put_30 ?_
          refine lv_if_eq (tgt := 36) hx hb dX4_put_31 (by decide) (fun c31 => ?_) (fun c31 => ?_)
          · refine lv_iload_n hx hb dX4_put_36 rfl (lv_at hl 3 rfl) ?_
            refine lv_iconst (v := 3) hx hb dX4_put_37 (by decide) ?_
            refine lv_icmp_ne (tgt := 50) hx hb dX4_put_38 (by decide) (fun c38 => ?_) (fun c38 => ?_)
            · refine lv_aload_n hx hb dX4_put_50 rfl (lv_at hl 1 rfl) ?_
              refine mm_Vm (ci := 4) (As := []) (rest := []) ⟨hx, hb, hml, hown, hts⟩ hK hV (c_forget l D dA hz m_0 m_4 hlt m_p m_q) (cwV 0 hts gX4_put_X4_forgetGame rfl rfl rfl (by decide +kernel) (mm_levR hR (by omega) (by decide))) (hz.1 0 (by omega)) m_0 rfl rfl hl.1 rfl (Nat.le_of_ble_eq_true rfl) dX4_put_51 ⟨Nat.zero_le _, Nat.zero_le _⟩ (fun M_5 H locs eM_5 hV => ?_)
              have m_4 : M_5 (z 4) = _ := (congrFun eM_5 (z 4)).trans ((va_up_ne _ _ (hz.ne (i := 4) (j := 0) (by omega) (by omega) (by omega))).trans ((va_up_ne _ _ (hz.ne (i := 4) (j := 10) (by omega) (by omega) (by omega))).trans m_4))
              have m_q : M_5 (z 10) = .inr (2, [.int ((quietP P).1), .int ((quietP P).2.1), .int ((quietP P).2.2.1), .int ((quietP P).2.2.2.1), .int ((quietP P).2.2.2.2)]) := (congrFun eM_5 (z 10)).trans ((va_up_ne _ _ (hz.ne (i := 10) (j := 0) (by omega) (by omega) (by omega))).trans (va_up_self _ _ _))
              have m_0 : M_5 (z 0) = .inr (4, [.ref (z 1), ev, .ref (z 4), .int (nI 0), .ref (z 5), .ref (z 7), .ref (z 8), .ref (z 9)]) := (congrFun eM_5 (z 0)).trans (va_up_self _ _ _)
              have fr : ∀ q : Nat, q ≠ (z 10) → q ≠ (z 0) → M_5 q = M q := fun q h0 h1 => (congrFun eM_5 q).trans ((va_up_ne _ _ h1).trans ((va_up_ne _ _ h0).trans rfl))
              refine lv_aload_n hx hb dX4_put_54 rfl (lv_at hl 1 rfl) ?_
              refine mm_get (ci := 4) (C := RX4) (T := TX4) (N := 8) hx hb hts in_X4 hown hK hV (hz.1 0 (by omega)) m_0 rfl 2 (by decide) f_22 (fun _ h => h) rfl dX4_put_55 ?_
              refine lv_iconst (v := 0) hx hb dX4_put_58 (by decide) ?_
              refine mm_aaldN (j := 0) (b := (z 10)) hx hb hK hV 4 (hz.1 4 (by omega)) m_4 rfl rfl (by omega) (by decide) (gzL_at (i := 0) (by omega)) dX4_put_59 ?_
              refine lv_iload_n hx hb dX4_put_60 rfl (lv_at hl 0 rfl) ?_
              refine lv_iload_n hx hb dX4_put_61 rfl (lv_at hl 3 rfl) ?_
              refine mm_Vm (ci := 2) (As := [.int x3, .int y]) (rest := []) ⟨hx, hb, hml, hown, hts⟩ hK hV (c_place l D dA (P := (quietP P)) x3 y (hz.1 10 (by omega)) m_q) (cwV 2 hts gX4_put_X2_place rfl rfl rfl (by decide +kernel) (mm_levR hR (by omega) (by decide))) (hz.1 10 (by omega)) m_q rfl rfl hl.1 rfl (Nat.le_of_ble_eq_true rfl) dX4_put_62 ⟨Nat.zero_le _, Nat.zero_le _⟩ (fun M_6 H locs eM_6 hV => ?_)
              have m_0 : M_6 (z 0) = _ := (congrFun eM_6 (z 0)).trans ((va_up_ne _ _ (hz.ne (i := 0) (j := 10) (by omega) (by omega) (by omega))).trans m_0)
              have m_4 : M_6 (z 4) = _ := (congrFun eM_6 (z 4)).trans ((va_up_ne _ _ (hz.ne (i := 4) (j := 10) (by omega) (by omega) (by omega))).trans m_4)
              have m_q : M_6 (z 10) = .inr (2, [.int ((placeP (quietP P) x3 y).1), .int ((placeP (quietP P) x3 y).2.1), .int ((placeP (quietP P) x3 y).2.2.1), .int ((placeP (quietP P) x3 y).2.2.2.1), .int ((placeP (quietP P) x3 y).2.2.2.2)]) := by rw [eM_6]; exact va_up_self _ _ _
              have fr : ∀ q : Nat, q ≠ (z 10) → q ≠ (z 0) → M_6 q = M q := fun q h0 h1 => (congrFun eM_6 q).trans ((va_up_ne _ _ h0).trans (fr q h0 h1))
              refine lv_iconst (v := 1) hx hb dX4_put_65 (by decide) ?_
              exact hret (v := 1) dX4_put_66 hV (by decide) (by decide) (by subst_vars; (repeat' split) <;> first | exact Or.inl rfl | exact Or.inr rfl) ⟨rfl, (show putOK x y = 1 from by unfold putOK; rw [← ex3, if_neg c4, if_neg c8, if_pos c13, if_pos c24, if_pos c31, if_neg c38]).symm, by rw [if_neg (by rw [show putOK x y = 1 from (show putOK x y = 1 from by unfold putOK; rw [← ex3, if_neg c4, if_neg c8, if_pos c13, if_pos c24, if_pos c31, if_neg c38])]; decide)]; exact mm_fin2 (m_q.trans (by rw [ex3]; rfl)) m_0 (hz.ne (by omega) (by omega) (by omega)) fr⟩
            · refine lv_iload_n hx hb dX4_put_41 rfl (lv_at hl 0 rfl) ?_
              refine lv_bipush (v := 7) hx hb dX4_put_42 (by decide) ?_
              refine lv_iand hx hb dX4_put_44 ?_
              refine lv_if_eq (tgt := 50) hx hb dX4_put_45 (by decide) (fun c45 => ?_) (fun c45 => ?_)
              · refine lv_aload_n hx hb dX4_put_50 rfl (lv_at hl 1 rfl) ?_
                refine mm_Vm (ci := 4) (As := []) (rest := []) ⟨hx, hb, hml, hown, hts⟩ hK hV (c_forget l D dA hz m_0 m_4 hlt m_p m_q) (cwV 0 hts gX4_put_X4_forgetGame rfl rfl rfl (by decide +kernel) (mm_levR hR (by omega) (by decide))) (hz.1 0 (by omega)) m_0 rfl rfl hl.1 rfl (Nat.le_of_ble_eq_true rfl) dX4_put_51 ⟨Nat.zero_le _, Nat.zero_le _⟩ (fun M_7 H locs eM_7 hV => ?_)
                have m_4 : M_7 (z 4) = _ := (congrFun eM_7 (z 4)).trans ((va_up_ne _ _ (hz.ne (i := 4) (j := 0) (by omega) (by omega) (by omega))).trans ((va_up_ne _ _ (hz.ne (i := 4) (j := 10) (by omega) (by omega) (by omega))).trans m_4))
                have m_q : M_7 (z 10) = .inr (2, [.int ((quietP P).1), .int ((quietP P).2.1), .int ((quietP P).2.2.1), .int ((quietP P).2.2.2.1), .int ((quietP P).2.2.2.2)]) := (congrFun eM_7 (z 10)).trans ((va_up_ne _ _ (hz.ne (i := 10) (j := 0) (by omega) (by omega) (by omega))).trans (va_up_self _ _ _))
                have m_0 : M_7 (z 0) = .inr (4, [.ref (z 1), ev, .ref (z 4), .int (nI 0), .ref (z 5), .ref (z 7), .ref (z 8), .ref (z 9)]) := (congrFun eM_7 (z 0)).trans (va_up_self _ _ _)
                have fr : ∀ q : Nat, q ≠ (z 10) → q ≠ (z 0) → M_7 q = M q := fun q h0 h1 => (congrFun eM_7 q).trans ((va_up_ne _ _ h1).trans ((va_up_ne _ _ h0).trans rfl))
                refine lv_aload_n hx hb dX4_put_54 rfl (lv_at hl 1 rfl) ?_
                refine mm_get (ci := 4) (C := RX4) (T := TX4) (N := 8) hx hb hts in_X4 hown hK hV (hz.1 0 (by omega)) m_0 rfl 2 (by decide) f_22 (fun _ h => h) rfl dX4_put_55 ?_
                refine lv_iconst (v := 0) hx hb dX4_put_58 (by decide) ?_
                refine mm_aaldN (j := 0) (b := (z 10)) hx hb hK hV 4 (hz.1 4 (by omega)) m_4 rfl rfl (by omega) (by decide) (gzL_at (i := 0) (by omega)) dX4_put_59 ?_
                refine lv_iload_n hx hb dX4_put_60 rfl (lv_at hl 0 rfl) ?_
                refine lv_iload_n hx hb dX4_put_61 rfl (lv_at hl 3 rfl) ?_
                refine mm_Vm (ci := 2) (As := [.int x3, .int y]) (rest := []) ⟨hx, hb, hml, hown, hts⟩ hK hV (c_place l D dA (P := (quietP P)) x3 y (hz.1 10 (by omega)) m_q) (cwV 2 hts gX4_put_X2_place rfl rfl rfl (by decide +kernel) (mm_levR hR (by omega) (by decide))) (hz.1 10 (by omega)) m_q rfl rfl hl.1 rfl (Nat.le_of_ble_eq_true rfl) dX4_put_62 ⟨Nat.zero_le _, Nat.zero_le _⟩ (fun M_8 H locs eM_8 hV => ?_)
                have m_0 : M_8 (z 0) = _ := (congrFun eM_8 (z 0)).trans ((va_up_ne _ _ (hz.ne (i := 0) (j := 10) (by omega) (by omega) (by omega))).trans m_0)
                have m_4 : M_8 (z 4) = _ := (congrFun eM_8 (z 4)).trans ((va_up_ne _ _ (hz.ne (i := 4) (j := 10) (by omega) (by omega) (by omega))).trans m_4)
                have m_q : M_8 (z 10) = .inr (2, [.int ((placeP (quietP P) x3 y).1), .int ((placeP (quietP P) x3 y).2.1), .int ((placeP (quietP P) x3 y).2.2.1), .int ((placeP (quietP P) x3 y).2.2.2.1), .int ((placeP (quietP P) x3 y).2.2.2.2)]) := by rw [eM_8]; exact va_up_self _ _ _
                have fr : ∀ q : Nat, q ≠ (z 10) → q ≠ (z 0) → M_8 q = M q := fun q h0 h1 => (congrFun eM_8 q).trans ((va_up_ne _ _ h0).trans (fr q h0 h1))
                refine lv_iconst (v := 1) hx hb dX4_put_65 (by decide) ?_
                exact hret (v := 1) dX4_put_66 hV (by decide) (by decide) (by subst_vars; (repeat' split) <;> first | exact Or.inl rfl | exact Or.inr rfl) ⟨rfl, (show putOK x y = 1 from by unfold putOK; rw [← ex3, if_neg c4, if_neg c8, if_pos c13, if_pos c24, if_pos c31, if_pos c38, if_pos c45]).symm, by rw [if_neg (by rw [show putOK x y = 1 from (show putOK x y = 1 from by unfold putOK; rw [← ex3, if_neg c4, if_neg c8, if_pos c13, if_pos c24, if_pos c31, if_pos c38, if_pos c45])]; decide)]; exact mm_fin2 (m_q.trans (by rw [ex3]; rfl)) m_0 (hz.ne (by omega) (by omega) (by omega)) fr⟩
              · refine lv_iconst (v := 0) hx hb dX4_put_48 (by decide) ?_
                exact hret (v := 0) dX4_put_49 hV (by decide) (by decide) (by subst_vars; (repeat' split) <;> first | exact Or.inl rfl | exact Or.inr rfl) ⟨rfl, (show putOK x y = 0 from by unfold putOK; rw [← ex3, if_neg c4, if_neg c8, if_pos c13, if_pos c24, if_pos c31, if_pos c38, if_neg c45]).symm, by rw [if_pos (show putOK x y = 0 from by unfold putOK; rw [← ex3, if_neg c4, if_neg c8, if_pos c13, if_pos c24, if_pos c31, if_pos c38, if_neg c45])]⟩
          · refine lv_iconst (v := 0) hx hb dX4_put_34 (by decide) ?_
            exact hret (v := 0) dX4_put_35 hV (by decide) (by decide) (by subst_vars; (repeat' split) <;> first | exact Or.inl rfl | exact Or.inr rfl) ⟨rfl, (show putOK x y = 0 from by unfold putOK; rw [← ex3, if_neg c4, if_neg c8, if_pos c13, if_pos c24, if_neg c31]).symm, by rw [if_pos (show putOK x y = 0 from by unfold putOK; rw [← ex3, if_neg c4, if_neg c8, if_pos c13, if_pos c24, if_neg c31])]⟩
      · refine lv_iconst (v := 0) hx hb dX4_put_16 (by decide) ?_
        exact hret (v := 0) dX4_put_17 hV (by decide) (by decide) (by subst_vars; (repeat' split) <;> first | exact Or.inl rfl | exact Or.inr rfl) ⟨rfl, (show putOK x y = 0 from by unfold putOK; rw [if_neg c4, if_neg c8, if_neg c13]).symm, by rw [if_pos (show putOK x y = 0 from by unfold putOK; rw [if_neg c4, if_neg c8, if_neg c13])]⟩

set_option maxHeartbeats 1000000 in
set_option maxRecDepth 100000 in
theorem c_turn (l : Launch) (D : va_G) (dA : Nat → ClassId) {L : List Nat} {M : mm_M} {z : Nat → Nat} {ev : Value} {lt : Nat} {P : Ps} {P0 : Ps} (x : Int32) (hz : zW L z) (m_0 : M (z 0) = jO z ev lt) (m_4 : M (z 4) = .inl (dA 4, 101, .inr (.inr (.inr (.inr (gzL z)))))) (hlt : lt ≤ 100) (m_p : M (z (10 + lt)) = oP P) (m_q : M (z 10) = oP P0) : mm_Cn l D dA yX4_turn wsX4_turn 2 [.ref (z 0), .int x] L M (fun r M1 => r = turnOK x ∧ M1 = if turnOK x = 0 then M else va_up (va_up M (z 10) (oP (moverP (quietP P) x))) (z 0) (jO z ev 0)) := by
  have m_0 : M (z 0) = .inr (4, [.ref (z 1), ev, .ref (z 4), .int (nI lt), .ref (z 5), .ref (z 7), .ref (z 8), .ref (z 9)]) := m_0
  have m_q : M (z 10) = .inr (2, [.int P0.1, .int P0.2.1, .int P0.2.2.1, .int P0.2.2.2.1, .int P0.2.2.2.2]) := m_q
  refine mm_enter_z (cc := cX4_turn) (maxL := 2) (by decide) rfl (Nat.le_of_ble_eq_true rfl) ?_
  intro p e R s m args below meth c A ls H locs Q hR hx hb hml hin hown hts hK hV hl hret
  have hl : lv_has ls 2 [(0, .ref (z 0)), (1, .int x)] := hl
  have hown : s.vm.findClass RX4 = some m.cls := hown
  have f_22 := hts (.fieldLink RX4 22 "JumpBoard" "line" "[LJumpBoard$Position;") (by decide +kernel)
  have in_X4 : ∀ w ∈ wsX40, w ∈ wsX4_turn := by decide +kernel
  have f_67 := hts (.fieldLink RX4 67 "JumpBoard$Position" "mover" "I") (by decide +kernel)
  have in_X2 : ∀ w ∈ wsX20, w ∈ wsX4_turn := by decide +kernel
  refine lv_iload_n hx hb dX4_turn_0 rfl (lv_at hl 1 rfl) ?_
  refine lv_if_eq (tgt := 11) hx hb dX4_turn_1 (by decide) (fun c1 => ?_) (fun c1 => ?_)
  · refine lv_aload_n hx hb dX4_turn_11 rfl (lv_at hl 0 rfl) ?_
    refine mm_Vm (ci := 4) (As := []) (rest := []) ⟨hx, hb, hml, hown, hts⟩ hK hV (c_forget l D dA hz m_0 m_4 hlt m_p m_q) (cwV 0 hts gX4_turn_X4_forgetGame rfl rfl rfl (by decide +kernel) (mm_levR hR (by omega) (by decide))) (hz.1 0 (by omega)) m_0 rfl rfl hl.1 rfl (Nat.le_of_ble_eq_true rfl) dX4_turn_12 ⟨Nat.zero_le _, Nat.zero_le _⟩ (fun M_1 H locs eM_1 hV => ?_)
    have m_4 : M_1 (z 4) = _ := (congrFun eM_1 (z 4)).trans ((va_up_ne _ _ (hz.ne (i := 4) (j := 0) (by omega) (by omega) (by omega))).trans ((va_up_ne _ _ (hz.ne (i := 4) (j := 10) (by omega) (by omega) (by omega))).trans m_4))
    have m_q : M_1 (z 10) = .inr (2, [.int ((quietP P).1), .int ((quietP P).2.1), .int ((quietP P).2.2.1), .int ((quietP P).2.2.2.1), .int ((quietP P).2.2.2.2)]) := (congrFun eM_1 (z 10)).trans ((va_up_ne _ _ (hz.ne (i := 10) (j := 0) (by omega) (by omega) (by omega))).trans (va_up_self _ _ _))
    have m_0 : M_1 (z 0) = .inr (4, [.ref (z 1), ev, .ref (z 4), .int (nI 0), .ref (z 5), .ref (z 7), .ref (z 8), .ref (z 9)]) := (congrFun eM_1 (z 0)).trans (va_up_self _ _ _)
    have fr : ∀ q : Nat, q ≠ (z 10) → q ≠ (z 0) → M_1 q = M q := fun q h0 h1 => (congrFun eM_1 q).trans ((va_up_ne _ _ h1).trans ((va_up_ne _ _ h0).trans rfl))
    refine lv_aload_n hx hb dX4_turn_15 rfl (lv_at hl 0 rfl) ?_
    refine mm_get (ci := 4) (C := RX4) (T := TX4) (N := 8) hx hb hts in_X4 hown hK hV (hz.1 0 (by omega)) m_0 rfl 2 (by decide) f_22 (fun _ h => h) rfl dX4_turn_16 ?_
    refine lv_iconst (v := 0) hx hb dX4_turn_19 (by decide) ?_
    refine mm_aaldN (j := 0) (b := (z 10)) hx hb hK hV 4 (hz.1 4 (by omega)) m_4 rfl rfl (by omega) (by decide) (gzL_at (i := 0) (by omega)) dX4_turn_20 ?_
    refine lv_iload_n hx hb dX4_turn_21 rfl (lv_at hl 1 rfl) ?_
    refine mm_put (ci := 2) (v := .int x) (fs' := [.int ((quietP P).1), .int ((quietP P).2.1), .int ((quietP P).2.2.1), .int x, .int ((quietP P).2.2.2.2)]) (ty := .int) (C := RX2) (T := TX2) (N := 5) hx hb hts in_X2 tyX2 tyX2_ok nmX2 hown hK hV (hz.1 10 (by omega)) m_q rfl 3 (by decide) f_67 (fun _ h => h) rfl (by decide +kernel) rfl rfl (Nat.le_of_ble_eq_true rfl) rfl dX4_turn_22 (fun M_2 H locs eM_2 hV => ?_)
    have m_0 : M_2 (z 0) = _ := (congrFun eM_2 (z 0)).trans ((va_up_ne _ _ (hz.ne (i := 0) (j := 10) (by omega) (by omega) (by omega))).trans m_0)
    have m_4 : M_2 (z 4) = _ := (congrFun eM_2 (z 4)).trans ((va_up_ne _ _ (hz.ne (i := 4) (j := 10) (by omega) (by omega) (by omega))).trans m_4)
    have m_q : M_2 (z 10) = .inr (2, [.int ((quietP P).1), .int ((quietP P).2.1), .int ((quietP P).2.2.1), .int x, .int ((quietP P).2.2.2.2)]) := by rw [eM_2]; exact va_up_self _ _ _
    have fr : ∀ q : Nat, q ≠ (z 10) → q ≠ (z 0) → M_2 q = M q := fun q h0 h1 => (congrFun eM_2 q).trans ((va_up_ne _ _ h0).trans (fr q h0 h1))
    refine lv_iconst (v := 1) hx hb dX4_turn_25 (by decide) ?_
    exact hret (v := 1) dX4_turn_26 hV (by decide) (by decide) (by subst_vars; (repeat' split) <;> first | exact Or.inl rfl | exact Or.inr rfl) ⟨rfl, (show turnOK x = 1 from by unfold turnOK; rw [if_pos c1]).symm, by rw [if_neg (by rw [show turnOK x = 1 from (show turnOK x = 1 from by unfold turnOK; rw [if_pos c1])]; decide)]; exact mm_fin2 (m_q.trans rfl) m_0 (hz.ne (by omega) (by omega) (by omega)) fr⟩
  · refine lv_iload_n hx hb dX4_turn_4 rfl (lv_at hl 1 rfl) ?_
    refine lv_iconst (v := 1) hx hb dX4_turn_5 (by decide) ?_
    refine lv_icmp_eq (tgt := 11) hx hb dX4_turn_6 (by decide) (fun c6 => ?_) (fun c6 => ?_)
    · refine lv_aload_n hx hb dX4_turn_11 rfl (lv_at hl 0 rfl) ?_
      refine mm_Vm (ci := 4) (As := []) (rest := []) ⟨hx, hb, hml, hown, hts⟩ hK hV (c_forget l D dA hz m_0 m_4 hlt m_p m_q) (cwV 0 hts gX4_turn_X4_forgetGame rfl rfl rfl (by decide +kernel) (mm_levR hR (by omega) (by decide))) (hz.1 0 (by omega)) m_0 rfl rfl hl.1 rfl (Nat.le_of_ble_eq_true rfl) dX4_turn_12 ⟨Nat.zero_le _, Nat.zero_le _⟩ (fun M_3 H locs eM_3 hV => ?_)
      have m_4 : M_3 (z 4) = _ := (congrFun eM_3 (z 4)).trans ((va_up_ne _ _ (hz.ne (i := 4) (j := 0) (by omega) (by omega) (by omega))).trans ((va_up_ne _ _ (hz.ne (i := 4) (j := 10) (by omega) (by omega) (by omega))).trans m_4))
      have m_q : M_3 (z 10) = .inr (2, [.int ((quietP P).1), .int ((quietP P).2.1), .int ((quietP P).2.2.1), .int ((quietP P).2.2.2.1), .int ((quietP P).2.2.2.2)]) := (congrFun eM_3 (z 10)).trans ((va_up_ne _ _ (hz.ne (i := 10) (j := 0) (by omega) (by omega) (by omega))).trans (va_up_self _ _ _))
      have m_0 : M_3 (z 0) = .inr (4, [.ref (z 1), ev, .ref (z 4), .int (nI 0), .ref (z 5), .ref (z 7), .ref (z 8), .ref (z 9)]) := (congrFun eM_3 (z 0)).trans (va_up_self _ _ _)
      have fr : ∀ q : Nat, q ≠ (z 10) → q ≠ (z 0) → M_3 q = M q := fun q h0 h1 => (congrFun eM_3 q).trans ((va_up_ne _ _ h1).trans ((va_up_ne _ _ h0).trans rfl))
      refine lv_aload_n hx hb dX4_turn_15 rfl (lv_at hl 0 rfl) ?_
      refine mm_get (ci := 4) (C := RX4) (T := TX4) (N := 8) hx hb hts in_X4 hown hK hV (hz.1 0 (by omega)) m_0 rfl 2 (by decide) f_22 (fun _ h => h) rfl dX4_turn_16 ?_
      refine lv_iconst (v := 0) hx hb dX4_turn_19 (by decide) ?_
      refine mm_aaldN (j := 0) (b := (z 10)) hx hb hK hV 4 (hz.1 4 (by omega)) m_4 rfl rfl (by omega) (by decide) (gzL_at (i := 0) (by omega)) dX4_turn_20 ?_
      refine lv_iload_n hx hb dX4_turn_21 rfl (lv_at hl 1 rfl) ?_
      refine mm_put (ci := 2) (v := .int x) (fs' := [.int ((quietP P).1), .int ((quietP P).2.1), .int ((quietP P).2.2.1), .int x, .int ((quietP P).2.2.2.2)]) (ty := .int) (C := RX2) (T := TX2) (N := 5) hx hb hts in_X2 tyX2 tyX2_ok nmX2 hown hK hV (hz.1 10 (by omega)) m_q rfl 3 (by decide) f_67 (fun _ h => h) rfl (by decide +kernel) rfl rfl (Nat.le_of_ble_eq_true rfl) rfl dX4_turn_22 (fun M_4 H locs eM_4 hV => ?_)
      have m_0 : M_4 (z 0) = _ := (congrFun eM_4 (z 0)).trans ((va_up_ne _ _ (hz.ne (i := 0) (j := 10) (by omega) (by omega) (by omega))).trans m_0)
      have m_4 : M_4 (z 4) = _ := (congrFun eM_4 (z 4)).trans ((va_up_ne _ _ (hz.ne (i := 4) (j := 10) (by omega) (by omega) (by omega))).trans m_4)
      have m_q : M_4 (z 10) = .inr (2, [.int ((quietP P).1), .int ((quietP P).2.1), .int ((quietP P).2.2.1), .int x, .int ((quietP P).2.2.2.2)]) := by rw [eM_4]; exact va_up_self _ _ _
      have fr : ∀ q : Nat, q ≠ (z 10) → q ≠ (z 0) → M_4 q = M q := fun q h0 h1 => (congrFun eM_4 q).trans ((va_up_ne _ _ h0).trans (fr q h0 h1))
      refine lv_iconst (v := 1) hx hb dX4_turn_25 (by decide) ?_
      exact hret (v := 1) dX4_turn_26 hV (by decide) (by decide) (by subst_vars; (repeat' split) <;> first | exact Or.inl rfl | exact Or.inr rfl) ⟨rfl, (show turnOK x = 1 from by unfold turnOK; rw [if_neg c1, if_pos c6]).symm, by rw [if_neg (by rw [show turnOK x = 1 from (show turnOK x = 1 from by unfold turnOK; rw [if_neg c1, if_pos c6])]; decide)]; exact mm_fin2 (m_q.trans rfl) m_0 (hz.ne (by omega) (by omega) (by omega)) fr⟩
    · refine lv_iconst (v := 0) hx hb dX4_turn_9 (by decide) ?_
      exact hret (v := 0) dX4_turn_10 hV (by decide) (by decide) (by subst_vars; (repeat' split) <;> first | exact Or.inl rfl | exact Or.inr rfl) ⟨rfl, (show turnOK x = 0 from by unfold turnOK; rw [if_neg c1, if_neg c6]).symm, by rw [if_pos (show turnOK x = 0 from by unfold turnOK; rw [if_neg c1, if_neg c6])]⟩

set_option maxHeartbeats 1000000 in
set_option maxRecDepth 100000 in
theorem c_move (l : Launch) (D : va_G) (dA : Nat → ClassId) {L : List Nat} {M : mm_M} {z : Nat → Nat} {ev : Value} {lt : Nat} {P : Ps} {f0 : Nat → Int32} {n0 : Nat} (x : Int32) (y : Int32) (hz : zW L z) (m_0 : M (z 0) = jO z ev lt) (m_4 : M (z 4) = .inl (dA 4, 101, .inr (.inr (.inr (.inr (gzL z)))))) (hlt : lt ≤ 100) (m_p : M (z (10 + lt)) = oP P) (hru : ruW dA L M (z 1) (z 2) (z 3)) (hli : liW dA L M (z 5) (z 6) f0 n0) : mm_Cn l D dA yX4_move wsX4_move 23 [.ref (z 0), .int x, .int y] L M (fun r M1 => r = moveF P f0 x y ∧ M1 = if x < 0 then M else mvM dA M z P f0) := by
  have m_0 : M (z 0) = .inr (4, [.ref (z 1), ev, .ref (z 4), .int (nI lt), .ref (z 5), .ref (z 7), .ref (z 8), .ref (z 9)]) := m_0
  have m_p : M (z (10 + lt)) = .inr (2, [.int P.1, .int P.2.1, .int P.2.2.1, .int P.2.2.2.1, .int P.2.2.2.2]) := m_p
  have m_1 := hru.2.2.2.1
  obtain ⟨-, -, m_5, m_6, hn0⟩ := id hli
  have m_5 : M (z 5) = .inr (1, [.ref (z 6), .int (nI n0)]) := m_5
  refine mm_enter_i (cc := cX4_move) (maxL := 4) (by decide) rfl (Nat.le_of_ble_eq_true rfl) ?_
  intro p e R s m args below meth c A ls H locs Q hR hx hb hml hin hown hts hK hV hl hret
  have hl : lv_has ls 4 [(0, .ref (z 0)), (1, .int x), (2, .int y)] := hl
  have hown : s.vm.findClass RX4 = some m.cls := hown
  have f_33 := hts (.fieldLink RX4 33 "JumpBoard" "list" "LJumpBoard$MoveList;") (by decide +kernel)
  have in_X4 : ∀ w ∈ wsX40, w ∈ wsX4_move := by decide +kernel
  have f_85 := hts (.fieldLink RX4 85 "JumpBoard$MoveList" "packed" "[I") (by decide +kernel)
  have in_X1 : ∀ w ∈ wsX10, w ∈ wsX4_move := by decide +kernel
  refine lv_iload_n hx hb dX4_move_0 rfl (lv_at hl 1 rfl) ?_
  refine lv_if_lt (tgt := 12) hx hb dX4_move_1 (by decide) (fun c1 => ?_) (fun c1 => ?_)
  · refine lv_iconst (v := (-1)) hx hb dX4_move_12 (by decide) ?_
    exact hret (v := (-1)) dX4_move_13 hV (by decide) (by decide) ⟨rfl, by unfold moveF; rw [if_pos c1], by rw [if_pos c1]⟩
  · obtain ⟨i, hi31, hxi⟩ := nI_of c1
    refine lv_iload_n hx hb dX4_move_4 rfl (lv_at hl 1 rfl) ?_
    refine lv_aload_n hx hb dX4_move_5 rfl (lv_at hl 0 rfl) ?_
    refine mm_Vn (ci := 4) (As := []) (rest := [.int x]) ⟨hx, hb, hml, hown, hts⟩ hK hV (c_moves l D dA hz m_0 m_4 hlt m_p hru hli) (cwV 0 hts gX4_move_X4_moves rfl rfl rfl (by decide +kernel) (mm_levR hR (by omega) (by decide))) (hz.1 0 (by omega)) m_0 rfl rfl hl.1 rfl (Nat.le_of_ble_eq_true rfl) dX4_move_6 ⟨Nat.zero_le _, Nat.zero_le _⟩ (fun rm M_1 H locs hp hV => ?_)
    obtain ⟨erm, eM_1⟩ := hp
    have m_0 : M_1 (z 0) = _ := (congrFun eM_1 (z 0)).trans ((va_up_ne _ _ (hz.ne (i := 0) (j := 6) (by omega) (by omega) (by omega))).trans ((va_up_ne _ _ (hz.ne (i := 0) (j := 5) (by omega) (by omega) (by omega))).trans m_0))
    have m_4 : M_1 (z 4) = _ := (congrFun eM_1 (z 4)).trans ((va_up_ne _ _ (hz.ne (i := 4) (j := 6) (by omega) (by omega) (by omega))).trans ((va_up_ne _ _ (hz.ne (i := 4) (j := 5) (by omega) (by omega) (by omega))).trans m_4))
    have m_p : M_1 (z (10 + lt)) = _ := (congrFun eM_1 (z (10 + lt))).trans ((va_up_ne _ _ (hz.ne (i := (10 + lt)) (j := 6) (by omega) (by omega) (by omega))).trans ((va_up_ne _ _ (hz.ne (i := (10 + lt)) (j := 5) (by omega) (by omega) (by omega))).trans m_p))
    have m_1 : M_1 (z 1) = _ := (congrFun eM_1 (z 1)).trans ((va_up_ne _ _ (hz.ne (i := 1) (j := 6) (by omega) (by omega) (by omega))).trans ((va_up_ne _ _ (hz.ne (i := 1) (j := 5) (by omega) (by omega) (by omega))).trans m_1))
    have m_5 : M_1 (z 5) = .inr (1, [.ref (z 6), .int (nI (movesF P f0).2)]) := (congrFun eM_1 (z 5)).trans ((va_up_ne _ _ (hz.ne (i := 5) (j := 6) (by omega) (by omega) (by omega))).trans (va_up_self _ _ _))
    have m_6 : M_1 (z 6) = .inl (dA 0, 72, .inl ((movesF P f0).1)) := (congrFun eM_1 (z 6)).trans (va_up_self _ _ _)
    have fr : ∀ q : Nat, q ≠ (z 5) → q ≠ (z 6) → M_1 q = M q := fun q h0 h1 => (congrFun eM_1 q).trans ((va_up_ne _ _ h1).trans ((va_up_ne _ _ h0).trans rfl))
    have hsc : M_1 = mvM dA M z P f0 := eM_1
    refine lv_icmp_lt (tgt := 14) hx hb dX4_move_9 (by decide) (fun c9 => ?_) (fun c9 => ?_)
    · have hin72 := movesF_le P f0
      have hin : i < (movesF P f0).2 := (nI_ltI hi31 (by omega)).mp (by rw [← hxi, ← erm]; exact c9)
      refine lv_aload_n hx hb dX4_move_14 rfl (lv_at hl 0 rfl) ?_
      refine mm_get (ci := 4) (C := RX4) (T := TX4) (N := 8) hx hb hts in_X4 hown hK hV (hz.1 0 (by omega)) m_0 rfl 4 (by decide) f_33 (fun _ h => h) rfl dX4_move_15 ?_
      refine mm_get (ci := 1) (C := RX1) (T := TX1) (N := 2) hx hb hts in_X1 hown hK hV (hz.1 5 (by omega)) m_5 rfl 0 (by decide) f_85 (fun _ h => h) rfl dX4_move_18 ?_
      refine lv_iload_n hx hb dX4_move_21 rfl (lv_at hl 1 rfl) ?_
      refine mm_ialdN (j := i) hx hb hK hV (hz.1 6 (by omega)) m_6 hxi (by omega) (by decide) dX4_move_22 ?_
      refine lv_topi (fun x3 ex3 => ?_)
      refine lv_istore_n (lv' := [(3, .int x3), (0, .ref (z 0)), (1, .int x), (2, .int y)]) hx hb dX4_move_23 rfl hl (by decide) rfl (fun ls hl => ?_)
      have hpk : mvPk P f0 x = x3 := by unfold mvPk; rw [hxi, nI_clamp hi31]; exact ex3.symm
      refine lv_iload_n hx hb dX4_move_24 rfl (lv_at hl 3 rfl) ?_
      by_cases sw25_0 : y = 0
      · refine lv_tableIn (tgt := 52) hx hb dX4_move_25 (by rw [sw25_0]; decide) (by rw [sw25_0]; decide) (by rw [sw25_0]; rfl) (by decide) ?_
        refine lv_iload_n hx hb dX4_move_52 rfl (lv_at hl 0 rfl) ?_
        refine mm_Sp (v := (mvB x3)) (As := [.int x3]) (rest := []) ⟨hx, hb, hml, hown, hts⟩ hK hV (c_X1_beginning l D dA x3) (va_cwS 1 hts gX4_move_X1_beginning rfl rfl rfl (by decide +kernel) (mm_levR hR (by omega) (by decide))) rfl hl.1 rfl (Nat.le_of_ble_eq_true rfl) dX4_move_53 ⟨Nat.zero_le _, Nat.zero_le _⟩ (fun H locs hV => ?_)
        exact hret (v := mvB x3) dX4_move_56 hV (by decide) (by decide) ⟨rfl, by unfold moveF; rw [if_neg c1, if_pos (by rw [← erm]; exact c9), if_pos sw25_0]; rw [show mvPk P f0 x = x3 from hpk], by rw [if_neg c1]; exact hsc⟩
      · by_cases sw25_1 : y = 1
        · refine lv_tableIn (tgt := 57) hx hb dX4_move_25 (by rw [sw25_1]; decide) (by rw [sw25_1]; decide) (by rw [sw25_1]; rfl) (by decide) ?_
          refine lv_iload_n hx hb dX4_move_57 rfl (lv_at hl 0 rfl) ?_
          refine mm_Sp (v := (mvE x3)) (As := [.int x3]) (rest := []) ⟨hx, hb, hml, hown, hts⟩ hK hV (c_X1_end l D dA x3) (va_cwS 1 hts gX4_move_X1_end rfl rfl rfl (by decide +kernel) (mm_levR hR (by omega) (by decide))) rfl hl.1 rfl (Nat.le_of_ble_eq_true rfl) dX4_move_58 ⟨Nat.zero_le _, Nat.zero_le _⟩ (fun H locs hV => ?_)
          exact hret (v := mvE x3) dX4_move_61 hV (by decide) (by decide) ⟨rfl, by unfold moveF; rw [if_neg c1, if_pos (by rw [← erm]; exact c9), if_neg sw25_0, if_pos sw25_1]; rw [show mvPk P f0 x = x3 from hpk], by rw [if_neg c1]; exact hsc⟩
        · by_cases sw25_2 : y = 2
          · refine lv_tableIn (tgt := 62) hx hb dX4_move_25 (by rw [sw25_2]; decide) (by rw [sw25_2]; decide) (by rw [sw25_2]; rfl) (by decide) ?_
            refine lv_iload_n hx hb dX4_move_62 rfl (lv_at hl 0 rfl) ?_
            refine mm_Sp (v := (mvT x3)) (As := [.int x3]) (rest := []) ⟨hx, hb, hml, hown, hts⟩ hK hV (c_X1_taken l D dA x3) (va_cwS 1 hts gX4_move_X1_taken rfl rfl rfl (by decide +kernel) (mm_levR hR (by omega) (by decide))) rfl hl.1 rfl (Nat.le_of_ble_eq_true rfl) dX4_move_63 ⟨Nat.zero_le _, Nat.zero_le _⟩ (fun H locs hV => ?_)
            exact hret (v := mvT x3) dX4_move_66 hV (by decide) (by decide) ⟨rfl, by unfold moveF; rw [if_neg c1, if_pos (by rw [← erm]; exact c9), if_neg sw25_0, if_neg sw25_1, if_pos sw25_2]; rw [show mvPk P f0 x = x3 from hpk], by rw [if_neg c1]; exact hsc⟩
          · refine lv_tableOut (tgt := 67) hx hb dX4_move_25 (mm_sw3 sw25_0 sw25_1 sw25_2) (by decide) ?_
            refine lv_iconst (v := (-1)) hx hb dX4_move_67 (by decide) ?_
            exact hret (v := (-1)) dX4_move_68 hV (by decide) (by decide) ⟨rfl, by unfold moveF; rw [if_neg c1, if_pos (by rw [← erm]; exact c9), if_neg sw25_0, if_neg sw25_1, if_neg sw25_2], by rw [if_neg c1]; exact hsc⟩
    · refine lv_iconst (v := (-1)) hx hb dX4_move_12 (by decide) ?_
      exact hret (v := (-1)) dX4_move_13 hV (by decide) (by decide) ⟨rfl, by unfold moveF; rw [if_neg c1, if_neg (by rw [← erm]; exact c9)], by rw [if_neg c1]; exact hsc⟩

set_option maxHeartbeats 1000000 in
set_option maxRecDepth 100000 in
theorem c_play_lt (l : Launch) (D : va_G) (dA : Nat → ClassId) {L : List Nat} {M : mm_M} {z : Nat → Nat} {ev : Value} {lt : Nat} {P : Ps} {f0 : Nat → Int32} {n0 : Nat} {P1 : Ps} (x : Int32) (hz : zW L z) (m_0 : M (z 0) = jO z ev lt) (m_4 : M (z 4) = .inl (dA 4, 101, .inr (.inr (.inr (.inr (gzL z)))))) (m_p : M (z (10 + lt)) = oP P) (hru : ruW dA L M (z 1) (z 2) (z 3)) (hli : liW dA L M (z 5) (z 6) f0 n0) (h100 : lt < 100) (m_n : M (z (10 + (lt + 1))) = oP P1) : mm_Cn l D dA yX4_play wsX4_play 24 [.ref (z 0), .int x] L M (fun r M1 => (¬ playOK P f0 lt x ∧ r = -1 ∧ (M1 = M ∨ M1 = mvM dA M z P f0)) ∨ (playOK P f0 lt x ∧ r = bitC (mvT (mvPk P f0 x)) ∧ M1 = va_up (va_up (mvM dA M z P f0) (z (10 + (lt + 1))) (oP (followP P (mvPk P f0 x)))) (z 0) (jO z ev (lt + 1)))) := by
  have m_0 : M (z 0) = .inr (4, [.ref (z 1), ev, .ref (z 4), .int (nI lt), .ref (z 5), .ref (z 7), .ref (z 8), .ref (z 9)]) := m_0
  have m_p : M (z (10 + lt)) = .inr (2, [.int P.1, .int P.2.1, .int P.2.2.1, .int P.2.2.2.1, .int P.2.2.2.2]) := m_p
  have m_1 := hru.2.2.2.1
  obtain ⟨-, -, m_5, m_6, hn0⟩ := id hli
  have m_5 : M (z 5) = .inr (1, [.ref (z 6), .int (nI n0)]) := m_5
  have m_n : M (z (10 + (lt + 1))) = .inr (2, [.int P1.1, .int P1.2.1, .int P1.2.2.1, .int P1.2.2.2.1, .int P1.2.2.2.2]) := m_n
  have hlt : lt ≤ 100 := by omega
  refine mm_enter_i (cc := cX4_play) (maxL := 3) (by decide) rfl (Nat.le_of_ble_eq_true rfl) ?_
  intro p e R s m args below meth c A ls H locs Q hR hx hb hml hin hown hts hK hV hl hret
  have hl : lv_has ls 3 [(0, .ref (z 0)), (1, .int x)] := hl
  have hown : s.vm.findClass RX4 = some m.cls := hown
  have f_26 := hts (.fieldLink RX4 26 "JumpBoard" "latest" "I") (by decide +kernel)
  have in_X4 : ∀ w ∈ wsX40, w ∈ wsX4_play := by decide +kernel
  have f_33 := hts (.fieldLink RX4 33 "JumpBoard" "list" "LJumpBoard$MoveList;") (by decide +kernel)
  have f_85 := hts (.fieldLink RX4 85 "JumpBoard$MoveList" "packed" "[I") (by decide +kernel)
  have in_X1 : ∀ w ∈ wsX10, w ∈ wsX4_play := by decide +kernel
  have f_22 := hts (.fieldLink RX4 22 "JumpBoard" "line" "[LJumpBoard$Position;") (by decide +kernel)
  refine lv_aload_n hx hb dX4_play_0 rfl (lv_at hl 0 rfl) ?_
  refine mm_Vp (v := (overF P)) (ci := 4) (As := []) (rest := []) ⟨hx, hb, hml, hown, hts⟩ hK hV (c_over l D dA hz m_0 m_4 hlt m_p hru) (cwV 0 hts gX4_play_X4_over rfl rfl rfl (by decide +kernel) (mm_levR hR (by omega) (by decide))) (hz.1 0 (by omega)) m_0 rfl rfl hl.1 rfl (Nat.le_of_ble_eq_true rfl) dX4_play_1 ⟨Nat.zero_le _, Nat.zero_le _⟩ (fun H locs hV => ?_)
  refine lv_if_ne (tgt := 28) hx hb dX4_play_4 (by decide) (fun c4 => ?_) (fun c4 => ?_)
  · refine lv_iconst (v := (-1)) hx hb dX4_play_28 (by decide) ?_
    exact hret (v := (-1)) dX4_play_29 hV (by decide) (by decide) ⟨rfl, Or.inl ⟨fun h => c4 h.1, rfl, Or.inl rfl⟩⟩
  · refine lv_iload_n hx hb dX4_play_7 rfl (lv_at hl 1 rfl) ?_
    refine lv_if_lt (tgt := 28) hx hb dX4_play_8 (by decide) (fun c8 => ?_) (fun c8 => ?_)
    · refine lv_iconst (v := (-1)) hx hb dX4_play_28 (by decide) ?_
      exact hret (v := (-1)) dX4_play_29 hV (by decide) (by decide) ⟨rfl, Or.inl ⟨fun h => h.2.1 c8, rfl, Or.inl rfl⟩⟩
    · obtain ⟨i, hi31, hxi⟩ := nI_of c8
      refine lv_iload_n hx hb dX4_play_11 rfl (lv_at hl 1 rfl) ?_
      refine lv_aload_n hx hb dX4_play_12 rfl (lv_at hl 0 rfl) ?_
      refine mm_Vn (ci := 4) (As := []) (rest := [.int x]) ⟨hx, hb, hml, hown, hts⟩ hK hV (c_moves l D dA hz m_0 m_4 hlt m_p hru hli) (cwV 0 hts gX4_play_X4_moves rfl rfl rfl (by decide +kernel) (mm_levR hR (by omega) (by decide))) (hz.1 0 (by omega)) m_0 rfl rfl hl.1 rfl (Nat.le_of_ble_eq_true rfl) dX4_play_13 ⟨Nat.zero_le _, Nat.zero_le _⟩ (fun rm M_1 H locs hp hV => ?_)
      obtain ⟨erm, eM_1⟩ := hp
      have m_0 : M_1 (z 0) = _ := (congrFun eM_1 (z 0)).trans ((va_up_ne _ _ (hz.ne (i := 0) (j := 6) (by omega) (by omega) (by omega))).trans ((va_up_ne _ _ (hz.ne (i := 0) (j := 5) (by omega) (by omega) (by omega))).trans m_0))
      have m_4 : M_1 (z 4) = _ := (congrFun eM_1 (z 4)).trans ((va_up_ne _ _ (hz.ne (i := 4) (j := 6) (by omega) (by omega) (by omega))).trans ((va_up_ne _ _ (hz.ne (i := 4) (j := 5) (by omega) (by omega) (by omega))).trans m_4))
      have m_p : M_1 (z (10 + lt)) = _ := (congrFun eM_1 (z (10 + lt))).trans ((va_up_ne _ _ (hz.ne (i := (10 + lt)) (j := 6) (by omega) (by omega) (by omega))).trans ((va_up_ne _ _ (hz.ne (i := (10 + lt)) (j := 5) (by omega) (by omega) (by omega))).trans m_p))
      have m_1 : M_1 (z 1) = _ := (congrFun eM_1 (z 1)).trans ((va_up_ne _ _ (hz.ne (i := 1) (j := 6) (by omega) (by omega) (by omega))).trans ((va_up_ne _ _ (hz.ne (i := 1) (j := 5) (by omega) (by omega) (by omega))).trans m_1))
      have m_n : M_1 (z (10 + (lt + 1))) = _ := (congrFun eM_1 (z (10 + (lt + 1)))).trans ((va_up_ne _ _ (hz.ne (i := (10 + (lt + 1))) (j := 6) (by omega) (by omega) (by omega))).trans ((va_up_ne _ _ (hz.ne (i := (10 + (lt + 1))) (j := 5) (by omega) (by omega) (by omega))).trans m_n))
      have m_5 : M_1 (z 5) = .inr (1, [.ref (z 6), .int (nI (movesF P f0).2)]) := (congrFun eM_1 (z 5)).trans ((va_up_ne _ _ (hz.ne (i := 5) (j := 6) (by omega) (by omega) (by omega))).trans (va_up_self _ _ _))
      have m_6 : M_1 (z 6) = .inl (dA 0, 72, .inl ((movesF P f0).1)) := (congrFun eM_1 (z 6)).trans (va_up_self _ _ _)
      have fr : ∀ q : Nat, q ≠ (z 5) → q ≠ (z 6) → M_1 q = M q := fun q h0 h1 => (congrFun eM_1 q).trans ((va_up_ne _ _ h1).trans ((va_up_ne _ _ h0).trans rfl))
      have hsc : M_1 = mvM dA M z P f0 := eM_1
      refine lv_icmp_ge (tgt := 28) hx hb dX4_play_16 (by decide) (fun c16 => ?_) (fun c16 => ?_)
      · refine lv_iconst (v := (-1)) hx hb dX4_play_28 (by decide) ?_
        exact hret (v := (-1)) dX4_play_29 hV (by decide) (by decide) ⟨rfl, Or.inl ⟨fun h => Int32.lt_irrefl (Int32.lt_of_lt_of_le h.2.2.1 (by rw [← erm]; exact c16)), rfl, Or.inr hsc⟩⟩
      · have hin72 := movesF_le P f0
        have hin : i < (movesF P f0).2 := Nat.not_le.mp (fun h => c16 (by rw [erm, hxi]; exact nI_le h hi31))
        refine lv_aload_n hx hb dX4_play_19 rfl (lv_at hl 0 rfl) ?_
        refine mm_get (ci := 4) (C := RX4) (T := TX4) (N := 8) hx hb hts in_X4 hown hK hV (hz.1 0 (by omega)) m_0 rfl 3 (by decide) f_26 (fun _ h => h) rfl dX4_play_20 ?_
        refine lv_bipush (v := 100) hx hb dX4_play_23 (by decide) ?_
        refine lv_icmp_lt (tgt := 30) hx hb dX4_play_25 (by decide) (fun c25 => ?_) (fun c25 => ?_)
        · refine lv_aload_n hx hb dX4_play_30 rfl (lv_at hl 0 rfl) ?_
          refine mm_get (ci := 4) (C := RX4) (T := TX4) (N := 8) hx hb hts in_X4 hown hK hV (hz.1 0 (by omega)) m_0 rfl 4 (by decide) f_33 (fun _ h => h) rfl dX4_play_31 ?_
          refine mm_get (ci := 1) (C := RX1) (T := TX1) (N := 2) hx hb hts in_X1 hown hK hV (hz.1 5 (by omega)) m_5 rfl 0 (by decide) f_85 (fun _ h => h) rfl dX4_play_34 ?_
          refine lv_iload_n hx hb dX4_play_37 rfl (lv_at hl 1 rfl) ?_
          refine mm_ialdN (j := i) hx hb hK hV (hz.1 6 (by omega)) m_6 hxi (by omega) (by decide) dX4_play_38 ?_
          refine lv_topi (fun x2 ex2 => ?_)
          refine lv_istore_n (lv' := [(2, .int x2), (0, .ref (z 0)), (1, .int x)]) hx hb dX4_play_39 rfl hl (by decide) rfl (fun ls hl => ?_)
          have hpk : mvPk P f0 x = x2 := by unfold mvPk; rw [hxi, nI_clamp hi31]; exact ex2.symm
          refine lv_aload_n hx hb dX4_play_40 rfl (lv_at hl 1 rfl) ?_
          refine mm_get (ci := 4) (C := RX4) (T := TX4) (N := 8) hx hb hts in_X4 hown hK hV (hz.1 0 (by omega)) m_0 rfl 2 (by decide) f_22 (fun _ h => h) rfl dX4_play_41 ?_
          refine lv_aload_n hx hb dX4_play_44 rfl (lv_at hl 1 rfl) ?_
          refine mm_get (ci := 4) (C := RX4) (T := TX4) (N := 8) hx hb hts in_X4 hown hK hV (hz.1 0 (by omega)) m_0 rfl 3 (by decide) f_26 (fun _ h => h) rfl dX4_play_45 ?_
          refine lv_iconst (v := 1) hx hb dX4_play_48 (by decide) ?_
          refine lv_iadd hx hb dX4_play_49 ?_
          refine mm_aaldN (j := (lt + 1)) (b := (z (10 + (lt + 1)))) hx hb hK hV 4 (hz.1 4 (by omega)) m_4 rfl (nI_1 lt) (by omega) (by decide) (gzL_at (by omega)) dX4_play_50 ?_
          refine lv_aload_n hx hb dX4_play_51 rfl (lv_at hl 1 rfl) ?_
          refine mm_get (ci := 4) (C := RX4) (T := TX4) (N := 8) hx hb hts in_X4 hown hK hV (hz.1 0 (by omega)) m_0 rfl 2 (by decide) f_22 (fun _ h => h) rfl dX4_play_52 ?_
          refine lv_aload_n hx hb dX4_play_55 rfl (lv_at hl 1 rfl) ?_
          refine mm_get (ci := 4) (C := RX4) (T := TX4) (N := 8) hx hb hts in_X4 hown hK hV (hz.1 0 (by omega)) m_0 rfl 3 (by decide) f_26 (fun _ h => h) rfl dX4_play_56 ?_
          refine mm_aaldN (j := lt) (b := (z (10 + lt))) hx hb hK hV 4 (hz.1 4 (by omega)) m_4 rfl rfl (by omega) (by decide) (gzL_at (by omega)) dX4_play_59 ?_
          refine lv_iload_n hx hb dX4_play_60 rfl (lv_at hl 0 rfl) ?_
          refine mm_Vm (ci := 2) (As := [.ref (z (10 + lt)), .int x2]) (rest := []) ⟨hx, hb, hml, hown, hts⟩ hK hV (c_follow l D dA (P0 := P1) (P := P) x2 (hz.ne (i := 10 + (lt + 1)) (j := 10 + lt) (by omega) (by omega) (by omega)) (hz.1 (10 + (lt + 1)) (by omega)) (hz.1 (10 + lt) (by omega)) m_n m_p) (cwV 2 hts gX4_play_X2_follow rfl rfl rfl (by decide +kernel) (mm_levR hR (by omega) (by decide))) (hz.1 (10 + (lt + 1)) (by omega)) m_n rfl rfl hl.1 rfl (Nat.le_of_ble_eq_true rfl) dX4_play_61 ⟨Nat.zero_le _, Nat.zero_le _⟩ (fun M_2 H locs eM_2 hV => ?_)
          have m_0 : M_2 (z 0) = _ := (congrFun eM_2 (z 0)).trans ((va_up_ne _ _ (hz.ne (i := 0) (j := (10 + (lt + 1))) (by omega) (by omega) (by omega))).trans m_0)
          have m_4 : M_2 (z 4) = _ := (congrFun eM_2 (z 4)).trans ((va_up_ne _ _ (hz.ne (i := 4) (j := (10 + (lt + 1))) (by omega) (by omega) (by omega))).trans m_4)
          have m_p : M_2 (z (10 + lt)) = _ := (congrFun eM_2 (z (10 + lt))).trans ((va_up_ne _ _ (hz.ne (i := (10 + lt)) (j := (10 + (lt + 1))) (by omega) (by omega) (by omega))).trans m_p)
          have m_1 : M_2 (z 1) = _ := (congrFun eM_2 (z 1)).trans ((va_up_ne _ _ (hz.ne (i := 1) (j := (10 + (lt + 1))) (by omega) (by omega) (by omega))).trans m_1)
          have m_5 : M_2 (z 5) = _ := (congrFun eM_2 (z 5)).trans ((va_up_ne _ _ (hz.ne (i := 5) (j := (10 + (lt + 1))) (by omega) (by omega) (by omega))).trans m_5)
          have m_6 : M_2 (z 6) = _ := (congrFun eM_2 (z 6)).trans ((va_up_ne _ _ (hz.ne (i := 6) (j := (10 + (lt + 1))) (by omega) (by omega) (by omega))).trans m_6)
          have m_n : M_2 (z (10 + (lt + 1))) = .inr (2, [.int ((followP P x2).1), .int ((followP P x2).2.1), .int ((followP P x2).2.2.1), .int ((followP P x2).2.2.2.1), .int ((followP P x2).2.2.2.2)]) := by rw [eM_2]; exact va_up_self _ _ _
          have fr : ∀ q : Nat, q ≠ (z 5) → q ≠ (z 6) → q ≠ (z (10 + (lt + 1))) → M_2 q = M q := fun q h0 h1 h2 => (congrFun eM_2 q).trans ((va_up_ne _ _ h2).trans (fr q h0 h1))
          refine lv_aload_n hx hb dX4_play_64 rfl (lv_at hl 1 rfl) ?_
          refine lv_dup hx hb dX4_play_65 rfl ?_
          refine mm_get (ci := 4) (C := RX4) (T := TX4) (N := 8) hx hb hts in_X4 hown hK hV (hz.1 0 (by omega)) m_0 rfl 3 (by decide) f_26 (fun _ h => h) rfl dX4_play_66 ?_
          refine lv_iconst (v := 1) hx hb dX4_play_69 (by decide) ?_
          refine lv_iadd hx hb dX4_play_70 ?_
          refine lv_topi (fun cn ecn => ?_)
          refine mm_put (ci := 4) (v := .int cn) (fs' := [.ref (z 1), ev, .ref (z 4), .int cn, .ref (z 5), .ref (z 7), .ref (z 8), .ref (z 9)]) (ty := .int) (C := RX4) (T := TX4) (N := 8) hx hb hts in_X4 tyX4 tyX4_ok nmX4 hown hK hV (hz.1 0 (by omega)) m_0 rfl 3 (by decide) f_26 (fun _ h => h) rfl (by decide +kernel) rfl rfl (Nat.le_of_ble_eq_true rfl) rfl dX4_play_71 (fun M_3 H locs eM_3 hV => ?_)
          have m_4 : M_3 (z 4) = _ := (congrFun eM_3 (z 4)).trans ((va_up_ne _ _ (hz.ne (i := 4) (j := 0) (by omega) (by omega) (by omega))).trans m_4)
          have m_p : M_3 (z (10 + lt)) = _ := (congrFun eM_3 (z (10 + lt))).trans ((va_up_ne _ _ (hz.ne (i := (10 + lt)) (j := 0) (by omega) (by omega) (by omega))).trans m_p)
          have m_1 : M_3 (z 1) = _ := (congrFun eM_3 (z 1)).trans ((va_up_ne _ _ (hz.ne (i := 1) (j := 0) (by omega) (by omega) (by omega))).trans m_1)
          have m_5 : M_3 (z 5) = _ := (congrFun eM_3 (z 5)).trans ((va_up_ne _ _ (hz.ne (i := 5) (j := 0) (by omega) (by omega) (by omega))).trans m_5)
          have m_6 : M_3 (z 6) = _ := (congrFun eM_3 (z 6)).trans ((va_up_ne _ _ (hz.ne (i := 6) (j := 0) (by omega) (by omega) (by omega))).trans m_6)
          have m_n : M_3 (z (10 + (lt + 1))) = _ := (congrFun eM_3 (z (10 + (lt + 1)))).trans ((va_up_ne _ _ (hz.ne (i := (10 + (lt + 1))) (j := 0) (by omega) (by omega) (by omega))).trans m_n)
          have m_0 : M_3 (z 0) = .inr (4, [.ref (z 1), ev, .ref (z 4), .int cn, .ref (z 5), .ref (z 7), .ref (z 8), .ref (z 9)]) := by rw [eM_3]; exact va_up_self _ _ _
          have fr : ∀ q : Nat, q ≠ (z 5) → q ≠ (z 6) → q ≠ (z (10 + (lt + 1))) → q ≠ (z 0) → M_3 q = M q := fun q h0 h1 h2 h3 => (congrFun eM_3 q).trans ((va_up_ne _ _ h3).trans (fr q h0 h1 h2))
          refine lv_iload_n hx hb dX4_play_74 rfl (lv_at hl 0 rfl) ?_
          refine mm_Sp (v := (mvT x2)) (As := [.int x2]) (rest := []) ⟨hx, hb, hml, hown, hts⟩ hK hV (c_X1_taken l D dA x2) (va_cwS 1 hts gX4_play_X1_taken rfl rfl rfl (by decide +kernel) (mm_levR hR (by omega) (by decide))) rfl hl.1 rfl (Nat.le_of_ble_eq_true rfl) dX4_play_75 ⟨Nat.zero_le _, Nat.zero_le _⟩ (fun H locs hV => ?_)
          refine mm_Sp (v := (bitC (mvT x2))) (As := [.int (mvT x2)]) (rest := []) ⟨hx, hb, hml, hown, hts⟩ hK hV (c_bitCount l D dA (mvT x2)) (va_cwS 1 hts gX4_play_J6_bitCount_0f7a4 rfl rfl rfl (by decide +kernel) (mm_levR hR (by omega) (by decide))) rfl hl.1 rfl (Nat.le_of_ble_eq_true rfl) dX4_play_78 ⟨Nat.zero_le _, Nat.zero_le _⟩ (fun H locs hV => ?_)
          exact hret (v := bitC (mvT x2)) dX4_play_81 hV (by decide) (by decide) ⟨rfl, Or.inr ⟨⟨c4, c8, by rw [hxi]; exact nI_lt hin (by omega), h100⟩, by rw [hpk], by rw [hpk, ← hsc]; exact mm_fin2 m_n (m_0.trans (by rw [ecn]; exact congrArg (fun q => Sum.inr (4, [Value.ref (z 1), ev, Value.ref (z 4), Value.int q, Value.ref (z 5), Value.ref (z 7), Value.ref (z 8), Value.ref (z 9)])) (nI_1 lt))) (hz.ne (by omega) (by omega) (by omega)) (fun q h0 h1 => by rw [eM_3, va_up_ne _ _ h1, eM_2, va_up_ne _ _ h0])⟩⟩
        · exact absurd (nI_lt (b := 100) h100 (by decide)) c25

set_option maxHeartbeats 1000000 in
set_option maxRecDepth 100000 in
theorem c_play_100 (l : Launch) (D : va_G) (dA : Nat → ClassId) {L : List Nat} {M : mm_M} {z : Nat → Nat} {ev : Value} {P : Ps} {f0 : Nat → Int32} {n0 : Nat} (x : Int32) (hz : zW L z) (m_0 : M (z 0) = jO z ev 100) (m_4 : M (z 4) = .inl (dA 4, 101, .inr (.inr (.inr (.inr (gzL z)))))) (m_p : M (z (10 + 100)) = oP P) (hru : ruW dA L M (z 1) (z 2) (z 3)) (hli : liW dA L M (z 5) (z 6) f0 n0) : mm_Cn l D dA yX4_play wsX4_play 24 [.ref (z 0), .int x] L M (fun r M1 => (¬ playOK P f0 100 x ∧ r = -1 ∧ (M1 = M ∨ M1 = mvM dA M z P f0)) ∨ (playOK P f0 100 x ∧ r = bitC (mvT (mvPk P f0 x)) ∧ M1 = va_up (va_up (mvM dA M z P f0) (z (10 + (100 + 1))) (oP (followP P (mvPk P f0 x)))) (z 0) (jO z ev (100 + 1)))) := by
  have m_0 : M (z 0) = .inr (4, [.ref (z 1), ev, .ref (z 4), .int (nI 100), .ref (z 5), .ref (z 7), .ref (z 8), .ref (z 9)]) := m_0
  have m_p : M (z (10 + 100)) = .inr (2, [.int P.1, .int P.2.1, .int P.2.2.1, .int P.2.2.2.1, .int P.2.2.2.2]) := m_p
  have m_1 := hru.2.2.2.1
  obtain ⟨-, -, m_5, m_6, hn0⟩ := id hli
  have m_5 : M (z 5) = .inr (1, [.ref (z 6), .int (nI n0)]) := m_5
  have hlt : 100 ≤ 100 := Nat.le_refl _
  refine mm_enter_i (cc := cX4_play) (maxL := 3) (by decide) rfl (Nat.le_of_ble_eq_true rfl) ?_
  intro p e R s m args below meth c A ls H locs Q hR hx hb hml hin hown hts hK hV hl hret
  have hl : lv_has ls 3 [(0, .ref (z 0)), (1, .int x)] := hl
  have hown : s.vm.findClass RX4 = some m.cls := hown
  have f_26 := hts (.fieldLink RX4 26 "JumpBoard" "latest" "I") (by decide +kernel)
  have in_X4 : ∀ w ∈ wsX40, w ∈ wsX4_play := by decide +kernel
  refine lv_aload_n hx hb dX4_play_0 rfl (lv_at hl 0 rfl) ?_
  refine mm_Vp (v := (overF P)) (ci := 4) (As := []) (rest := []) ⟨hx, hb, hml, hown, hts⟩ hK hV (c_over l D dA hz m_0 m_4 hlt m_p hru) (cwV 0 hts gX4_play_X4_over rfl rfl rfl (by decide +kernel) (mm_levR hR (by omega) (by decide))) (hz.1 0 (by omega)) m_0 rfl rfl hl.1 rfl (Nat.le_of_ble_eq_true rfl) dX4_play_1 ⟨Nat.zero_le _, Nat.zero_le _⟩ (fun H locs hV => ?_)
  refine lv_if_ne (tgt := 28) hx hb dX4_play_4 (by decide) (fun c4 => ?_) (fun c4 => ?_)
  · refine lv_iconst (v := (-1)) hx hb dX4_play_28 (by decide) ?_
    exact hret (v := (-1)) dX4_play_29 hV (by decide) (by decide) ⟨rfl, Or.inl ⟨fun h => c4 h.1, rfl, Or.inl rfl⟩⟩
  · refine lv_iload_n hx hb dX4_play_7 rfl (lv_at hl 1 rfl) ?_
    refine lv_if_lt (tgt := 28) hx hb dX4_play_8 (by decide) (fun c8 => ?_) (fun c8 => ?_)
    · refine lv_iconst (v := (-1)) hx hb dX4_play_28 (by decide) ?_
      exact hret (v := (-1)) dX4_play_29 hV (by decide) (by decide) ⟨rfl, Or.inl ⟨fun h => h.2.1 c8, rfl, Or.inl rfl⟩⟩
    · obtain ⟨i, hi31, hxi⟩ := nI_of c8
      refine lv_iload_n hx hb dX4_play_11 rfl (lv_at hl 1 rfl) ?_
      refine lv_aload_n hx hb dX4_play_12 rfl (lv_at hl 0 rfl) ?_
      refine mm_Vn (ci := 4) (As := []) (rest := [.int x]) ⟨hx, hb, hml, hown, hts⟩ hK hV (c_moves l D dA hz m_0 m_4 hlt m_p hru hli) (cwV 0 hts gX4_play_X4_moves rfl rfl rfl (by decide +kernel) (mm_levR hR (by omega) (by decide))) (hz.1 0 (by omega)) m_0 rfl rfl hl.1 rfl (Nat.le_of_ble_eq_true rfl) dX4_play_13 ⟨Nat.zero_le _, Nat.zero_le _⟩ (fun rm M_1 H locs hp hV => ?_)
      obtain ⟨erm, eM_1⟩ := hp
      have m_0 : M_1 (z 0) = _ := (congrFun eM_1 (z 0)).trans ((va_up_ne _ _ (hz.ne (i := 0) (j := 6) (by omega) (by omega) (by omega))).trans ((va_up_ne _ _ (hz.ne (i := 0) (j := 5) (by omega) (by omega) (by omega))).trans m_0))
      have m_4 : M_1 (z 4) = _ := (congrFun eM_1 (z 4)).trans ((va_up_ne _ _ (hz.ne (i := 4) (j := 6) (by omega) (by omega) (by omega))).trans ((va_up_ne _ _ (hz.ne (i := 4) (j := 5) (by omega) (by omega) (by omega))).trans m_4))
      have m_p : M_1 (z (10 + 100)) = _ := (congrFun eM_1 (z (10 + 100))).trans ((va_up_ne _ _ (hz.ne (i := (10 + 100)) (j := 6) (by omega) (by omega) (by omega))).trans ((va_up_ne _ _ (hz.ne (i := (10 + 100)) (j := 5) (by omega) (by omega) (by omega))).trans m_p))
      have m_1 : M_1 (z 1) = _ := (congrFun eM_1 (z 1)).trans ((va_up_ne _ _ (hz.ne (i := 1) (j := 6) (by omega) (by omega) (by omega))).trans ((va_up_ne _ _ (hz.ne (i := 1) (j := 5) (by omega) (by omega) (by omega))).trans m_1))
      have m_5 : M_1 (z 5) = .inr (1, [.ref (z 6), .int (nI (movesF P f0).2)]) := (congrFun eM_1 (z 5)).trans ((va_up_ne _ _ (hz.ne (i := 5) (j := 6) (by omega) (by omega) (by omega))).trans (va_up_self _ _ _))
      have m_6 : M_1 (z 6) = .inl (dA 0, 72, .inl ((movesF P f0).1)) := (congrFun eM_1 (z 6)).trans (va_up_self _ _ _)
      have fr : ∀ q : Nat, q ≠ (z 5) → q ≠ (z 6) → M_1 q = M q := fun q h0 h1 => (congrFun eM_1 q).trans ((va_up_ne _ _ h1).trans ((va_up_ne _ _ h0).trans rfl))
      have hsc : M_1 = mvM dA M z P f0 := eM_1
      refine lv_icmp_ge (tgt := 28) hx hb dX4_play_16 (by decide) (fun c16 => ?_) (fun c16 => ?_)
      · refine lv_iconst (v := (-1)) hx hb dX4_play_28 (by decide) ?_
        exact hret (v := (-1)) dX4_play_29 hV (by decide) (by decide) ⟨rfl, Or.inl ⟨fun h => Int32.lt_irrefl (Int32.lt_of_lt_of_le h.2.2.1 (by rw [← erm]; exact c16)), rfl, Or.inr hsc⟩⟩
      · have hin72 := movesF_le P f0
        have hin : i < (movesF P f0).2 := Nat.not_le.mp (fun h => c16 (by rw [erm, hxi]; exact nI_le h hi31))
        refine lv_aload_n hx hb dX4_play_19 rfl (lv_at hl 0 rfl) ?_
        refine mm_get (ci := 4) (C := RX4) (T := TX4) (N := 8) hx hb hts in_X4 hown hK hV (hz.1 0 (by omega)) m_0 rfl 3 (by decide) f_26 (fun _ h => h) rfl dX4_play_20 ?_
        refine lv_bipush (v := 100) hx hb dX4_play_23 (by decide) ?_
        refine lv_icmp_lt (tgt := 30) hx hb dX4_play_25 (by decide) (fun c25 => ?_) (fun c25 => ?_)
        · exact absurd c25 (by decide)
        · refine lv_iconst (v := (-1)) hx hb dX4_play_28 (by decide) ?_
          exact hret (v := (-1)) dX4_play_29 hV (by decide) (by decide) ⟨rfl, Or.inl ⟨fun h => absurd h.2.2.2 (by decide), rfl, Or.inr hsc⟩⟩
