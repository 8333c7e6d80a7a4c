/-! The reference: its object at ob, the array of its field k at ad k -/
def rO (ad : Nat → Nat) (pl qu so : Int32) : va_E := .inr (5, [.ref (ad 0), .ref (ad 1), .ref (ad 2), .ref (ad 3), .ref (ad 4), .ref (ad 5), .ref (ad 6), .ref (ad 7), .ref (ad 8), .ref (ad 9), .ref (ad 10), .ref (ad 11), .ref (ad 12), .int pl, .int qu, .ref (ad 15), .ref (ad 16), .int so, .ref (ad 18), .ref (ad 19)])
def rak (k : Nat) : Bool := decide (k < 20) && !(k == 13) && !(k == 14) && !(k == 17)
def rtK (k : Nat) : Nat := if k = 12 then 3 else 0
def rlK (k : Nat) : Nat := ([108, 6, 480, 6, 6, 6, 6, 72, 72, 8, 8, 8, 8, 0, 0, 1800, 100, 0, 10368, 2592] : List Nat).getD k 0
def rA (dA : Nat → ClassId) (L : List Nat) (M : mm_M) (ad : Nat → Nat) (S : Nat → Nat → Int32) : Prop := (∀ k, rak k = true → ad k ∈ L ∧ M (ad k) = .inl (dA (rtK k), rlK k, .inl (S k))) ∧ ∀ j k, rak j = true → rak k = true → ad j = ad k → j = k
theorem rA.i {dA : Nat → ClassId} {L : List Nat} {M : mm_M} {ad : Nat → Nat} {S : Nat → Nat → Int32} (h : rA dA L M ad S) (k : Nat) (hk : rak k = true) : ad k ∈ L := (h.1 k hk).1
theorem rA.m {dA : Nat → ClassId} {L : List Nat} {M : mm_M} {ad : Nat → Nat} {S : Nat → Nat → Int32} (h : rA dA L M ad S) (k : Nat) (hk : rak k = true) : M (ad k) = .inl (dA (rtK k), rlK k, .inl (S k)) := (h.1 k hk).2
theorem rA.up {dA : Nat → ClassId} {L : List Nat} {M M1 : mm_M} {ad : Nat → Nat} {S : Nat → Nat → Int32} (h : rA dA L M ad S) (k : Nat) (hk : rak k = true) {f : Nat → Int32} (hM : M1 = va_up M (ad k) (.inl (dA (rtK k), rlK k, .inl f))) : rA dA L M1 ad (va_up S k f) := by
  refine ⟨fun j hj => ⟨(h.1 j hj).1, ?_⟩, h.2⟩
  by_cases hjk : j = k
  · subst hjk; rw [hM, va_up_self, va_up_self]
  · rw [hM, va_up_ne _ _ (fun e => hjk (h.2 j k hj hk e)), va_up_ne _ _ hjk]; exact (h.1 j hj).2
theorem rA.nob {dA : Nat → ClassId} {L : List Nat} {M : mm_M} {ad : Nat → Nat} {S : Nat → Nat → Int32} {ob : Nat} {pl qu so : Int32} (h : rA dA L M ad S) (k : Nat) (hk : rak k = true) (m_ob : M ob = rO ad pl qu so) (e : ob = ad k) : False := by
  have h1 := (h.1 k hk).2
  rw [← e, m_ob] at h1
  unfold rO at h1
  cases h1
theorem rA.ob {dA : Nat → ClassId} {L : List Nat} {M M1 : mm_M} {ad : Nat → Nat} {S : Nat → Nat → Int32} {ob : Nat} {pl qu so : Int32} {x : va_E} (h : rA dA L M ad S) (m_ob : M ob = rO ad pl qu so) (hM : M1 = va_up M ob x) : rA dA L M1 ad S :=
  ⟨fun k hk => ⟨(h.1 k hk).1, by rw [hM, va_up_ne _ _ (fun e => h.nob k hk m_ob e.symm)]; exact (h.1 k hk).2⟩, h.2⟩
/-- nothing but the reference's own cells has changed -/
def rF (L : List Nat) (ad : Nat → Nat) (ob : Nat) (M M1 : mm_M) : Prop := ∀ q : Nat, (∀ k, rak k = true → q ≠ ad k) → q ≠ ob → M1 q = M q
theorem rF.rf {L : List Nat} {ad : Nat → Nat} {ob : Nat} {M : mm_M} : rF L ad ob M M := fun _ _ _ => rfl
theorem rF.up {L : List Nat} {ad : Nat → Nat} {ob : Nat} {M M1 M2 : mm_M} {x : va_E} (h : rF L ad ob M M1) (k : Nat) (hk : rak k = true) (hM : M2 = va_up M1 (ad k) x) : rF L ad ob M M2 := fun q a b => by rw [hM, va_up_ne _ _ (a k hk)]; exact h q a b
theorem rF.ob {L : List Nat} {ad : Nat → Nat} {ob : Nat} {M M1 M2 : mm_M} {x : va_E} (h : rF L ad ob M M1) (hM : M2 = va_up M1 ob x) : rF L ad ob M M2 := fun q a b => by rw [hM, va_up_ne _ _ b]; exact h q a b
theorem rF.tr {L : List Nat} {ad : Nat → Nat} {ob : Nat} {M M1 M2 : mm_M} (h : rF L ad ob M M1) (h2 : rF L ad ob M1 M2) : rF L ad ob M M2 := fun q a b => (h2 q a b).trans (h q a b)
/-! statics -/
def rowR (x : Int32) : Int32 := x / 3
def reachR (x d n : Int32) : Int32 :=
  let row := rowR x + (if 2 ≤ d then -n else n)
  let col := (2 * (x - x / 3 * 3) + (rowR x - rowR x / 2 * 2)) + (if d - d / 2 * 2 = 0 then -n else n)
  let on := if row < 0 then (0 : Int32) else (if 5 < row then 0 else (if col < 0 then 0 else (if 5 < col then 0 else 1)))
  if on = 0 then -1 else 3 * row + col / 2
def sideR (p : Int32) : Int32 := if p = 0 then -1 else (if 3 ≤ p then 1 else 0)
def kingR (p : Int32) : Int32 := if p = 2 then 1 else (if p = 4 then 1 else 0)
def goesR (p d : Int32) : Int32 := if kingR p = 0 then (if (if p = 1 then (1 : Int32) else 0) = (if 2 ≤ d then (0 : Int32) else 1) then 1 else 0) else 1
def crownR (s : Int32) : Int32 := if s = 0 then 5 else 0
def begR (k : Int32) : Int32 := k / 262144 / 18
def endR (k : Int32) : Int32 := k / 262144 - k / 262144 / 18 * 18
def codeR (s k a q b : Int32) : Int32 := ((((2 * s) + (if k = 0 then 0 else 1)) * 18 + a) * 36 + (if q = 0 then 0 else 18)) + b

set_option maxHeartbeats 1000000 in
set_option maxRecDepth 100000 in
theorem c_rowR (l : Launch) (D : va_G) (dA : Nat → ClassId) {L : List Nat} {M : mm_M} (x : Int32)  : mm_Cp l D dA yX5_rowOf wsX5_rowOf 0 [.int x] L M (rowR x) := by
  refine mm_enter_i (cc := cX5_rowOf) (maxL := 1) (by decide) rfl (Nat.le_of_ble_eq_true rfl) ?_
  intro p e R s m args below meth c A ls H locs Q hR hx hb hml hin hown hts hK hV hl hret
  have hl : lv_has ls 1 [(0, .int x)] := hl
  have hown : s.vm.findClass RX5 = some m.cls := hown
  refine lv_iload_n hx hb dX5_rowOf_0 rfl (lv_at hl 0 rfl) ?_
  refine lv_iconst (v := 3) hx hb dX5_rowOf_1 (by decide) ?_
  refine lv_idiv hx hb dX5_rowOf_2 (by decide) ?_
  exact hret (v := (x / 3)) dX5_rowOf_3 hV (by decide) (by decide) ⟨by subst_vars; rfl, rfl, rfl⟩

set_option maxHeartbeats 1000000 in
set_option maxRecDepth 100000 in
theorem c_reachR (l : Launch) (D : va_G) (dA : Nat → ClassId) {L : List Nat} {M : mm_M} (x d n : Int32)  : mm_Cp l D dA yX5_reach wsX5_reach 1 [.int x, .int d, .int n] L M (reachR x d n) := by
  refine mm_enter_i (cc := cX5_reach) (maxL := 6) (by decide) rfl (Nat.le_of_ble_eq_true rfl) ?_
  intro p e R s m args below meth c A ls H locs Q hR hx hb hml hin hown hts hK hV hl hret
  have hl : lv_has ls 6 [(0, .int x), (1, .int d), (2, .int n)] := hl
  have hown : s.vm.findClass RX5 = some m.cls := hown
  refine lv_iload_n hx hb dX5_reach_0 rfl (lv_at hl 0 rfl) ?_
  refine mm_Sp (v := (rowR x)) (As := [.int x]) (rest := []) ⟨hx, hb, hml, hown, hts⟩ hK hV (c_rowR l D dA x) (va_cwS 1 hts gX5_reach_X5_rowOf rfl rfl rfl (by decide +kernel) (mm_levR hR (by omega) (by decide))) rfl hl.1 rfl (Nat.le_of_ble_eq_true rfl) dX5_reach_1 ⟨Nat.zero_le _, Nat.zero_le _⟩ (fun H locs hV => ?_)
  refine lv_iload_n hx hb dX5_reach_4 rfl (lv_at hl 1 rfl) ?_
  refine lv_iconst (v := 2) hx hb dX5_reach_5 (by decide) ?_
  have J15 : ∀ (v15_1 : Int32), v15_1 = (if 2 ≤ d then (-n) else n) → W p l e R s m args below meth c H locs 0 0 Q (F0 m 15 ls [.int v15_1, .int (rowR x)]) := by
    intro v15_1 ev15_1
    refine lv_iadd hx hb dX5_reach_15 ?_
    refine lv_topi (fun x3_2 ex3_2 => ?_)
    refine lv_istore_n (lv' := [(3, .int x3_2), (0, .int x), (1, .int d), (2, .int n)]) hx hb dX5_reach_16 rfl hl (by decide) rfl (fun ls hl => ?_)
    refine lv_iconst (v := 2) hx hb dX5_reach_17 (by decide) ?_
    refine lv_iload_n hx hb dX5_reach_18 rfl (lv_at hl 1 rfl) ?_
    refine lv_iconst (v := 3) hx hb dX5_reach_19 (by decide) ?_
    refine lv_irem hx hb dX5_reach_20 (by decide) ?_
    refine lv_imul hx hb dX5_reach_21 ?_
    refine lv_iload_n hx hb dX5_reach_22 rfl (lv_at hl 1 rfl) ?_
    refine mm_Sp (v := (rowR x)) (As := [.int x]) (rest := [.int (2 * (x - x / 3 * 3))]) ⟨hx, hb, hml, hown, hts⟩ hK hV (c_rowR l D dA x) (va_cwS 1 hts gX5_reach_X5_rowOf rfl rfl rfl (by decide +kernel) (mm_levR hR (by omega) (by decide))) rfl hl.1 rfl (Nat.le_of_ble_eq_true rfl) dX5_reach_23 ⟨Nat.zero_le _, Nat.zero_le _⟩ (fun H locs hV => ?_)
    refine lv_iconst (v := 2) hx hb dX5_reach_26 (by decide) ?_
    refine lv_irem hx hb dX5_reach_27 (by decide) ?_
    refine lv_iadd hx hb dX5_reach_28 ?_
    refine lv_iload_n hx hb dX5_reach_29 rfl (lv_at hl 2 rfl) ?_
    refine lv_iconst (v := 2) hx hb dX5_reach_30 (by decide) ?_
    refine lv_irem hx hb dX5_reach_31 (by decide) ?_
    have J41 : ∀ (v41_3 : Int32), v41_3 = (if (d - d / 2 * 2) = 0 then (-n) else n) → W p l e R s m args below meth c H locs 0 0 Q (F0 m 41 ls [.int v41_3, .int ((2 * (x - x / 3 * 3)) + (rowR x - rowR x / 2 * 2))]) := by
      intro v41_3 ev41_3
      refine lv_iadd hx hb dX5_reach_41 ?_
      refine lv_topi (fun x4_4 ex4_4 => ?_)
      refine lv_istore (lv' := [(4, .int x4_4), (3, .int x3_2), (0, .int x), (1, .int d), (2, .int n)]) hx hb dX5_reach_42 hl (by decide) rfl (fun ls hl => ?_)
      refine lv_iload_n hx hb dX5_reach_44 rfl (lv_at hl 1 rfl) ?_
      have J69 : ∀ (v69_5 : Int32), v69_5 = (if x3_2 < 0 then 0 else (if 5 < x3_2 then 0 else (if x4_4 < 0 then 0 else (if 5 < x4_4 then 0 else 1)))) → W p l e R s m args below meth c H locs 0 0 Q (F0 m 69 ls [.int v69_5]) := by
        intro v69_5 ev69_5
        refine lv_istore (lv' := [(5, .int v69_5), (4, .int x4_4), (3, .int x3_2), (0, .int x), (1, .int d), (2, .int n)]) hx hb dX5_reach_69 hl (by decide) rfl (fun ls hl => ?_)
        refine lv_iload hx hb dX5_reach_71 (lv_at hl 0 rfl) ?_
        have J88 : ∀ (v88_6 : Int32), v88_6 = (if v69_5 = 0 then (-1) else ((3 * x3_2) + (x4_4 / 2))) → W p l e R s m args below meth c H locs 0 0 Q (F0 m 88 ls [.int v88_6]) := by
          intro v88_6 ev88_6
          exact hret (v := v88_6) dX5_reach_88 hV (by decide) (by decide) ⟨by subst_vars; rfl, rfl, rfl⟩
        refine lv_if_eq (tgt := 87) hx hb dX5_reach_73 (by decide) (fun c73 => ?_) (fun c73 => ?_)
        · refine lv_iconst (v := (-1)) hx hb dX5_reach_87 (by decide) ?_
          exact J88 _ (by rw [if_pos c73])
        · refine lv_iconst (v := 3) hx hb dX5_reach_76 (by decide) ?_
          refine lv_iload_n hx hb dX5_reach_77 rfl (lv_at hl 2 rfl) ?_
          refine lv_imul hx hb dX5_reach_78 ?_
          refine lv_iload hx hb dX5_reach_79 (lv_at hl 1 rfl) ?_
          refine lv_iconst (v := 2) hx hb dX5_reach_81 (by decide) ?_
          refine lv_idiv hx hb dX5_reach_82 (by decide) ?_
          refine lv_iadd hx hb dX5_reach_83 ?_
          refine lv_goto (tgt := 88) hx hb dX5_reach_84 (by decide) ?_
          exact J88 _ (by rw [if_neg c73])
      refine lv_if_lt (tgt := 68) hx hb dX5_reach_45 (by decide) (fun c45 => ?_) (fun c45 => ?_)
      · refine lv_iconst (v := 0) hx hb dX5_reach_68 (by decide) ?_
        exact J69 _ (by rw [if_pos c45])
      · refine lv_iload_n hx hb dX5_reach_48 rfl (lv_at hl 1 rfl) ?_
        refine lv_iconst (v := 5) hx hb dX5_reach_49 (by decide) ?_
        refine lv_icmp_gt (tgt := 68) hx hb dX5_reach_50 (by decide) (fun c50 => ?_) (fun c50 => ?_)
        · refine lv_iconst (v := 0) hx hb dX5_reach_68 (by decide) ?_
          exact J69 _ (by rw [if_neg c45, if_pos c50])
        · refine lv_iload hx hb dX5_reach_53 (lv_at hl 0 rfl) ?_
          refine lv_if_lt (tgt := 68) hx hb dX5_reach_55 (by decide) (fun c55 => ?_) (fun c55 => ?_)
          · refine lv_iconst (v := 0) hx hb dX5_reach_68 (by decide) ?_
            exact J69 _ (by rw [if_neg c45, if_neg c50, if_pos c55])
          · refine lv_iload hx hb dX5_reach_58 (lv_at hl 0 rfl) ?_
            refine lv_iconst (v := 5) hx hb dX5_reach_60 (by decide) ?_
            refine lv_icmp_gt (tgt := 68) hx hb dX5_reach_61 (by decide) (fun c61 => ?_) (fun c61 => ?_)
            · refine lv_iconst (v := 0) hx hb dX5_reach_68 (by decide) ?_
              exact J69 _ (by rw [if_neg c45, if_neg c50, if_neg c55, if_pos c61])
            · refine lv_iconst (v := 1) hx hb dX5_reach_64 (by decide) ?_
              refine lv_goto (tgt := 69) hx hb dX5_reach_65 (by decide) ?_
              exact J69 _ (by rw [if_neg c45, if_neg c50, if_neg c55, if_neg c61])
    refine lv_if_ne (tgt := 40) hx hb dX5_reach_32 (by decide) (fun c32 => ?_) (fun c32 => ?_)
    · refine lv_iload_n hx hb dX5_reach_40 rfl (lv_at hl 3 rfl) ?_
      exact J41 _ (by rw [if_neg c32])
    · refine lv_iload_n hx hb dX5_reach_35 rfl (lv_at hl 3 rfl) ?_
      refine lv_ineg hx hb dX5_reach_36 ?_
      refine lv_goto (tgt := 41) hx hb dX5_reach_37 (by decide) ?_
      exact J41 _ (by rw [if_pos c32])
  refine lv_icmp_ge (tgt := 13) hx hb dX5_reach_6 (by decide) (fun c6 => ?_) (fun c6 => ?_)
  · refine lv_iload_n hx hb dX5_reach_13 rfl (lv_at hl 2 rfl) ?_
    refine lv_ineg hx hb dX5_reach_14 ?_
    exact J15 _ (by rw [if_pos c6])
  · refine lv_iload_n hx hb dX5_reach_9 rfl (lv_at hl 2 rfl) ?_
    refine lv_goto (tgt := 15) hx hb dX5_reach_10 (by decide) ?_
    exact J15 _ (by rw [if_neg c6])

set_option maxHeartbeats 1000000 in
set_option maxRecDepth 100000 in
theorem c_sideR (l : Launch) (D : va_G) (dA : Nat → ClassId) {L : List Nat} {M : mm_M} (q : Int32)  : mm_Cp l D dA yX5_sideOf wsX5_sideOf 0 [.int q] L M (sideR q) := by
  refine mm_enter_i (cc := cX5_sideOf) (maxL := 1) (by decide) rfl (Nat.le_of_ble_eq_true rfl) ?_
  intro p e R s m args below meth c A ls H locs Q hR hx hb hml hin hown hts hK hV hl hret
  have hl : lv_has ls 1 [(0, .int q)] := hl
  have hown : s.vm.findClass RX5 = some m.cls := hown
  refine lv_iload_n hx hb dX5_sideOf_0 rfl (lv_at hl 0 rfl) ?_
  have J18 : ∀ (v18_1 : Int32), v18_1 = (if q = 0 then (-1) else (if 3 ≤ q then 1 else 0)) → W p l e R s m args below meth c H locs 0 0 Q (F0 m 18 ls [.int v18_1]) := by
    intro v18_1 ev18_1
    exact hret (v := v18_1) dX5_sideOf_18 hV (by decide) (by decide) ⟨by subst_vars; rfl, rfl, rfl⟩
  refine lv_if_ne (tgt := 8) hx hb dX5_sideOf_1 (by decide) (fun c1 => ?_) (fun c1 => ?_)
  · refine lv_iload_n hx hb dX5_sideOf_8 rfl (lv_at hl 0 rfl) ?_
    refine lv_iconst (v := 3) hx hb dX5_sideOf_9 (by decide) ?_
    refine lv_icmp_ge (tgt := 17) hx hb dX5_sideOf_10 (by decide) (fun c10 => ?_) (fun c10 => ?_)
    · refine lv_iconst (v := 1) hx hb dX5_sideOf_17 (by decide) ?_
      exact J18 _ (by rw [if_neg c1, if_pos c10])
    · refine lv_iconst (v := 0) hx hb dX5_sideOf_13 (by decide) ?_
      refine lv_goto (tgt := 18) hx hb dX5_sideOf_14 (by decide) ?_
      exact J18 _ (by rw [if_neg c1, if_neg c10])
  · refine lv_iconst (v := (-1)) hx hb dX5_sideOf_4 (by decide) ?_
    refine lv_goto (tgt := 18) hx hb dX5_sideOf_5 (by decide) ?_
    exact J18 _ (by rw [if_pos c1])

set_option maxHeartbeats 1000000 in
set_option maxRecDepth 100000 in
theorem c_kingR (l : Launch) (D : va_G) (dA : Nat → ClassId) {L : List Nat} {M : mm_M} (q : Int32)  : mm_Cp l D dA yX5_isKing wsX5_isKing 0 [.int q] L M (kingR q) := by
  refine mm_enter_z (cc := cX5_isKing) (maxL := 1) (by decide) rfl (Nat.le_of_ble_eq_true rfl) ?_
  intro p e R s m args below meth c A ls H locs Q hR hx hb hml hin hown hts hK hV hl hret
  have hl : lv_has ls 1 [(0, .int q)] := hl
  have hown : s.vm.findClass RX5 = some m.cls := hown
  refine lv_iload_n hx hb dX5_isKing_0 rfl (lv_at hl 0 rfl) ?_
  refine lv_iconst (v := 2) hx hb dX5_isKing_1 (by decide) ?_
  have J15 : ∀ (v15_1 : Int32), v15_1 = (if q = 2 then 1 else (if q = 4 then 1 else 0)) → W p l e R s m args below meth c H locs 0 0 Q (F0 m 15 ls [.int v15_1]) := by
    intro v15_1 ev15_1
    exact hret (v := v15_1) dX5_isKing_15 hV (by decide) (by decide) (by subst_vars; (repeat' split) <;> first | exact Or.inl rfl | exact Or.inr rfl) ⟨by subst_vars; rfl, rfl, rfl⟩
  refine lv_icmp_eq (tgt := 10) hx hb dX5_isKing_2 (by decide) (fun c2 => ?_) (fun c2 => ?_)
  · refine lv_iconst (v := 1) hx hb dX5_isKing_10 (by decide) ?_
    refine lv_goto (tgt := 15) hx hb dX5_isKing_11 (by decide) ?_
    exact J15 _ (by rw [if_pos c2])
  · refine lv_iload_n hx hb dX5_isKing_5 rfl (lv_at hl 0 rfl) ?_
    refine lv_iconst (v := 4) hx hb dX5_isKing_6 (by decide) ?_
    refine lv_icmp_ne (tgt := 14) hx hb dX5_isKing_7 (by decide) (fun c7 => ?_) (fun c7 => ?_)
    · refine lv_iconst (v := 0) hx hb dX5_isKing_14 (by decide) ?_
      exact J15 _ (by rw [if_neg c2, if_neg c7])
    · refine lv_iconst (v := 1) hx hb dX5_isKing_10 (by decide) ?_
      refine lv_goto (tgt := 15) hx hb dX5_isKing_11 (by decide) ?_
      exact J15 _ (by rw [if_neg c2, if_pos c7])

set_option maxHeartbeats 1000000 in
set_option maxRecDepth 100000 in
theorem c_goesR (l : Launch) (D : va_G) (dA : Nat → ClassId) {L : List Nat} {M : mm_M} (q d : Int32)  : mm_Cp l D dA yX5_goes wsX5_goes 1 [.int q, .int d] L M (goesR q d) := by
  refine mm_enter_z (cc := cX5_goes) (maxL := 2) (by decide) rfl (Nat.le_of_ble_eq_true rfl) ?_
  intro p e R s m args below meth c A ls H locs Q hR hx hb hml hin hown hts hK hV hl hret
  have hl : lv_has ls 2 [(0, .int q), (1, .int d)] := hl
  have hown : s.vm.findClass RX5 = some m.cls := hown
  refine lv_iload_n hx hb dX5_goes_0 rfl (lv_at hl 0 rfl) ?_
  refine mm_Sp (v := (kingR q)) (As := [.int q]) (rest := []) ⟨hx, hb, hml, hown, hts⟩ hK hV (c_kingR l D dA q) (va_cwS 1 hts gX5_goes_X5_isKing rfl rfl rfl (by decide +kernel) (mm_levR hR (by omega) (by decide))) rfl hl.1 rfl (Nat.le_of_ble_eq_true rfl) dX5_goes_1 ⟨Nat.zero_le _, Nat.zero_le _⟩ (fun H locs hV => ?_)
  refine lv_if_ne (tgt := 30) hx hb dX5_goes_4 (by decide) (fun c4 => ?_) (fun c4 => ?_)
  · refine lv_iconst (v := 1) hx hb dX5_goes_30 (by decide) ?_
    refine lv_goto (tgt := 35) hx hb dX5_goes_31 (by decide) ?_
    exact hret (v := 1) dX5_goes_35 hV (by decide) (by decide) (by subst_vars; (repeat' split) <;> first | exact Or.inl rfl | exact Or.inr rfl) ⟨by unfold goesR; rw [if_neg c4], rfl, rfl⟩
  · refine lv_iload_n hx hb dX5_goes_7 rfl (lv_at hl 0 rfl) ?_
    refine lv_iconst (v := 1) hx hb dX5_goes_8 (by decide) ?_
    have J17 : ∀ (v17 : Int32), v17 = (if q = 1 then 1 else 0) → W p l e R s m args below meth c H locs 0 0 Q (F0 m 17 ls [.int v17]) := by
      intro v17 ev17
      refine lv_iload_n hx hb dX5_goes_17 rfl (lv_at hl 1 rfl) ?_
      refine lv_iconst (v := 2) hx hb dX5_goes_18 (by decide) ?_
      have J27 : ∀ (v27 : Int32), v27 = (if 2 ≤ d then 0 else 1) → W p l e R s m args below meth c H locs 0 0 Q (F0 m 27 ls [.int v27, .int v17]) := by
        intro v27 ev27
        refine lv_icmp_ne (tgt := 34) hx hb dX5_goes_27 (by decide) (fun c27 => ?_) (fun c27 => ?_)
        · refine lv_iconst (v := 0) hx hb dX5_goes_34 (by decide) ?_
          exact hret (v := 0) dX5_goes_35 hV (by decide) (by decide) (by subst_vars; (repeat' split) <;> first | exact Or.inl rfl | exact Or.inr rfl) ⟨by unfold goesR; rw [if_pos c4, ← ev17, ← ev27, if_neg c27], rfl, rfl⟩
        · refine lv_iconst (v := 1) hx hb dX5_goes_30 (by decide) ?_
          refine lv_goto (tgt := 35) hx hb dX5_goes_31 (by decide) ?_
          exact hret (v := 1) dX5_goes_35 hV (by decide) (by decide) (by subst_vars; (repeat' split) <;> first | exact Or.inl rfl | exact Or.inr rfl) ⟨by unfold goesR; rw [if_pos c4, ← ev17, ← ev27, if_pos c27], rfl, rfl⟩
      refine lv_icmp_ge (tgt := 26) hx hb dX5_goes_19 (by decide) (fun c19 => ?_) (fun c19 => ?_)
      · refine lv_iconst (v := 0) hx hb dX5_goes_26 (by decide) ?_
        exact J27 _ (by rw [if_pos c19])
      · refine lv_iconst (v := 1) hx hb dX5_goes_22 (by decide) ?_
        refine lv_goto (tgt := 27) hx hb dX5_goes_23 (by decide) ?_
        exact J27 _ (by rw [if_neg c19])
    refine lv_icmp_ne (tgt := 16) hx hb dX5_goes_9 (by decide) (fun c9 => ?_) (fun c9 => ?_)
    · refine lv_iconst (v := 0) hx hb dX5_goes_16 (by decide) ?_
      exact J17 _ (by rw [if_neg c9])
    · refine lv_iconst (v := 1) hx hb dX5_goes_12 (by decide) ?_
      refine lv_goto (tgt := 17) hx hb dX5_goes_13 (by decide) ?_
      exact J17 _ (by rw [if_pos c9])

set_option maxHeartbeats 1000000 in
set_option maxRecDepth 100000 in
theorem c_crownR (l : Launch) (D : va_G) (dA : Nat → ClassId) {L : List Nat} {M : mm_M} (q : Int32)  : mm_Cp l D dA yX5_crowning wsX5_crowning 0 [.int q] L M (crownR q) := by
  refine mm_enter_i (cc := cX5_crowning) (maxL := 1) (by decide) rfl (Nat.le_of_ble_eq_true rfl) ?_
  intro p e R s m args below meth c A ls H locs Q hR hx hb hml hin hown hts hK hV hl hret
  have hl : lv_has ls 1 [(0, .int q)] := hl
  have hown : s.vm.findClass RX5 = some m.cls := hown
  refine lv_iload_n hx hb dX5_crowning_0 rfl (lv_at hl 0 rfl) ?_
  have J9 : ∀ (v9_1 : Int32), v9_1 = (if q = 0 then 5 else 0) → W p l e R s m args below meth c H locs 0 0 Q (F0 m 9 ls [.int v9_1]) := by
    intro v9_1 ev9_1
    exact hret (v := v9_1) dX5_crowning_9 hV (by decide) (by decide) ⟨by subst_vars; rfl, rfl, rfl⟩
  refine lv_if_ne (tgt := 8) hx hb dX5_crowning_1 (by decide) (fun c1 => ?_) (fun c1 => ?_)
  · refine lv_iconst (v := 0) hx hb dX5_crowning_8 (by decide) ?_
    exact J9 _ (by rw [if_neg c1])
  · refine lv_iconst (v := 5) hx hb dX5_crowning_4 (by decide) ?_
    refine lv_goto (tgt := 9) hx hb dX5_crowning_5 (by decide) ?_
    exact J9 _ (by rw [if_pos c1])

set_option maxHeartbeats 1000000 in
set_option maxRecDepth 100000 in
theorem c_begR (l : Launch) (D : va_G) (dA : Nat → ClassId) {L : List Nat} {M : mm_M} (q : Int32)  : mm_Cp l D dA yX5_beginning wsX5_beginning 0 [.int q] L M (begR q) := by
  refine mm_enter_i (cc := cX5_beginning) (maxL := 1) (by decide) rfl (Nat.le_of_ble_eq_true rfl) ?_
  intro p e R s m args below meth c A ls H locs Q hR hx hb hml hin hown hts hK hV hl hret
  have hl : lv_has ls 1 [(0, .int q)] := hl
  have hown : s.vm.findClass RX5 = some m.cls := hown
  refine lv_iload_n hx hb dX5_beginning_0 rfl (lv_at hl 0 rfl) ?_
  refine lv_ldc hx hb hown (hts (.constant RX5 77 (262144)) (by decide +kernel)) dX5_beginning_1 ?_
  refine lv_idiv hx hb dX5_beginning_3 (by decide) ?_
  refine lv_bipush (v := 18) hx hb dX5_beginning_4 (by decide) ?_
  refine lv_idiv hx hb dX5_beginning_6 (by decide) ?_
  exact hret (v := ((q / 262144) / 18)) dX5_beginning_7 hV (by decide) (by decide) ⟨by subst_vars; rfl, rfl, rfl⟩

set_option maxHeartbeats 1000000 in
set_option maxRecDepth 100000 in
theorem c_endR (l : Launch) (D : va_G) (dA : Nat → ClassId) {L : List Nat} {M : mm_M} (q : Int32)  : mm_Cp l D dA yX5_end wsX5_end 0 [.int q] L M (endR q) := by
  refine mm_enter_i (cc := cX5_end) (maxL := 1) (by decide) rfl (Nat.le_of_ble_eq_true rfl) ?_
  intro p e R s m args below meth c A ls H locs Q hR hx hb hml hin hown hts hK hV hl hret
  have hl : lv_has ls 1 [(0, .int q)] := hl
  have hown : s.vm.findClass RX5 = some m.cls := hown
  refine lv_iload_n hx hb dX5_end_0 rfl (lv_at hl 0 rfl) ?_
  refine lv_ldc hx hb hown (hts (.constant RX5 77 (262144)) (by decide +kernel)) dX5_end_1 ?_
  refine lv_idiv hx hb dX5_end_3 (by decide) ?_
  refine lv_bipush (v := 18) hx hb dX5_end_4 (by decide) ?_
  refine lv_irem hx hb dX5_end_6 (by decide) ?_
  exact hret (v := ((q / 262144) - (q / 262144) / 18 * 18)) dX5_end_7 hV (by decide) (by decide) ⟨by subst_vars; rfl, rfl, rfl⟩

set_option maxHeartbeats 1000000 in
set_option maxRecDepth 100000 in
theorem c_codeR (l : Launch) (D : va_G) (dA : Nat → ClassId) {L : List Nat} {M : mm_M} (q k a u b : Int32)  : mm_Cp l D dA yX5_code wsX5_code 0 [.int q, .int k, .int a, .int u, .int b] L M (codeR q k a u b) := by
  refine mm_enter_i (cc := cX5_code) (maxL := 5) (by decide) rfl (Nat.le_of_ble_eq_true rfl) ?_
  intro p e R s m args below meth c A ls H locs Q hR hx hb hml hin hown hts hK hV hl hret
  have hl : lv_has ls 5 [(0, .int q), (1, .int k), (2, .int a), (3, .int u), (4, .int b)] := hl
  have hown : s.vm.findClass RX5 = some m.cls := hown
  refine lv_iconst (v := 2) hx hb dX5_code_0 (by decide) ?_
  refine lv_iload_n hx hb dX5_code_1 rfl (lv_at hl 0 rfl) ?_
  refine lv_imul hx hb dX5_code_2 ?_
  refine lv_iload_n hx hb dX5_code_3 rfl (lv_at hl 1 rfl) ?_
  have J12 : ∀ (v12_1 : Int32), v12_1 = (if k = 0 then 0 else 1) → W p l e R s m args below meth c H locs 0 0 Q (F0 m 12 ls [.int v12_1, .int (2 * q)]) := by
    intro v12_1 ev12_1
    refine lv_iadd hx hb dX5_code_12 ?_
    refine lv_bipush (v := 18) hx hb dX5_code_13 (by decide) ?_
    refine lv_imul hx hb dX5_code_15 ?_
    refine lv_iload_n hx hb dX5_code_16 rfl (lv_at hl 2 rfl) ?_
    refine lv_iadd hx hb dX5_code_17 ?_
    refine lv_bipush (v := 36) hx hb dX5_code_18 (by decide) ?_
    refine lv_imul hx hb dX5_code_20 ?_
    refine lv_iload_n hx hb dX5_code_21 rfl (lv_at hl 3 rfl) ?_
    have J31 : ∀ (v31_2 : Int32), v31_2 = (if u = 0 then 0 else 18) → W p l e R s m args below meth c H locs 0 0 Q (F0 m 31 ls [.int v31_2, .int (((((2 * q) + v12_1) * 18) + a) * 36)]) := by
      intro v31_2 ev31_2
      refine lv_iadd hx hb dX5_code_31 ?_
      refine lv_iload hx hb dX5_code_32 (lv_at hl 4 rfl) ?_
      refine lv_iadd hx hb dX5_code_34 ?_
      exact hret (v := (((((((2 * q) + v12_1) * 18) + a) * 36) + v31_2) + b)) dX5_code_35 hV (by decide) (by decide) ⟨by subst_vars; rfl, rfl, rfl⟩
    refine lv_if_eq (tgt := 30) hx hb dX5_code_22 (by decide) (fun c22 => ?_) (fun c22 => ?_)
    · refine lv_iconst (v := 0) hx hb dX5_code_30 (by decide) ?_
      exact J31 _ (by rw [if_pos c22])
    · refine lv_bipush (v := 18) hx hb dX5_code_25 (by decide) ?_
      refine lv_goto (tgt := 31) hx hb dX5_code_27 (by decide) ?_
      exact J31 _ (by rw [if_neg c22])
  refine lv_if_eq (tgt := 11) hx hb dX5_code_4 (by decide) (fun c4 => ?_) (fun c4 => ?_)
  · refine lv_iconst (v := 0) hx hb dX5_code_11 (by decide) ?_
    exact J12 _ (by rw [if_pos c4])
  · refine lv_iconst (v := 1) hx hb dX5_code_7 (by decide) ?_
    refine lv_goto (tgt := 12) hx hb dX5_code_8 (by decide) ?_
    exact J12 _ (by rw [if_neg c4])
