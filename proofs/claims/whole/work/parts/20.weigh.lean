theorem jE.up {dA : Nat → ClassId} {L : List Nat} {M M1 : mm_M} {ev : Value} {e : Bool} {a : Nat} {x : va_E} (h : jE dA L M ev e) (hM : M1 = va_up M a x) (hk : (∃ ci fs, M a = .inr (ci, fs) ∧ ci ≠ 0) ∨ ∃ cA y, M a = .inl (cA, 72, y)) : jE dA L M1 ev e := by
  cases e with
  | false => exact h
  | true =>
    obtain ⟨en, vd, ct, nz, cf, nf, h1, i1, i2, i3, i4, m1, m2, m3, m4⟩ := h
    subst hM
    have n1 : en ≠ a := by
      intro q; subst q
      rcases hk with ⟨ci, fs, h2, h3⟩ | ⟨cA, y, h2⟩
      · rw [m1] at h2; injection h2 with h2; injection h2 with h2 _; exact h3 h2.symm
      · rw [m1] at h2; cases h2
    have n0 : ∀ {v cB : Nat} {n : Nat} {w}, M v = .inl (cB, n, w) → n ≠ 72 → v ≠ a := by
      intro v cB n w hv hn q; subst q
      rcases hk with ⟨ci, fs, h2, h3⟩ | ⟨cA, y, h2⟩
      · rw [hv] at h2; cases h2
      · rw [hv] at h2; exact mm_nelen hn h2
    exact ⟨en, vd, ct, nz, cf, nf, h1, i1, i2, i3, i4, by rw [va_up_ne _ _ n1]; exact m1, by rw [va_up_ne _ _ (n0 m2 (by decide))]; exact m2, by rw [va_up_ne _ _ (n0 m3 (by decide))]; exact m3, by rw [va_up_ne _ _ (n0 m4 (by decide))]; exact m4⟩
def wfR (L : List Nat) (z : Nat → Nat) (e : Nat) (M M1 : mm_M) : Prop := ∀ q : Nat, q ∈ L → q ≠ z 0 → (∀ k, 111 ≤ k → k < e → q ≠ z k) → M1 q = M q
theorem wfR.at {L : List Nat} {z : Nat → Nat} {e : Nat} {M M1 : mm_M} (hz : zW L z) (h : wfR L z e M M1) (he : e ≤ 126) {k : Nat} (hk : k < 126) (hk0 : k ≠ 0) (hk2 : k < 111 ∨ e ≤ k) : M1 (z k) = M (z k) := h _ (hz.1 k hk) (hz.ne hk (by omega) hk0) (fun j h1 h2 => hz.ne hk (by omega) (by omega))
theorem wfR.rf {L : List Nat} {z : Nat → Nat} {e : Nat} {M : mm_M} : wfR L z e M M := fun _ _ _ _ => rfl
theorem wfR.up {L : List Nat} {z : Nat → Nat} {e k : Nat} {M M1 M2 : mm_M} {x : va_E} (h : wfR L z e M M1) (h1 : 111 ≤ k) (h2 : k < e) (hM : M2 = va_up M1 (z k) x) : wfR L z e M M2 := fun q a b hq => by rw [hM, va_up_ne _ _ (hq k h1 h2)]; exact h q a b hq
theorem wfR.tr {L L1 : List Nat} {z : Nat → Nat} {e e2 : Nat} {M M1 M2 : mm_M} (h : wfR L z e M M1) (hs : ∀ q, q ∈ L → q ∈ L1) (he : e2 ≤ e) (h2 : wfR L1 z e2 M1 M2) : wfR L z e M M2 := fun q a b hq => (h2 q (hs q a) b (fun k h1 h2 => hq k h1 (by omega))).trans (h q a b hq)
theorem kc_tr {a b c : Bool} (h1 : a = true → b = true) (h2 : b = true → c = true) : kc a b + kc b c = kc a c ∧ ks a b + ks b c = ks a c := by
  cases a <;> cases b <;> cases c <;> simp_all [kc, ks]
theorem kc_le {a b c : Bool} (h2 : b = true → c = true) : kc a b ≤ kc a c ∧ ks a b ≤ ks a c := by
  cases a <;> cases b <;> cases c <;> simp_all [kc, ks]
theorem kc_rf (a : Bool) : kc a a = 0 ∧ ks a a = 0 := by cases a <;> simp [kc, ks]
/-- the search: what it answers, and whether the endings are there behind it -/
def wgE (P : Ps) : Int32 := wvF (VT (numF P).toNatClampNeg)
theorem wgE_eq (P : Ps) : wgE P = wvF (VT (numF P).toNatClampNeg) := rfl
def wgL (rc : Ps → Int32 → Int32 → Bool → Int32 × Bool) (P : Ps) (hi : Int32) : Nat → Nat → Int32 → Bool → Int32 × Bool
  | 0, _, g, e => (g, e)
  | k + 1, i, g, e => if hi ≤ g then (g, e) else wgL rc P hi k (i + 1) (if g < -(rc (followP P (mvA P i)) (-hi) (-g) e).1 then -(rc (followP P (mvA P i)) (-hi) (-g) e).1 else g) (rc (followP P (mvA P i)) (-hi) (-g) e).2
def wg : Nat → Ps → Int32 → Int32 → Bool → Int32 × Bool
  | 0, P, _, _, e => if oneP P = 0 then ((if canM P = 0 then -1000 else balP P), e) else (wgE P, true)
  | d + 1, P, lo, hi, e => if oneP P = 0 then (if mvN P = 0 then (-1000, e) else wgL (wg d) P hi (mvN P) 0 lo e) else (wgE P, true)
theorem wgL_mono {rc : Ps → Int32 → Int32 → Bool → Int32 × Bool} (hrc : ∀ P lo hi e, e = true → (rc P lo hi e).2 = true) {P : Ps} {hi : Int32} : ∀ (k i : Nat) (g : Int32) (e : Bool), e = true → (wgL rc P hi k i g e).2 = true
  | 0, _, _, _, h => h
  | k + 1, i, g, e, h => by
    unfold wgL
    split
    · exact h
    · exact wgL_mono hrc k _ _ _ (hrc _ _ _ _ h)
theorem wg_mono : ∀ (d : Nat) (P : Ps) (lo hi : Int32) (e : Bool), e = true → (wg d P lo hi e).2 = true
  | 0, P, lo, hi, e, h => by
    unfold wg; split
    · exact h
    · rfl
  | d + 1, P, lo, hi, e, h => by
    unfold wg; split
    · split
      · exact h
      · exact wgL_mono (wg_mono d) _ _ _ _ h
    · rfl

set_option maxHeartbeats 1000000 in
set_option maxRecDepth 100000 in
theorem c_wg0 (l : Launch) (D : va_G) (dA : Nat → ClassId) {L : List Nat} {M : mm_M} {WF : Ps → Prop} {z : Nat → Nat} {ev : Value} {eb : Bool} {lt ka : Nat} {P : Ps} (x2 lo hi : Int32) (htb : ∀ e, e < 1296 → ∀ j, j < CNx e → NXv e j = nI (NXx e j) ∧ NXx e j < 1297) (wf1 : ∀ P, WF P → ¬ oneP P = 0 → numF P = nI (numF P).toNatClampNeg ∧ (numF P).toNatClampNeg ≤ 1296) (wf2 : ∀ P, WF P → ∀ i, i < mvN P → WF (followP P (mvA P i))) (hz : zW L z) (m_0 : M (z 0) = jO z ev lt) (he : jE dA L M ev eb) (hF : jF dA M z) (hY : jY dA M z) (hk : AK 0 ka) (m_p : M (z ka) = oP P) (hwf : WF P) (hx2 : x2 = nI 0) : mm_Ci l D dA yX4_weigh wsX4_weigh 24 (kc eb (wg 0 P lo hi eb).2) (ks eb (wg 0 P lo hi eb).2) [.ref (z 0), .ref (z ka), .int x2, .int lo, .int hi] L M (fun r L1 M1 => r = (wg 0 P lo hi eb).1 ∧ (∀ q, q ∈ L → q ∈ L1) ∧ (∃ ev, M1 (z 0) = jO z ev lt ∧ jE dA L1 M1 ev (wg 0 P lo hi eb).2) ∧ jY dA M1 z ∧ wfR L z (113 + 3 * 0) M M1) := by
  have m_0 : M (z 0) = .inr (4, [.ref (z 1), ev, .ref (z 4), .int (nI lt), .ref (z 5), .ref (z 7), .ref (z 8), .ref (z 9)]) := m_0
  obtain ⟨k1, k2, k3, k4, k5⟩ := hk
  have m_p : M (z ka) = .inr (2, [.int P.1, .int P.2.1, .int P.2.2.1, .int P.2.2.2.1, .int P.2.2.2.2]) := m_p
  obtain ⟨m_1, m_2, m_3, m_4, m_8, m_9⟩ := hF
  obtain ⟨RW, eRW⟩ : ∃ q, q = wg 0 P lo hi eb := ⟨_, rfl⟩
  rw [← eRW]
  obtain ⟨R1, eR1⟩ : ∃ q, q = RW.1 := ⟨_, rfl⟩
  obtain ⟨R2, eR2⟩ : ∃ q, q = RW.2 := ⟨_, rfl⟩
  rw [← eR1, ← eR2]
  refine mm_enter_i (cc := cX4_weigh) (maxL := 9) (by decide) rfl (Nat.le_of_ble_eq_true rfl) ?_
  intro p e R s m args below meth c A ls H locs Q hR hx hb hml hin hown hts hK hV hl hret
  have hl : lv_has ls 9 [(0, .ref (z 0)), (1, .ref (z ka)), (2, .int x2), (3, .int lo), (4, .int hi)] := hl
  have hown : s.vm.findClass RX4 = some m.cls := hown
  have f_10 := hts (.fieldLink RX4 10 "JumpBoard" "rules" "LJumpBoard$Rules;") (by decide +kernel)
  have in_X4 : ∀ w ∈ wsX40, w ∈ wsX4_weigh := by decide +kernel
  refine lv_aload_n hx hb dX4_weigh_0 rfl (lv_at hl 1 rfl) ?_
  refine mm_Vp (v := (oneP P)) (ci := 2) (As := []) (rest := []) ⟨hx, hb, hml, hown, hts⟩ hK hV (c_isOneEach l D dA (P := P)  (hz.1 ka (by omega)) m_p) (cwV 0 hts gX4_weigh_X2_isOneEach rfl rfl rfl (by decide +kernel) (mm_levR hR (by omega) (by decide))) (hz.1 ka (by omega)) m_p rfl rfl hl.1 rfl (Nat.le_of_ble_eq_true rfl) dX4_weigh_1 ⟨Nat.zero_le _, Nat.zero_le _⟩ (fun H locs hV => ?_)
  refine lv_if_eq (tgt := 16) hx hb dX4_weigh_4 (by decide) (fun c4 => ?_) (fun c4 => ?_)
  · refine lv_iload_n hx hb dX4_weigh_16 rfl (lv_at hl 2 rfl) ?_
    refine lv_if_gt (tgt := 42) hx hb dX4_weigh_17 (by decide) (fun c17 => ?_) (fun c17 => ?_)
    · exact absurd c17 (by rw [hx2]; decide)
    · refine lv_aload_n hx hb dX4_weigh_20 rfl (lv_at hl 0 rfl) ?_
      refine mm_get (ci := 4) (C := RX4) (T := TX4) (N := 8) hx hb hts in_X4 hown hK hV (hz.1 0 (by omega)) m_0 rfl 0 (by decide) f_10 (fun _ h => h) rfl dX4_weigh_21 ?_
      refine lv_aload_n hx hb dX4_weigh_24 rfl (lv_at hl 1 rfl) ?_
      refine mm_Vp (v := (canM P)) (ci := 3) (As := [.ref (z ka)]) (rest := []) ⟨hx, hb, hml, hown, hts⟩ hK hV (c_canMove l D dA ⟨hz.1 1 (by omega), hz.1 2 (by omega), hz.1 3 (by omega), m_1, m_2, m_3⟩ (hz.1 ka (by omega)) m_p) (cwV 1 hts gX4_weigh_X3_canMove rfl rfl rfl (by decide +kernel) (mm_levR hR (by omega) (by decide))) (hz.1 1 (by omega)) m_1 rfl rfl hl.1 rfl (Nat.le_of_ble_eq_true rfl) dX4_weigh_25 ⟨Nat.zero_le _, Nat.zero_le _⟩ (fun H locs hV => ?_)
      have J41 : ∀ (v41 : Int32) (H : Heap) (locs : List Loc), v41 = (if canM P = 0 then (-1000) else (balP P )) → mm_V A D L M s H locs → W p l e R s m args below meth c H locs 0 0 Q (F0 m 41 ls [.int v41]) := by
        intro v41 H locs ev41 hV
        exact hret (v := v41) dX4_weigh_41 hV (Nat.zero_le _) (Nat.zero_le _) ⟨by rw [ev41, eR1, eRW, wg, if_pos c4], fun _ h => h, ⟨ev, m_0, by rw [show R2 = eb by rw [eR2, eRW, wg, if_pos c4]]; exact he⟩, hY, wfR.rf⟩
      refine lv_if_eq (tgt := 38) hx hb dX4_weigh_28 (by decide) (fun c28 => ?_) (fun c28 => ?_)
      · refine lv_sipush (v := (-1000)) hx hb dX4_weigh_38 (by decide) ?_
        exact J41 _ _ _ (by rw [if_pos c28]) hV
      · refine lv_aload_n hx hb dX4_weigh_31 rfl (lv_at hl 1 rfl) ?_
        refine mm_Vp (v := (balP P)) (ci := 2) (As := []) (rest := []) ⟨hx, hb, hml, hown, hts⟩ hK hV (c_balance l D dA (P := P)  (hz.1 ka (by omega)) m_p) (cwV 0 hts gX4_weigh_X2_balance rfl rfl rfl (by decide +kernel) (mm_levR hR (by omega) (by decide))) (hz.1 ka (by omega)) m_p rfl rfl hl.1 rfl (Nat.le_of_ble_eq_true rfl) dX4_weigh_32 ⟨Nat.zero_le _, Nat.zero_le _⟩ (fun H locs hV => ?_)
        refine lv_goto (tgt := 41) hx hb dX4_weigh_35 (by decide) ?_
        exact J41 _ _ _ (by rw [if_neg c28]) hV
  · refine lv_aload_n hx hb dX4_weigh_7 rfl (lv_at hl 0 rfl) ?_
    refine lv_aload_n hx hb dX4_weigh_8 rfl (lv_at hl 1 rfl) ?_
    have hR1 : R1 = wgE P := by rw [eR1, eRW, wg, if_neg c4]
    have hR2 : R2 = true := by rw [eR2, eRW, wg, if_neg c4]
    have hnum := wf1 P hwf c4
    refine mm_Vi (mc := kc eb true) (ms := ks eb true) (ci := 4) (As := [.ref (z ka)]) (rest := []) ⟨hx, hb, hml, hown, hts⟩ hK hV (c_judge l D dA htb hz m_0 he ⟨hz.1 1 (by omega), hz.1 2 (by omega), hz.1 3 (by omega), m_1, m_2, m_3⟩ (hz.1 ka (by omega)) m_p hnum.1 hnum.2) (cwV 1 hts gX4_weigh_X4_judge rfl rfl rfl (by decide +kernel) (mm_levR hR (by omega) (by decide))) (hz.1 0 (by omega)) m_0 rfl rfl hl.1 rfl (Nat.le_of_ble_eq_true rfl) dX4_weigh_9 (by rw [hR, hR2]; exact ⟨Nat.le_of_eq (Nat.zero_add _), Nat.le_of_eq (Nat.zero_add _)⟩) (fun rj L9 M9 H locs hp hV => ?_)
    obtain ⟨erj, hsub, hev, hf9⟩ := hp
    refine mm_Sp (v := (wvF rj)) (As := [.int rj]) (rest := []) ⟨hx, hb, hml, hown, hts⟩ hK hV (c_wv l D dA rj) (va_cwS 1 hts gX4_weigh_X4_weighVerdict rfl rfl rfl (by decide +kernel) (mm_levR hR (by omega) (by decide))) rfl hl.1 rfl (Nat.le_of_ble_eq_true rfl) dX4_weigh_12 (by rw [hR, hR2]; exact ⟨Nat.le_of_eq (Nat.zero_add _), Nat.le_of_eq (Nat.zero_add _)⟩) (fun H locs hV => ?_)
    exact hret (v := wvF rj) dX4_weigh_15 hV (by rw [hR2]; exact Nat.le_of_eq (Nat.zero_add _)) (by rw [hR2]; exact Nat.le_of_eq (Nat.zero_add _)) ⟨by rw [hR1, erj, wgE_eq], hsub, (by rw [hR2]; exact hev), ⟨fun i hi => by obtain ⟨f, n, h1, h2, h3⟩ := hY.1 i hi; exact ⟨f, n, h1, (hf9 _ (hz.1 _ (by omega)) (hz.ne (by omega) (by omega) (by omega))).trans h2, (hf9 _ (hz.1 _ (by omega)) (hz.ne (by omega) (by omega) (by omega))).trans h3⟩, fun i hi => by obtain ⟨Q, h1⟩ := hY.2 i hi; exact ⟨Q, (hf9 _ (hz.1 _ (by omega)) (hz.ne (by omega) (by omega) (by omega))).trans h1⟩⟩, fun q h0 h1 _ => hf9 q h0 h1⟩

set_option maxHeartbeats 1000000 in
set_option maxRecDepth 100000 in
theorem c_wg_step (l : Launch) (D : va_G) (dA : Nat → ClassId) {L : List Nat} {M : mm_M} {WF : Ps → Prop} {z : Nat → Nat} {ev : Value} {eb : Bool} {lt d ka : Nat} {P : Ps} (x2 lo hi : Int32) (htb : ∀ e, e < 1296 → ∀ j, j < CNx e → NXv e j = nI (NXx e j) ∧ NXx e j < 1297) (wf1 : ∀ P, WF P → ¬ oneP P = 0 → numF P = nI (numF P).toNatClampNeg ∧ (numF P).toNatClampNeg ≤ 1296) (wf2 : ∀ P, WF P → ∀ i, i < mvN P → WF (followP P (mvA P i))) (ih : ∀ (L : List Nat) (M : mm_M) (eb : Bool) (ev : Value) (ka : Nat) (P : Ps) (x2 lo hi : Int32), x2 = nI d → zW L z → M (z 0) = jO z ev lt → jE dA L M ev eb → jF dA M z → jY dA M z → AK d ka → M (z ka) = oP P → WF P → mm_Ci l D dA yX4_weigh wsX4_weigh (24 + d) (kc eb (wg d P lo hi eb).2) (ks eb (wg d P lo hi eb).2) [.ref (z 0), .ref (z ka), .int x2, .int lo, .int hi] L M (fun r L1 M1 => r = (wg d P lo hi eb).1 ∧ (∀ q, q ∈ L → q ∈ L1) ∧ (∃ ev, M1 (z 0) = jO z ev lt ∧ jE dA L1 M1 ev (wg d P lo hi eb).2) ∧ jY dA M1 z ∧ wfR L z (113 + 3 * d) M M1)) (hz : zW L z) (m_0 : M (z 0) = jO z ev lt) (he : jE dA L M ev eb) (hF : jF dA M z) (hY : jY dA M z) (hk : AK (d + 1) ka) (m_p : M (z ka) = oP P) (hwf : WF P) (hx2 : x2 = nI (d + 1)) (hd4 : d < 4) : mm_Ci l D dA yX4_weigh wsX4_weigh (24 + (d + 1)) (kc eb (wg (d + 1) P lo hi eb).2) (ks eb (wg (d + 1) P lo hi eb).2) [.ref (z 0), .ref (z ka), .int x2, .int lo, .int hi] L M (fun r L1 M1 => r = (wg (d + 1) P lo hi eb).1 ∧ (∀ q, q ∈ L → q ∈ L1) ∧ (∃ ev, M1 (z 0) = jO z ev lt ∧ jE dA L1 M1 ev (wg (d + 1) P lo hi eb).2) ∧ jY dA M1 z ∧ wfR L z (113 + 3 * (d + 1)) M M1) := by
  have m_0 : M (z 0) = .inr (4, [.ref (z 1), ev, .ref (z 4), .int (nI lt), .ref (z 5), .ref (z 7), .ref (z 8), .ref (z 9)]) := m_0
  obtain ⟨k1, k2, k3, k4, k5⟩ := hk
  have m_p : M (z ka) = .inr (2, [.int P.1, .int P.2.1, .int P.2.2.1, .int P.2.2.2.1, .int P.2.2.2.2]) := m_p
  obtain ⟨m_1, m_2, m_3, m_4, m_8, m_9⟩ := hF
  obtain ⟨RW, eRW⟩ : ∃ q, q = wg (d + 1) P lo hi eb := ⟨_, rfl⟩
  rw [← eRW]
  obtain ⟨R1, eR1⟩ : ∃ q, q = RW.1 := ⟨_, rfl⟩
  obtain ⟨R2, eR2⟩ : ∃ q, q = RW.2 := ⟨_, rfl⟩
  rw [← eR1, ← eR2]
  obtain ⟨f0, n0, hn0, m_l, m_k⟩ := hY.1 (d + 1) (by omega)
  have m_l : M (z (111 + 3 * (d + 1))) = .inr (1, [.ref (z (112 + 3 * (d + 1))), .int (nI n0)]) := m_l
  obtain ⟨P3, m_s⟩ := hY.2 d (by omega)
  have m_s : M (z (113 + 3 * d)) = .inr (2, [.int P3.1, .int P3.2.1, .int P3.2.2.1, .int P3.2.2.2.1, .int P3.2.2.2.2]) := m_s
  have fR : wfR L z (116 + 3 * d) M M := wfR.rf
  rw [show 113 + 3 * (d + 1) = 116 + 3 * d by omega]
  refine mm_enter_i (cc := cX4_weigh) (maxL := 9) (by decide) rfl (Nat.le_of_ble_eq_true rfl) ?_
  intro p e R s m args below meth c A ls H locs Q hR hx hb hml hin hown hts hK hV hl hret
  have hl : lv_has ls 9 [(0, .ref (z 0)), (1, .ref (z ka)), (2, .int x2), (3, .int lo), (4, .int hi)] := hl
  have hown : s.vm.findClass RX4 = some m.cls := hown
  have f_42 := hts (.fieldLink RX4 42 "JumpBoard" "lists" "[LJumpBoard$MoveList;") (by decide +kernel)
  have in_X4 : ∀ w ∈ wsX40, w ∈ wsX4_weigh := by decide +kernel
  have f_10 := hts (.fieldLink RX4 10 "JumpBoard" "rules" "LJumpBoard$Rules;") (by decide +kernel)
  have f_78 := hts (.fieldLink RX4 78 "JumpBoard$MoveList" "count" "I") (by decide +kernel)
  have in_X1 : ∀ w ∈ wsX10, w ∈ wsX4_weigh := by decide +kernel
  have f_46 := hts (.fieldLink RX4 46 "JumpBoard" "spots" "[LJumpBoard$Position;") (by decide +kernel)
  have f_85 := hts (.fieldLink RX4 85 "JumpBoard$MoveList" "packed" "[I") (by decide +kernel)
  refine lv_aload_n hx hb dX4_weigh_0 rfl (lv_at hl 1 rfl) ?_
  refine mm_Vp (v := (oneP P)) (ci := 2) (As := []) (rest := []) ⟨hx, hb, hml, hown, hts⟩ hK hV (c_isOneEach l D dA (P := P)  (hz.1 ka (by omega)) m_p) (cwV 0 hts gX4_weigh_X2_isOneEach rfl rfl rfl (by decide +kernel) (mm_levR hR (by omega) (by decide))) (hz.1 ka (by omega)) m_p rfl rfl hl.1 rfl (Nat.le_of_ble_eq_true rfl) dX4_weigh_1 ⟨Nat.zero_le _, Nat.zero_le _⟩ (fun H locs hV => ?_)
  refine lv_if_eq (tgt := 16) hx hb dX4_weigh_4 (by decide) (fun c4 => ?_) (fun c4 => ?_)
  · refine lv_iload_n hx hb dX4_weigh_16 rfl (lv_at hl 2 rfl) ?_
    refine lv_if_gt (tgt := 42) hx hb dX4_weigh_17 (by decide) (fun c17 => ?_) (fun c17 => ?_)
    · refine lv_aload_n hx hb dX4_weigh_42 rfl (lv_at hl 0 rfl) ?_
      refine mm_get (ci := 4) (C := RX4) (T := TX4) (N := 8) hx hb hts in_X4 hown hK hV (hz.1 0 (by omega)) m_0 rfl 6 (by decide) f_42 (fun _ h => h) rfl dX4_weigh_43 ?_
      refine lv_iload_n hx hb dX4_weigh_46 rfl (lv_at hl 2 rfl) ?_
      refine mm_aaldN (j := (d + 1)) (b := (z (111 + 3 * (d + 1)))) hx hb hK hV 5 (hz.1 8 (by omega)) m_8 rfl hx2 (by omega) (by decide) (gzX_at (by omega)) dX4_weigh_47 ?_
      refine lv_astore (lv' := [(5, .ref (z (111 + 3 * (d + 1)))), (0, .ref (z 0)), (1, .ref (z ka)), (2, .int x2), (3, .int lo), (4, .int hi)]) hx hb dX4_weigh_48 hl (by decide) rfl (fun ls hl => ?_)
      refine lv_aload_n hx hb dX4_weigh_50 rfl (lv_at hl 1 rfl) ?_
      refine mm_get (ci := 4) (C := RX4) (T := TX4) (N := 8) hx hb hts in_X4 hown hK hV (hz.1 0 (by omega)) m_0 rfl 0 (by decide) f_10 (fun _ h => h) rfl dX4_weigh_51 ?_
      refine lv_aload_n hx hb dX4_weigh_54 rfl (lv_at hl 2 rfl) ?_
      refine lv_aload hx hb dX4_weigh_55 (lv_at hl 0 rfl) ?_
      have q_l := m_l
      have q_k := m_k
      refine mm_Vm (ci := 3) (As := [.ref (z ka), .ref (z (111 + 3 * (d + 1)))]) (rest := []) ⟨hx, hb, hml, hown, hts⟩ hK hV (c_listMoves l D dA (P := P) ⟨hz.1 1 (by omega), hz.1 2 (by omega), hz.1 3 (by omega), m_1, m_2, m_3⟩ (hz.1 ka (by omega)) m_p ⟨hz.1 _ (by omega), hz.1 _ (by omega), m_l, m_k, hn0⟩ (hz.ne (by omega) (by omega) (by omega)) (hz.ne (by omega) (by omega) (by omega))) (cwV 2 hts gX4_weigh_X3_listMoves rfl rfl rfl (by decide +kernel) (mm_levR hR (by omega) (by decide))) (hz.1 1 (by omega)) m_1 rfl rfl hl.1 rfl (Nat.le_of_ble_eq_true rfl) dX4_weigh_57 ⟨Nat.zero_le _, Nat.zero_le _⟩ (fun M_1 H locs eM_1 hV => ?_)
      have m_0 : M_1 (z 0) = _ := (congrFun eM_1 (z 0)).trans ((va_up_ne _ _ (hz.ne (i := 0) (j := (112 + 3 * (d + 1))) (by omega) (by omega) (by omega))).trans ((va_up_ne _ _ (hz.ne (i := 0) (j := (111 + 3 * (d + 1))) (by omega) (by omega) (by omega))).trans m_0))
      have m_1 : M_1 (z 1) = _ := (congrFun eM_1 (z 1)).trans ((va_up_ne _ _ (hz.ne (i := 1) (j := (112 + 3 * (d + 1))) (by omega) (by omega) (by omega))).trans ((va_up_ne _ _ (hz.ne (i := 1) (j := (111 + 3 * (d + 1))) (by omega) (by omega) (by omega))).trans m_1))
      have m_2 : M_1 (z 2) = _ := (congrFun eM_1 (z 2)).trans ((va_up_ne _ _ (hz.ne (i := 2) (j := (112 + 3 * (d + 1))) (by omega) (by omega) (by omega))).trans ((va_up_ne _ _ (hz.ne (i := 2) (j := (111 + 3 * (d + 1))) (by omega) (by omega) (by omega))).trans m_2))
      have m_3 : M_1 (z 3) = _ := (congrFun eM_1 (z 3)).trans ((va_up_ne _ _ (hz.ne (i := 3) (j := (112 + 3 * (d + 1))) (by omega) (by omega) (by omega))).trans ((va_up_ne _ _ (hz.ne (i := 3) (j := (111 + 3 * (d + 1))) (by omega) (by omega) (by omega))).trans m_3))
      have m_4 : M_1 (z 4) = _ := (congrFun eM_1 (z 4)).trans ((va_up_ne _ _ (hz.ne (i := 4) (j := (112 + 3 * (d + 1))) (by omega) (by omega) (by omega))).trans ((va_up_ne _ _ (hz.ne (i := 4) (j := (111 + 3 * (d + 1))) (by omega) (by omega) (by omega))).trans m_4))
      have m_8 : M_1 (z 8) = _ := (congrFun eM_1 (z 8)).trans ((va_up_ne _ _ (hz.ne (i := 8) (j := (112 + 3 * (d + 1))) (by omega) (by omega) (by omega))).trans ((va_up_ne _ _ (hz.ne (i := 8) (j := (111 + 3 * (d + 1))) (by omega) (by omega) (by omega))).trans m_8))
      have m_9 : M_1 (z 9) = _ := (congrFun eM_1 (z 9)).trans ((va_up_ne _ _ (hz.ne (i := 9) (j := (112 + 3 * (d + 1))) (by omega) (by omega) (by omega))).trans ((va_up_ne _ _ (hz.ne (i := 9) (j := (111 + 3 * (d + 1))) (by omega) (by omega) (by omega))).trans m_9))
      have m_s : M_1 (z (113 + 3 * d)) = _ := (congrFun eM_1 (z (113 + 3 * d))).trans ((va_up_ne _ _ (hz.ne (i := (113 + 3 * d)) (j := (112 + 3 * (d + 1))) (by omega) (by omega) (by omega))).trans ((va_up_ne _ _ (hz.ne (i := (113 + 3 * d)) (j := (111 + 3 * (d + 1))) (by omega) (by omega) (by omega))).trans m_s))
      have m_p : M_1 (z ka) = _ := (congrFun eM_1 (z ka)).trans ((va_up_ne _ _ (hz.ne (i := ka) (j := (112 + 3 * (d + 1))) (by omega) (by omega) (by omega))).trans ((va_up_ne _ _ (hz.ne (i := ka) (j := (111 + 3 * (d + 1))) (by omega) (by omega) (by omega))).trans m_p))
      have m_l : M_1 (z (111 + 3 * (d + 1))) = .inr (1, [.ref (z (112 + 3 * (d + 1))), .int (nI (movesF P f0).2)]) := (congrFun eM_1 (z (111 + 3 * (d + 1)))).trans ((va_up_ne _ _ (hz.ne (i := (111 + 3 * (d + 1))) (j := (112 + 3 * (d + 1))) (by omega) (by omega) (by omega))).trans (va_up_self _ _ _))
      have m_k : M_1 (z (112 + 3 * (d + 1))) = .inl (dA 0, 72, .inl ((movesF P f0).1)) := (congrFun eM_1 (z (112 + 3 * (d + 1)))).trans (va_up_self _ _ _)
      have fR : wfR L z (116 + 3 * d) M M_1 := (fR.up (k := (111 + 3 * (d + 1))) (by omega) (by omega) rfl).up (k := (112 + 3 * (d + 1))) (by omega) (by omega) eM_1
      have hY : jY dA M_1 z := hY.list hz (by omega) (movesF_le P f0) eM_1
      have hnn := mvN_eq P f0
      have he : jE dA L M_1 ev eb := (he.up rfl (Or.inl ⟨1, _, q_l, by decide⟩)).up eM_1 (Or.inr ⟨_, _, (va_up_ne _ _ (hz.ne (by omega) (by omega) (by omega))).trans q_k⟩)
      refine lv_aload hx hb dX4_weigh_60 (lv_at hl 0 rfl) ?_
      refine mm_get (ci := 1) (C := RX1) (T := TX1) (N := 2) hx hb hts in_X1 hown hK hV (hz.1 (111 + 3 * (d + 1)) (by omega)) m_l rfl 1 (by decide) f_78 (fun _ h => h) rfl dX4_weigh_62 ?_
      refine lv_if_ne (tgt := 72) hx hb dX4_weigh_65 (by decide) (fun c65 => ?_) (fun c65 => ?_)
      · have hN0 : ¬ mvN P = 0 := fun h => c65 (by rw [hnn, h]; rfl)
        have hRW : wgL (wg d) P hi (mvN P) 0 lo eb = RW := by rw [eRW, wg, if_pos c4, if_neg hN0]
        refine lv_aload_n hx hb dX4_weigh_72 rfl (lv_at hl 1 rfl) ?_
        refine mm_get (ci := 4) (C := RX4) (T := TX4) (N := 8) hx hb hts in_X4 hown hK hV (hz.1 0 (by omega)) m_0 rfl 7 (by decide) f_46 (fun _ h => h) rfl dX4_weigh_73 ?_
        refine lv_iload_n hx hb dX4_weigh_76 rfl (lv_at hl 3 rfl) ?_
        refine lv_iconst (v := 1) hx hb dX4_weigh_77 (by decide) ?_
        refine lv_isub hx hb dX4_weigh_78 ?_
        refine mm_aaldN (j := d) (b := (z (113 + 3 * d))) hx hb hK hV 4 (hz.1 9 (by omega)) m_9 rfl (by rw [hx2]; exact nI_pred d) (by omega) (by decide) (gzX_at (by omega)) dX4_weigh_79 ?_
        refine lv_astore (lv' := [(6, .ref (z (113 + 3 * d))), (5, .ref (z (111 + 3 * (d + 1)))), (0, .ref (z 0)), (1, .ref (z ka)), (2, .int x2), (3, .int lo), (4, .int hi)]) hx hb dX4_weigh_80 hl (by decide) rfl (fun ls hl => ?_)
        refine lv_iload_n hx hb dX4_weigh_82 rfl (lv_at hl 5 rfl) ?_
        refine lv_topi (fun x7 ex7 => ?_)
        refine lv_istore (lv' := [(7, .int x7), (6, .ref (z (113 + 3 * d))), (5, .ref (z (111 + 3 * (d + 1)))), (0, .ref (z 0)), (1, .ref (z ka)), (2, .int x2), (3, .int lo), (4, .int hi)]) hx hb dX4_weigh_83 hl (by decide) rfl (fun ls hl => ?_)
        refine lv_iconst (v := 0) hx hb dX4_weigh_85 (by decide) ?_
        refine lv_topi (fun x8 ex8 => ?_)
        refine lv_istore (lv' := [(8, .int x8), (7, .int x7), (6, .ref (z (113 + 3 * d))), (5, .ref (z (111 + 3 * (d + 1)))), (0, .ref (z 0)), (1, .ref (z ka)), (2, .int x2), (3, .int lo), (4, .int hi)]) hx hb dX4_weigh_86 hl (by decide) rfl (fun ls hl => ?_)
        have LP : ∀ (k i : Nat) (x7 x8 : Int32) (e1 : Bool) (ev1 : Value) (P3 : Ps) (L1 : List Nat) (M1 : mm_M) (H : Heap) (locs : List Loc) (ls : Array Slot), i + k = mvN P → x8 = nI i → wgL (wg d) P hi k i x7 e1 = RW → (eb = true → e1 = true) → zW L1 z → (∀ q, q ∈ L → q ∈ L1) → mm_V A D L1 M1 s H locs → M1 (z 0) = .inr (4, [.ref (z 1), ev1, .ref (z 4), .int (nI lt), .ref (z 5), .ref (z 7), .ref (z 8), .ref (z 9)]) → M1 (z 1) = .inr (3, [.ref (z 2), .ref (z 3)]) → M1 (z 2) = .inl (dA 0, 72, .inl nearT) → M1 (z 3) = .inl (dA 0, 72, .inl behT) → M1 (z 4) = .inl (dA 4, 101, .inr (.inr (.inr (.inr (gzL z))))) → M1 (z 8) = .inl (dA 5, 5, .inr (.inr (.inr (.inr (gzX z 111))))) → M1 (z 9) = .inl (dA 4, 5, .inr (.inr (.inr (.inr (gzX z 113))))) → M1 (z (111 + 3 * (d + 1))) = .inr (1, [.ref (z (112 + 3 * (d + 1))), .int (nI (movesF P f0).2)]) → M1 (z (112 + 3 * (d + 1))) = .inl (dA 0, 72, .inl ((movesF P f0).1)) → M1 (z (113 + 3 * d)) = .inr (2, [.int P3.1, .int P3.2.1, .int P3.2.2.1, .int P3.2.2.2.1, .int P3.2.2.2.2]) → M1 (z ka) = .inr (2, [.int P.1, .int P.2.1, .int P.2.2.1, .int P.2.2.2.1, .int P.2.2.2.2]) → jE dA L1 M1 ev1 e1 → jY dA M1 z → wfR L z (116 + 3 * d) M M1 → lv_has ls 9 [(0, .ref (z 0)), (1, .ref (z ka)), (2, .int x2), (4, .int hi), (5, .ref (z (111 + 3 * (d + 1)))), (6, .ref (z (113 + 3 * d))), (7, .int x7), (8, .int x8)] → W p l e R s m args below meth c H locs (kc eb e1) (ks eb e1) Q (F0 m 88 ls []) := by
          intro k
          induction k with
          | zero =>
            intro i x7 x8 e1 ev1 P3 L1 M1 H locs ls hik hx8 hres hm hz hsub hV m_0 m_1 m_2 m_3 m_4 m_8 m_9 m_l m_k m_s m_p he1 hY fR hl
            have h72 := mvN_le P
            refine lv_iload hx hb dX4_weigh_88 (lv_at hl 7 rfl) ?_
            refine lv_aload hx hb dX4_weigh_90 (lv_at hl 4 rfl) ?_
            refine mm_get (ci := 1) (C := RX1) (T := TX1) (N := 2) hx hb hts in_X1 hown hK hV (hz.1 (111 + 3 * (d + 1)) (by omega)) m_l rfl 1 (by decide) f_78 (fun _ h => h) rfl dX4_weigh_92 ?_
            refine lv_icmp_ge (tgt := 148) hx hb dX4_weigh_95 (by decide) (fun c95 => ?_) (fun c95 => ?_)
            · have hres2 : RW = (x7, e1) := hres.symm
              refine lv_iload hx hb dX4_weigh_148 (lv_at hl 6 rfl) ?_
              exact hret (v := x7) dX4_weigh_150 hV (by rw [eR2, hres2]; exact Nat.le_refl _) (by rw [eR2, hres2]; exact Nat.le_refl _) ⟨by rw [eR1, hres2], hsub, ⟨ev1, m_0, by rw [eR2, hres2]; exact he1⟩, hY, fR⟩
            · exact absurd (by rw [hx8, hnn, ← hik]; exact Int32.le_refl _) c95
          | succ k ih2 =>
            intro i x7 x8 e1 ev1 P3 L1 M1 H locs ls hik hx8 hres hm hz hsub hV m_0 m_1 m_2 m_3 m_4 m_8 m_9 m_l m_k m_s m_p he1 hY fR hl
            have h72 := mvN_le P
            refine lv_iload hx hb dX4_weigh_88 (lv_at hl 7 rfl) ?_
            refine lv_aload hx hb dX4_weigh_90 (lv_at hl 4 rfl) ?_
            refine mm_get (ci := 1) (C := RX1) (T := TX1) (N := 2) hx hb hts in_X1 hown hK hV (hz.1 (111 + 3 * (d + 1)) (by omega)) m_l rfl 1 (by decide) f_78 (fun _ h => h) rfl dX4_weigh_92 ?_
            refine lv_icmp_ge (tgt := 148) hx hb dX4_weigh_95 (by decide) (fun c95 => ?_) (fun c95 => ?_)
            · exact absurd c95 (by rw [hx8, hnn]; exact nI_ge (by omega) (by omega))
            · refine lv_iload hx hb dX4_weigh_98 (lv_at hl 6 rfl) ?_
              refine lv_iload hx hb dX4_weigh_100 (lv_at hl 3 rfl) ?_
              refine lv_icmp_ge (tgt := 148) hx hb dX4_weigh_102 (by decide) (fun c102 => ?_) (fun c102 => ?_)
              · have hres2 : RW = (x7, e1) := by rw [← hres, wgL, if_pos c102]
                refine lv_iload hx hb dX4_weigh_148 (lv_at hl 6 rfl) ?_
                exact hret (v := x7) dX4_weigh_150 hV (by rw [eR2, hres2]; exact Nat.le_refl _) (by rw [eR2, hres2]; exact Nat.le_refl _) ⟨by rw [eR1, hres2], hsub, ⟨ev1, m_0, by rw [eR2, hres2]; exact he1⟩, hY, fR⟩
              · refine lv_aload hx hb dX4_weigh_105 (lv_at hl 5 rfl) ?_
                refine lv_aload_n hx hb dX4_weigh_107 rfl (lv_at hl 1 rfl) ?_
                refine lv_aload hx hb dX4_weigh_108 (lv_at hl 4 rfl) ?_
                refine mm_get (ci := 1) (C := RX1) (T := TX1) (N := 2) hx hb hts in_X1 hown hK hV (hz.1 (111 + 3 * (d + 1)) (by omega)) m_l rfl 0 (by decide) f_85 (fun _ h => h) rfl dX4_weigh_110 ?_
                refine lv_iload hx hb dX4_weigh_113 (lv_at hl 7 rfl) ?_
                refine mm_ialdN (j := i) hx hb hK hV (hz.1 (112 + 3 * (d + 1)) (by omega)) m_k hx8 (by omega) (by decide) dX4_weigh_115 ?_
                refine lv_topi (fun pk epk => ?_)
                have hpk : pk = mvA P i := by rw [epk]; exact mvA_eq P f0 (by omega)
                have q_s := m_s
                refine mm_Vm (ci := 2) (As := [.ref (z ka), .int pk]) (rest := []) ⟨hx, hb, hml, hown, hts⟩ hK hV (c_follow l D dA (P0 := P3) (P := P) pk (hz.ne (by omega) (by omega) (by omega)) (hz.1 _ (by omega)) (hz.1 ka (by omega)) m_s m_p) (cwV 2 hts gX4_weigh_X2_follow rfl rfl rfl (by decide +kernel) (mm_levR hR (by omega) (by decide))) (hz.1 (113 + 3 * d) (by omega)) m_s rfl rfl hl.1 rfl (Nat.le_of_ble_eq_true rfl) dX4_weigh_116 (by rw [hR]; exact kc_le (a := eb) (fun h => by rw [eR2, ← hres]; exact wgL_mono (wg_mono d) _ _ _ _ h)) (fun M_2 H locs eM_2 hV => ?_)
                have m_0 : M_2 (z 0) = _ := (congrFun eM_2 (z 0)).trans ((va_up_ne _ _ (hz.ne (i := 0) (j := (113 + 3 * d)) (by omega) (by omega) (by omega))).trans m_0)
                have m_1 : M_2 (z 1) = _ := (congrFun eM_2 (z 1)).trans ((va_up_ne _ _ (hz.ne (i := 1) (j := (113 + 3 * d)) (by omega) (by omega) (by omega))).trans m_1)
                have m_2 : M_2 (z 2) = _ := (congrFun eM_2 (z 2)).trans ((va_up_ne _ _ (hz.ne (i := 2) (j := (113 + 3 * d)) (by omega) (by omega) (by omega))).trans m_2)
                have m_3 : M_2 (z 3) = _ := (congrFun eM_2 (z 3)).trans ((va_up_ne _ _ (hz.ne (i := 3) (j := (113 + 3 * d)) (by omega) (by omega) (by omega))).trans m_3)
                have m_4 : M_2 (z 4) = _ := (congrFun eM_2 (z 4)).trans ((va_up_ne _ _ (hz.ne (i := 4) (j := (113 + 3 * d)) (by omega) (by omega) (by omega))).trans m_4)
                have m_8 : M_2 (z 8) = _ := (congrFun eM_2 (z 8)).trans ((va_up_ne _ _ (hz.ne (i := 8) (j := (113 + 3 * d)) (by omega) (by omega) (by omega))).trans m_8)
                have m_9 : M_2 (z 9) = _ := (congrFun eM_2 (z 9)).trans ((va_up_ne _ _ (hz.ne (i := 9) (j := (113 + 3 * d)) (by omega) (by omega) (by omega))).trans m_9)
                have m_l : M_2 (z (111 + 3 * (d + 1))) = _ := (congrFun eM_2 (z (111 + 3 * (d + 1)))).trans ((va_up_ne _ _ (hz.ne (i := (111 + 3 * (d + 1))) (j := (113 + 3 * d)) (by omega) (by omega) (by omega))).trans m_l)
                have m_k : M_2 (z (112 + 3 * (d + 1))) = _ := (congrFun eM_2 (z (112 + 3 * (d + 1)))).trans ((va_up_ne _ _ (hz.ne (i := (112 + 3 * (d + 1))) (j := (113 + 3 * d)) (by omega) (by omega) (by omega))).trans m_k)
                have m_p : M_2 (z ka) = _ := (congrFun eM_2 (z ka)).trans ((va_up_ne _ _ (hz.ne (i := ka) (j := (113 + 3 * d)) (by omega) (by omega) (by omega))).trans m_p)
                have m_s : M_2 (z (113 + 3 * d)) = .inr (2, [.int ((followP P pk).1), .int ((followP P pk).2.1), .int ((followP P pk).2.2.1), .int ((followP P pk).2.2.2.1), .int ((followP P pk).2.2.2.2)]) := by rw [eM_2]; exact va_up_self _ _ _
                have fR : wfR L z (116 + 3 * d) M M_2 := fR.up (k := (113 + 3 * d)) (by omega) (by omega) eM_2
                have hY : jY dA M_2 z := hY.spot hz (by omega) eM_2
                have he1 : jE dA L1 M_2 ev1 e1 := he1.up eM_2 (Or.inl ⟨2, _, q_s, by decide⟩)
                refine lv_iload hx hb dX4_weigh_119 (lv_at hl 6 rfl) ?_
                refine lv_aload_n hx hb dX4_weigh_121 rfl (lv_at hl 0 rfl) ?_
                refine lv_aload hx hb dX4_weigh_122 (lv_at hl 5 rfl) ?_
                refine lv_iload_n hx hb dX4_weigh_124 rfl (lv_at hl 2 rfl) ?_
                refine lv_iconst (v := 1) hx hb dX4_weigh_125 (by decide) ?_
                refine lv_isub hx hb dX4_weigh_126 ?_
                refine lv_iload hx hb dX4_weigh_127 (lv_at hl 3 rfl) ?_
                refine lv_ineg hx hb dX4_weigh_129 ?_
                refine lv_iload hx hb dX4_weigh_130 (lv_at hl 6 rfl) ?_
                refine lv_ineg hx hb dX4_weigh_132 ?_
                obtain ⟨E2, eE2⟩ : ∃ q, q = (wg d (followP P pk) (-hi) (-x7) e1).2 := ⟨_, rfl⟩
                have hm2 : e1 = true → E2 = true := fun h => by rw [eE2]; exact wg_mono d _ _ _ _ h
                have hcs := kc_tr hm hm2
                have hE2 : E2 = true → R2 = true := fun h => by rw [eR2, ← hres, wgL, if_neg c102, ← hpk, ← eE2]; exact wgL_mono (wg_mono d) _ _ _ _ h
                have hle := kc_le (a := eb) hE2
                refine mm_Vi (mc := kc e1 E2) (ms := ks e1 E2) (ci := 4) (As := [.ref (z (113 + 3 * d)), .int (x2 - 1), .int (-hi), .int (-x7)]) (rest := [.int x7]) ⟨hx, hb, hml, hown, hts⟩ hK hV (by rw [eE2]; exact ih L1 M_2 e1 ev1 (113 + 3 * d) (followP P pk) (x2 - 1) (-hi) (-x7) (by rw [hx2]; exact nI_pred d) hz m_0 he1 ⟨m_1, m_2, m_3, m_4, m_8, m_9⟩ hY ⟨by omega, by omega, by omega, by omega, by omega⟩ m_s (by rw [hpk]; exact wf2 P hwf i (by omega))) (cwV 4 hts gX4_weigh_X4_weigh rfl rfl rfl (by decide +kernel) (mm_levR hR (by omega) (by decide))) (hz.1 0 (by omega)) m_0 rfl rfl hl.1 rfl (Nat.le_of_ble_eq_true rfl) dX4_weigh_133 (by rw [hR]; exact ⟨by rw [hcs.1]; exact hle.1, by rw [hcs.2]; exact hle.2⟩) (fun rw9 L9 M9 H locs hp hV => ?_)
                refine W.cs hcs.1 hcs.2 ?_
                obtain ⟨erw, hs9, ⟨ev9, m_0, he9⟩, hY, hf9⟩ := hp
                have m_1 : M9 (z 1) = _ := (hf9.at hz (by omega) (by omega) (by omega) (by omega)).trans m_1
                have m_2 : M9 (z 2) = _ := (hf9.at hz (by omega) (by omega) (by omega) (by omega)).trans m_2
                have m_3 : M9 (z 3) = _ := (hf9.at hz (by omega) (by omega) (by omega) (by omega)).trans m_3
                have m_4 : M9 (z 4) = _ := (hf9.at hz (by omega) (by omega) (by omega) (by omega)).trans m_4
                have m_8 : M9 (z 8) = _ := (hf9.at hz (by omega) (by omega) (by omega) (by omega)).trans m_8
                have m_9 : M9 (z 9) = _ := (hf9.at hz (by omega) (by omega) (by omega) (by omega)).trans m_9
                have m_l : M9 (z (111 + 3 * (d + 1))) = _ := (hf9.at hz (by omega) (by omega) (by omega) (by omega)).trans m_l
                have m_k : M9 (z (112 + 3 * (d + 1))) = _ := (hf9.at hz (by omega) (by omega) (by omega) (by omega)).trans m_k
                have m_s : M9 (z (113 + 3 * d)) = _ := (hf9.at hz (by omega) (by omega) (by omega) (by omega)).trans m_s
                have m_p : M9 (z ka) = _ := (hf9.at hz (by omega) (by omega) (by omega) (by omega)).trans m_p
                have fR : wfR L z (116 + 3 * d) M M9 := fR.tr hsub (by omega) hf9
                have hz := hz.mono hs9
                have hsub : ∀ q, q ∈ L → q ∈ L9 := fun q h => hs9 q (hsub q h)
                have m_0 : M9 (z 0) = .inr (4, [.ref (z 1), ev9, .ref (z 4), .int (nI lt), .ref (z 5), .ref (z 7), .ref (z 8), .ref (z 9)]) := m_0
                refine lv_ineg hx hb dX4_weigh_136 ?_
                refine va_mmax hx hb (hml.trans hl.1.symm) hown (hts (.methodLink RX4 146 Lib.Math.max.name) (by decide +kernel)) (hts (.static Lib.Math.max.name) (by decide +kernel)) (hts (.initialized "java/lang/Math") (by decide +kernel)) (hts (.code Lib.Math.max.name Lib.Math.max.code 2 (some .int)) (by decide +kernel)) (by rw [hR]; show 1 ≤ 24 + (d + 1); omega) (by rw [hR]; show 0 + 13 ≤ 40 * (24 + (d + 1)); omega) (by rw [hR]; exact hle.1) (by rw [hR]; exact hle.2) dX4_weigh_137 ?_
                refine lv_topi (fun x7_n ex7_n => ?_)
                refine lv_istore (lv' := [(7, .int x7_n), (0, .ref (z 0)), (1, .ref (z ka)), (2, .int x2), (4, .int hi), (5, .ref (z (111 + 3 * (d + 1)))), (6, .ref (z (113 + 3 * d))), (8, .int x8)]) hx hb dX4_weigh_140 hl (by decide) rfl (fun ls hl => ?_)
                obtain ⟨x8_n, ex8_n⟩ : ∃ y : Int32, y = x8 + 1 := ⟨_, rfl⟩
                refine lv_iinc (v := x8_n) (lv' := [(8, .int x8_n), (7, .int x7_n), (0, .ref (z 0)), (1, .ref (z ka)), (2, .int x2), (4, .int hi), (5, .ref (z (111 + 3 * (d + 1)))), (6, .ref (z (113 + 3 * d)))]) hx hb dX4_weigh_142 hl (k := 7) rfl (by rw [ex8_n]; rfl) (by decide) rfl (fun ls hl => ?_)
                refine lv_goto (tgt := 88) hx hb dX4_weigh_145 (by decide) ?_
                exact ih2 (i + 1) x7_n x8_n E2 ev9 (followP P pk) L9 M9 _ _ ls (by omega) (by rw [ex8_n, hx8]; exact nI_1 i) (by rw [← hres, wgL, if_neg c102, ex7_n, erw, eE2, hpk]) (fun h => hm2 (hm h)) hz hsub hV m_0 m_1 m_2 m_3 m_4 m_8 m_9 m_l m_k m_s m_p (by rw [eE2]; exact he9) hY fR (lv_sub hl [2, 3, 4, 5, 6, 7, 1, 0] rfl)
        refine W.cs (kc_rf eb).1.symm (kc_rf eb).2.symm ?_
        exact LP (mvN P) 0 x7 x8 eb ev P3 L M_1 H locs ls (by omega) (by rw [ex8]; rfl) (by rw [ex7]; exact hRW) (fun h => h) hz (fun _ h => h) hV m_0 m_1 m_2 m_3 m_4 m_8 m_9 m_l m_k m_s m_p he hY fR (lv_sub hl [4, 5, 6, 8, 3, 2, 1, 0] rfl)
      · have hN0 : mvN P = 0 := by have h72 := mvN_le P; rw [← hnn] at h72 ⊢; exact (nI_eq (b := 0) (by omega) (by decide)).mp c65
        have hRW : RW = (-1000, eb) := by rw [eRW, wg, if_pos c4, if_pos hN0]
        refine lv_sipush (v := (-1000)) hx hb dX4_weigh_68 (by decide) ?_
        exact hret (v := (-1000)) dX4_weigh_71 hV (Nat.zero_le _) (Nat.zero_le _) ⟨by rw [eR1, hRW], fun _ h => h, ⟨ev, m_0, by rw [eR2, hRW]; exact he⟩, hY, fR⟩
    · exact absurd (by rw [hx2]; exact nI_lt (a := 0) (Nat.succ_pos d) (by omega)) c17
  · refine lv_aload_n hx hb dX4_weigh_7 rfl (lv_at hl 0 rfl) ?_
    refine lv_aload_n hx hb dX4_weigh_8 rfl (lv_at hl 1 rfl) ?_
    have hR1 : R1 = wgE P := by rw [eR1, eRW, wg, if_neg c4]
    have hR2 : R2 = true := by rw [eR2, eRW, wg, if_neg c4]
    have hnum := wf1 P hwf c4
    refine mm_Vi (mc := kc eb true) (ms := ks eb true) (ci := 4) (As := [.ref (z ka)]) (rest := []) ⟨hx, hb, hml, hown, hts⟩ hK hV (c_judge l D dA htb hz m_0 he ⟨hz.1 1 (by omega), hz.1 2 (by omega), hz.1 3 (by omega), m_1, m_2, m_3⟩ (hz.1 ka (by omega)) m_p hnum.1 hnum.2) (cwV 1 hts gX4_weigh_X4_judge rfl rfl rfl (by decide +kernel) (mm_levR hR (by omega) (by decide))) (hz.1 0 (by omega)) m_0 rfl rfl hl.1 rfl (Nat.le_of_ble_eq_true rfl) dX4_weigh_9 (by rw [hR, hR2]; exact ⟨Nat.le_of_eq (Nat.zero_add _), Nat.le_of_eq (Nat.zero_add _)⟩) (fun rj L9 M9 H locs hp hV => ?_)
    obtain ⟨erj, hsub, hev, hf9⟩ := hp
    refine mm_Sp (v := (wvF rj)) (As := [.int rj]) (rest := []) ⟨hx, hb, hml, hown, hts⟩ hK hV (c_wv l D dA rj) (va_cwS 1 hts gX4_weigh_X4_weighVerdict rfl rfl rfl (by decide +kernel) (mm_levR hR (by omega) (by decide))) rfl hl.1 rfl (Nat.le_of_ble_eq_true rfl) dX4_weigh_12 (by rw [hR, hR2]; exact ⟨Nat.le_of_eq (Nat.zero_add _), Nat.le_of_eq (Nat.zero_add _)⟩) (fun H locs hV => ?_)
    exact hret (v := wvF rj) dX4_weigh_15 hV (by rw [hR2]; exact Nat.le_of_eq (Nat.zero_add _)) (by rw [hR2]; exact Nat.le_of_eq (Nat.zero_add _)) ⟨by rw [hR1, erj, wgE_eq], hsub, (by rw [hR2]; exact hev), ⟨fun i hi => by obtain ⟨f, n, h1, h2, h3⟩ := hY.1 i hi; exact ⟨f, n, h1, (hf9 _ (hz.1 _ (by omega)) (hz.ne (by omega) (by omega) (by omega))).trans h2, (hf9 _ (hz.1 _ (by omega)) (hz.ne (by omega) (by omega) (by omega))).trans h3⟩, fun i hi => by obtain ⟨Q, h1⟩ := hY.2 i hi; exact ⟨Q, (hf9 _ (hz.1 _ (by omega)) (hz.ne (by omega) (by omega) (by omega))).trans h1⟩⟩, fun q h0 h1 _ => hf9 q h0 h1⟩

/-- weigh -/
theorem c_weigh (l : Launch) (D : va_G) (dA : Nat → ClassId) {WF : Ps → Prop} {z : Nat → Nat} {lt : Nat} (htb : ∀ e, e < 1296 → ∀ j, j < CNx e → NXv e j = nI (NXx e j) ∧ NXx e j < 1297) (wf1 : ∀ P, WF P → ¬ oneP P = 0 → numF P = nI (numF P).toNatClampNeg ∧ (numF P).toNatClampNeg ≤ 1296) (wf2 : ∀ P, WF P → ∀ i, i < mvN P → WF (followP P (mvA P i))) : ∀ (d : Nat), d ≤ 4 → ∀ (L : List Nat) (M : mm_M) (eb : Bool) (ev : Value) (ka : Nat) (P : Ps) (x2 lo hi : Int32), x2 = nI d → zW L z → M (z 0) = jO z ev lt → jE dA L M ev eb → jF dA M z → jY dA M z → AK d ka → M (z ka) = oP P → WF P → mm_Ci l D dA yX4_weigh wsX4_weigh (24 + d) (kc eb (wg d P lo hi eb).2) (ks eb (wg d P lo hi eb).2) [.ref (z 0), .ref (z ka), .int x2, .int lo, .int hi] L M (fun r L1 M1 => r = (wg d P lo hi eb).1 ∧ (∀ q, q ∈ L → q ∈ L1) ∧ (∃ ev, M1 (z 0) = jO z ev lt ∧ jE dA L1 M1 ev (wg d P lo hi eb).2) ∧ jY dA M1 z ∧ wfR L z (113 + 3 * d) M M1) := by
  intro d
  induction d with
  | zero =>
    intro _ L M eb ev ka P x2 lo hi hx2 hz m0 he hF hY hk hp hw
    exact c_wg0 l D dA x2 lo hi htb wf1 wf2 hz m0 he hF hY hk hp hw hx2
  | succ d ih =>
    intro hd L M eb ev ka P x2 lo hi hx2 hz m0 he hF hY hk hp hw
    exact c_wg_step l D dA x2 lo hi htb wf1 wf2 (ih (by omega)) hz m0 he hF hY hk hp hw hx2 (by omega)
