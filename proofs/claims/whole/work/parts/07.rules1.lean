/-! Rules: where pieces may go -/
def reachF (x d n : Int32) : Int32 :=
  let row := x / 3 + (if 2 ≤ d then n else -n)
  let col := (2 * (x - x / 3 * 3) + (x / 3 - x / 3 / 2 * 2)) + (if d - d / 2 * 2 = 0 then -n else n)
  if row < 0 then -1 else if 6 ≤ row then -1 else if col < 0 then -1 else if col < 6 then row * 3 + col / 2 else -1
/-- the first c places of a table of squares n away -/
def tbF (n : Int32) (c : Nat) : Nat → Int32 := fun j => if j < c then reachF (nI (j / 4)) (nI (j % 4)) n else 0
def nearT (j : Nat) : Int32 := tbF 1 72 j
def behT (j : Nat) : Int32 := tbF 2 72 j
def fstD (P : Ps) (q : Int32) : Int32 := if kingP P q = 0 then (if P.2.2.2.1 = 1 then 0 else 2) else 0
def lstD (P : Ps) (q : Int32) : Int32 := if kingP P q = 0 then (if P.2.2.2.1 = 0 then 3 else 1) else 3
def fstN (P : Ps) (s : Nat) : Nat := if kingP P (nI s) = 0 then (if P.2.2.2.1 = 1 then 0 else 2) else 0
def lstN (P : Ps) (s : Nat) : Nat := if kingP P (nI s) = 0 then (if P.2.2.2.1 = 0 then 3 else 1) else 3
theorem fstN_eq (P : Ps) (s : Nat) : fstD P (nI s) = nI (fstN P s) := by
  unfold fstD fstN; split
  · split <;> rfl
  · rfl
theorem lstN_eq (P : Ps) (s : Nat) : lstD P (nI s) = nI (lstN P s) := by
  unfold lstD lstN; split
  · split <;> rfl
  · rfl
theorem fstN_le (P : Ps) (s : Nat) : fstN P s ≤ 2 := by
  unfold fstN; split
  · split <;> omega
  · omega
theorem lstN_le (P : Ps) (s : Nat) : lstN P s ≤ 3 := by
  unfold lstN; split
  · split <;> omega
  · omega
abbrev LSt : Type := (Nat → Int32) × Nat
theorem enterF_le {f : Nat → Int32} {n : Nat} {v : Int32} (h : n ≤ 72) : (enterF f n v).2 ≤ 72 := by
  unfold enterF
  split
  · exact h
  · rename_i hq
    have : ¬ 72 ≤ n := fun z => hq (Or.inr z)
    simp only
    omega
def fulP (P : Ps) : Int32 := P.1 ||| P.2.1
def step1 (P : Ps) (s w : Nat) (S : LSt) : LSt :=
  if nearT (4 * s + w) = -1 then S else if (fulP P >>> (nearT (4 * s + w) &&& 31)) &&& 1 = 0 then enterF S.1 S.2 (packF (nI s) (nearT (4 * s + w)) 0) else S
def stepL (P : Ps) (s : Nat) : Nat → Nat → LSt → LSt
  | 0, _, S => S
  | k + 1, w, S => if lstN P s < w then S else stepL P s k (w + 1) (step1 P s w S)
/-- the steps of the piece on s -/
def stepsF (P : Ps) (s : Nat) (S : LSt) : LSt := stepL P s (4 - fstN P s) (fstN P s) S
/-- a leap from u in direction w, the pieces T being taken -/
def leapOK (P : Ps) (s u w : Nat) (T : Int32) : Prop := ¬ behT (4 * u + w) = -1 ∧ ¬ ((othP P &&& (T ^^^ (-1))) >>> (nearT (4 * u + w) &&& 31)) &&& 1 = 0 ∧ ((fulP P &&& (((1 : Int32) <<< (nI s &&& 31)) ^^^ (-1))) >>> (behT (4 * u + w) &&& 31)) &&& 1 = 0
def lpW (P : Ps) (s d u : Nat) (T : Int32) (rc : Nat → Int32 → LSt → LSt) : Nat → Nat → Int32 → LSt → LSt × Int32
  | 0, _, en, S => (S, en)
  | k + 1, w, en, S => if lstN P s < w then (S, en) else if d = 0 then (S, en) else if ¬ behT (4 * u + w) = -1 ∧ ¬ ((othP P &&& (T ^^^ (-1))) >>> (nearT (4 * u + w) &&& 31)) &&& 1 = 0 ∧ ((fulP P &&& (((1 : Int32) <<< (nI s &&& 31)) ^^^ (-1))) >>> (behT (4 * u + w) &&& 31)) &&& 1 = 0 then lpW P s d u T rc k (w + 1) 0 (rc (behT (4 * u + w)).toNatClampNeg (T ||| ((1 : Int32) <<< (nearT (4 * u + w) &&& 31))) S) else lpW P s d u T rc k (w + 1) en S
def lpE (s u : Nat) (T : Int32) (r : LSt × Int32) : LSt := if r.2 = 0 then r.1 else if T = 0 then r.1 else enterF r.1.1 r.1.2 (packF (nI s) (nI u) T)
def lpF (P : Ps) (s d u : Nat) (T : Int32) (rc : Nat → Int32 → LSt → LSt) (S : LSt) : LSt := lpE s u T (lpW P s d u T rc (4 - fstN P s) (fstN P s) 1 S)
/-- the jumps of the piece on s, come to u with T taken; d leaps are allowed still -/
def leapF (P : Ps) (s : Nat) : Nat → Nat → Int32 → LSt → LSt
  | 0, u, T, S => lpF P s 0 u T (fun _ _ S => S) S
  | d + 1, u, T, S => lpF P s (d + 1) u T (leapF P s d) S
def ruW (dA : Nat → ClassId) (L : List Nat) (M : mm_M) (r nr bh : Nat) : Prop := r ∈ L ∧ nr ∈ L ∧ bh ∈ L ∧ M r = .inr (3, [.ref nr, .ref bh]) ∧ M nr = .inl (dA 0, 72, .inl nearT) ∧ M bh = .inl (dA 0, 72, .inl behT)
def liW (dA : Nat → ClassId) (L : List Nat) (M : mm_M) (t pk : Nat) (f : Nat → Int32) (n : Nat) : Prop := t ∈ L ∧ pk ∈ L ∧ M t = oL pk (nI n) ∧ M pk = .inl (dA 0, 72, .inl f) ∧ n ≤ 72
theorem beh_ok : ∀ j, j < 72 → behT j = -1 ∨ ((behT j).toNatClampNeg < 18 ∧ behT j = nI (behT j).toNatClampNeg) := by decide +kernel
theorem ixN {s w : Nat} {x y : Int32} (hx : x = nI s) (hy : y = nI w) : x * 4 + y = nI (4 * s + w) := by
  subst hx; subst hy
  rw [show (4 : Int32) = nI 4 from rfl, pk_mul, nI_add, Nat.mul_comm]

set_option maxHeartbeats 1000000 in
set_option maxRecDepth 100000 in
theorem c_reach (l : Launch) (D : va_G) (dA : Nat → ClassId) {L : List Nat} {M : mm_M} (x d n : Int32)  : mm_Cp l D dA yX3_reach wsX3_reach 0 [.int x, .int d, .int n] L M (reachF x d n) := by
  refine mm_enter_i (cc := cX3_reach) (maxL := 5) (by decide) rfl (Nat.le_of_ble_eq_true rfl) ?_
  intro p e R s m args below meth c A ls H locs Q hR hx hb hml hin hown hts hK hV hl hret
  have hl : lv_has ls 5 [(0, .int x), (1, .int d), (2, .int n)] := hl
  have hown : s.vm.findClass RX3 = some m.cls := hown
  refine lv_iload_n hx hb dX3_reach_0 rfl (lv_at hl 0 rfl) ?_
  refine lv_iconst (v := 3) hx hb dX3_reach_1 (by decide) ?_
  refine lv_idiv hx hb dX3_reach_2 (by decide) ?_
  refine lv_topi (fun x3_1 ex3_1 => ?_)
  refine lv_istore_n (lv' := [(3, .int x3_1), (0, .int x), (1, .int d), (2, .int n)]) hx hb dX3_reach_3 rfl hl (by decide) rfl (fun ls hl => ?_)
  refine lv_iconst (v := 2) hx hb dX3_reach_4 (by decide) ?_
  refine lv_iload_n hx hb dX3_reach_5 rfl (lv_at hl 1 rfl) ?_
  refine lv_iconst (v := 3) hx hb dX3_reach_6 (by decide) ?_
  refine lv_irem hx hb dX3_reach_7 (by decide) ?_
  refine lv_imul hx hb dX3_reach_8 ?_
  refine lv_iload_n hx hb dX3_reach_9 rfl (lv_at hl 0 rfl) ?_
  refine lv_iconst (v := 2) hx hb dX3_reach_10 (by decide) ?_
  refine lv_irem hx hb dX3_reach_11 (by decide) ?_
  refine lv_iadd hx hb dX3_reach_12 ?_
  refine lv_topi (fun x4_2 ex4_2 => ?_)
  refine lv_istore (lv' := [(4, .int x4_2), (3, .int x3_1), (0, .int x), (1, .int d), (2, .int n)]) hx hb dX3_reach_13 hl (by decide) rfl (fun ls hl => ?_)
  refine lv_iload_n hx hb dX3_reach_15 rfl (lv_at hl 1 rfl) ?_
  refine lv_iload_n hx hb dX3_reach_16 rfl (lv_at hl 3 rfl) ?_
  refine lv_iconst (v := 2) hx hb dX3_reach_17 (by decide) ?_
  have J27 : ∀ (v27_3 : Int32), v27_3 = (if 2 ≤ d then n else (-n)) → W p l e R s m args below meth c H locs 0 0 Q (F0 m 27 ls [.int v27_3, .int x3_1]) := by
    intro v27_3 ev27_3
    refine lv_iadd hx hb dX3_reach_27 ?_
    refine lv_topi (fun x3_4 ex3_4 => ?_)
    refine lv_istore_n (lv' := [(3, .int x3_4), (4, .int x4_2), (0, .int x), (1, .int d), (2, .int n)]) hx hb dX3_reach_28 rfl hl (by decide) rfl (fun ls hl => ?_)
    refine lv_iload hx hb dX3_reach_29 (lv_at hl 1 rfl) ?_
    refine lv_iload_n hx hb dX3_reach_31 rfl (lv_at hl 3 rfl) ?_
    refine lv_iconst (v := 2) hx hb dX3_reach_32 (by decide) ?_
    refine lv_irem hx hb dX3_reach_33 (by decide) ?_
    have J43 : ∀ (v43_5 : Int32), v43_5 = (if (d - d / 2 * 2) = 0 then (-n) else n) → W p l e R s m args below meth c H locs 0 0 Q (F0 m 43 ls [.int v43_5, .int x4_2]) := by
      intro v43_5 ev43_5
      refine lv_iadd hx hb dX3_reach_43 ?_
      refine lv_topi (fun x4_6 ex4_6 => ?_)
      refine lv_istore (lv' := [(4, .int x4_6), (3, .int x3_4), (0, .int x), (1, .int d), (2, .int n)]) hx hb dX3_reach_44 hl (by decide) rfl (fun ls hl => ?_)
      refine lv_iload_n hx hb dX3_reach_46 rfl (lv_at hl 1 rfl) ?_
      refine lv_if_lt (tgt := 68) hx hb dX3_reach_47 (by decide) (fun c47 => ?_) (fun c47 => ?_)
      · refine lv_iconst (v := (-1)) hx hb dX3_reach_68 (by decide) ?_
        exact hret (v := (-1)) dX3_reach_69 hV (by decide) (by decide) ⟨by subst_vars; unfold reachF; simp only [c47, ↓reduceIte], rfl, rfl⟩
      · refine lv_iload_n hx hb dX3_reach_50 rfl (lv_at hl 1 rfl) ?_
        refine lv_bipush (v := 6) hx hb dX3_reach_51 (by decide) ?_
        refine lv_icmp_ge (tgt := 68) hx hb dX3_reach_53 (by decide) (fun c53 => ?_) (fun c53 => ?_)
        · refine lv_iconst (v := (-1)) hx hb dX3_reach_68 (by decide) ?_
          exact hret (v := (-1)) dX3_reach_69 hV (by decide) (by decide) ⟨by subst_vars; unfold reachF; simp only [c47, c53, ↓reduceIte], rfl, rfl⟩
        · refine lv_iload hx hb dX3_reach_56 (lv_at hl 0 rfl) ?_
          refine lv_if_lt (tgt := 68) hx hb dX3_reach_58 (by decide) (fun c58 => ?_) (fun c58 => ?_)
          · refine lv_iconst (v := (-1)) hx hb dX3_reach_68 (by decide) ?_
            exact hret (v := (-1)) dX3_reach_69 hV (by decide) (by decide) ⟨by subst_vars; unfold reachF; simp only [c47, c53, c58, ↓reduceIte], rfl, rfl⟩
          · refine lv_iload hx hb dX3_reach_61 (lv_at hl 0 rfl) ?_
            refine lv_bipush (v := 6) hx hb dX3_reach_63 (by decide) ?_
            refine lv_icmp_lt (tgt := 70) hx hb dX3_reach_65 (by decide) (fun c65 => ?_) (fun c65 => ?_)
            · refine lv_iload_n hx hb dX3_reach_70 rfl (lv_at hl 1 rfl) ?_
              refine lv_iconst (v := 3) hx hb dX3_reach_71 (by decide) ?_
              refine lv_imul hx hb dX3_reach_72 ?_
              refine lv_iload hx hb dX3_reach_73 (lv_at hl 0 rfl) ?_
              refine lv_iconst (v := 2) hx hb dX3_reach_75 (by decide) ?_
              refine lv_idiv hx hb dX3_reach_76 (by decide) ?_
              refine lv_iadd hx hb dX3_reach_77 ?_
              exact hret (v := ((x3_4 * 3) + (x4_6 / 2))) dX3_reach_78 hV (by decide) (by decide) ⟨by subst_vars; unfold reachF; simp only [c47, c53, c58, c65, ↓reduceIte], rfl, rfl⟩
            · refine lv_iconst (v := (-1)) hx hb dX3_reach_68 (by decide) ?_
              exact hret (v := (-1)) dX3_reach_69 hV (by decide) (by decide) ⟨by subst_vars; unfold reachF; simp only [c47, c53, c58, c65, ↓reduceIte], rfl, rfl⟩
    refine lv_if_ne (tgt := 42) hx hb dX3_reach_34 (by decide) (fun c34 => ?_) (fun c34 => ?_)
    · refine lv_iload_n hx hb dX3_reach_42 rfl (lv_at hl 4 rfl) ?_
      exact J43 _ (by rw [if_neg c34])
    · refine lv_iload_n hx hb dX3_reach_37 rfl (lv_at hl 4 rfl) ?_
      refine lv_ineg hx hb dX3_reach_38 ?_
      refine lv_goto (tgt := 43) hx hb dX3_reach_39 (by decide) ?_
      exact J43 _ (by rw [if_pos c34])
  refine lv_icmp_ge (tgt := 26) hx hb dX3_reach_18 (by decide) (fun c18 => ?_) (fun c18 => ?_)
  · refine lv_iload_n hx hb dX3_reach_26 rfl (lv_at hl 4 rfl) ?_
    exact J27 _ (by rw [if_pos c18])
  · refine lv_iload_n hx hb dX3_reach_21 rfl (lv_at hl 4 rfl) ?_
    refine lv_ineg hx hb dX3_reach_22 ?_
    refine lv_goto (tgt := 27) hx hb dX3_reach_23 (by decide) ?_
    exact J27 _ (by rw [if_neg c18])

set_option maxHeartbeats 1000000 in
set_option maxRecDepth 100000 in
theorem c_firstD (l : Launch) (D : va_G) (dA : Nat → ClassId) {L : List Nat} {M : mm_M} {a : Nat} {P : Ps} (sq : Int32) (i_a : a ∈ L) (m_a : M a = oP P) : mm_Cp l D dA yX3_firstDirection wsX3_firstDirection 1 [.ref a, .int sq] L M (fstD P sq) := by
  have m_a : M a = .inr (2, [.int P.1, .int P.2.1, .int P.2.2.1, .int P.2.2.2.1, .int P.2.2.2.2]) := m_a
  refine mm_enter_i (cc := cX3_firstDirection) (maxL := 2) (by decide) rfl (Nat.le_of_ble_eq_true rfl) ?_
  intro p e R s m args below meth c A ls H locs Q hR hx hb hml hin hown hts hK hV hl hret
  have hl : lv_has ls 2 [(0, .ref a), (1, .int sq)] := hl
  have hown : s.vm.findClass RX3 = some m.cls := hown
  have f_28 := hts (.fieldLink RX3 28 "JumpBoard$Position" "mover" "I") (by decide +kernel)
  have in_X2 : ∀ w ∈ wsX20, w ∈ wsX3_firstDirection := by decide +kernel
  refine lv_aload_n hx hb dX3_firstDirection_0 rfl (lv_at hl 0 rfl) ?_
  refine lv_iload_n hx hb dX3_firstDirection_1 rfl (lv_at hl 1 rfl) ?_
  refine mm_Vp (v := (kingP P sq)) (ci := 2) (As := [.int sq]) (rest := []) ⟨hx, hb, hml, hown, hts⟩ hK hV (c_isKing l D dA (P := P) sq i_a m_a) (cwV 1 hts gX3_firstDirection_X2_isKing rfl rfl rfl (by decide +kernel) (mm_levR hR (by omega) (by decide))) i_a m_a rfl rfl hl.1 rfl (Nat.le_of_ble_eq_true rfl) dX3_firstDirection_2 ⟨Nat.zero_le _, Nat.zero_le _⟩ (fun H locs hV => ?_)
  have J21 : ∀ (v21_1 : Int32), v21_1 = (if kingP P sq = 0 then (if P.2.2.2.1 = 1 then 0 else 2) else 0) → W p l e R s m args below meth c H locs 0 0 Q (F0 m 21 ls [.int v21_1]) := by
    intro v21_1 ev21_1
    exact hret (v := v21_1) dX3_firstDirection_21 hV (by decide) (by decide) ⟨by subst_vars; rfl, rfl, rfl⟩
  refine lv_if_ne (tgt := 16) hx hb dX3_firstDirection_5 (by decide) (fun c5 => ?_) (fun c5 => ?_)
  · refine lv_iconst (v := 0) hx hb dX3_firstDirection_16 (by decide) ?_
    refine lv_goto (tgt := 21) hx hb dX3_firstDirection_17 (by decide) ?_
    exact J21 _ (by rw [if_neg c5])
  · refine lv_aload_n hx hb dX3_firstDirection_8 rfl (lv_at hl 0 rfl) ?_
    refine mm_get (ci := 2) (C := RX2) (T := TX2) (N := 5) hx hb hts in_X2 hown hK hV i_a m_a rfl 3 (by decide) f_28 (fun _ h => h) rfl dX3_firstDirection_9 ?_
    refine lv_iconst (v := 1) hx hb dX3_firstDirection_12 (by decide) ?_
    refine lv_icmp_ne (tgt := 20) hx hb dX3_firstDirection_13 (by decide) (fun c13 => ?_) (fun c13 => ?_)
    · refine lv_iconst (v := 2) hx hb dX3_firstDirection_20 (by decide) ?_
      exact J21 _ (by rw [if_pos c5, if_neg c13])
    · refine lv_iconst (v := 0) hx hb dX3_firstDirection_16 (by decide) ?_
      refine lv_goto (tgt := 21) hx hb dX3_firstDirection_17 (by decide) ?_
      exact J21 _ (by rw [if_pos c5, if_pos c13])

set_option maxHeartbeats 1000000 in
set_option maxRecDepth 100000 in
theorem c_lastD (l : Launch) (D : va_G) (dA : Nat → ClassId) {L : List Nat} {M : mm_M} {a : Nat} {P : Ps} (sq : Int32) (i_a : a ∈ L) (m_a : M a = oP P) : mm_Cp l D dA yX3_lastDirection wsX3_lastDirection 1 [.ref a, .int sq] L M (lstD P sq) := by
  have m_a : M a = .inr (2, [.int P.1, .int P.2.1, .int P.2.2.1, .int P.2.2.2.1, .int P.2.2.2.2]) := m_a
  refine mm_enter_i (cc := cX3_lastDirection) (maxL := 2) (by decide) rfl (Nat.le_of_ble_eq_true rfl) ?_
  intro p e R s m args below meth c A ls H locs Q hR hx hb hml hin hown hts hK hV hl hret
  have hl : lv_has ls 2 [(0, .ref a), (1, .int sq)] := hl
  have hown : s.vm.findClass RX3 = some m.cls := hown
  have f_28 := hts (.fieldLink RX3 28 "JumpBoard$Position" "mover" "I") (by decide +kernel)
  have in_X2 : ∀ w ∈ wsX20, w ∈ wsX3_lastDirection := by decide +kernel
  refine lv_aload_n hx hb dX3_lastDirection_0 rfl (lv_at hl 0 rfl) ?_
  refine lv_iload_n hx hb dX3_lastDirection_1 rfl (lv_at hl 1 rfl) ?_
  refine mm_Vp (v := (kingP P sq)) (ci := 2) (As := [.int sq]) (rest := []) ⟨hx, hb, hml, hown, hts⟩ hK hV (c_isKing l D dA (P := P) sq i_a m_a) (cwV 1 hts gX3_lastDirection_X2_isKing rfl rfl rfl (by decide +kernel) (mm_levR hR (by omega) (by decide))) i_a m_a rfl rfl hl.1 rfl (Nat.le_of_ble_eq_true rfl) dX3_lastDirection_2 ⟨Nat.zero_le _, Nat.zero_le _⟩ (fun H locs hV => ?_)
  have J20 : ∀ (v20_1 : Int32), v20_1 = (if kingP P sq = 0 then (if P.2.2.2.1 = 0 then 3 else 1) else 3) → W p l e R s m args below meth c H locs 0 0 Q (F0 m 20 ls [.int v20_1]) := by
    intro v20_1 ev20_1
    exact hret (v := v20_1) dX3_lastDirection_20 hV (by decide) (by decide) ⟨by subst_vars; rfl, rfl, rfl⟩
  refine lv_if_ne (tgt := 15) hx hb dX3_lastDirection_5 (by decide) (fun c5 => ?_) (fun c5 => ?_)
  · refine lv_iconst (v := 3) hx hb dX3_lastDirection_15 (by decide) ?_
    refine lv_goto (tgt := 20) hx hb dX3_lastDirection_16 (by decide) ?_
    exact J20 _ (by rw [if_neg c5])
  · refine lv_aload_n hx hb dX3_lastDirection_8 rfl (lv_at hl 0 rfl) ?_
    refine mm_get (ci := 2) (C := RX2) (T := TX2) (N := 5) hx hb hts in_X2 hown hK hV i_a m_a rfl 3 (by decide) f_28 (fun _ h => h) rfl dX3_lastDirection_9 ?_
    refine lv_if_ne (tgt := 19) hx hb dX3_lastDirection_12 (by decide) (fun c12 => ?_) (fun c12 => ?_)
    · refine lv_iconst (v := 1) hx hb dX3_lastDirection_19 (by decide) ?_
      exact J20 _ (by rw [if_pos c5, if_neg c12])
    · refine lv_iconst (v := 3) hx hb dX3_lastDirection_15 (by decide) ?_
      refine lv_goto (tgt := 20) hx hb dX3_lastDirection_16 (by decide) ?_
      exact J20 _ (by rw [if_pos c5, if_pos c12])

set_option maxHeartbeats 1000000 in
set_option maxRecDepth 100000 in
theorem c_listSteps (l : Launch) (D : va_G) (dA : Nat → ClassId) {L : List Nat} {M : mm_M} {r nr bh a t pk : Nat} {P : Ps} {f : Nat → Int32} {n : Nat} {s0 : Nat} (sq : Int32) (hr : ruW dA L M r nr bh) (i_a : a ∈ L) (m_a : M a = oP P) (hli : liW dA L M t pk f n) (hne1 : nr ≠ pk) (hne2 : bh ≠ pk) (hs : sq = nI s0) (hs18 : s0 < 18) : mm_Cm l D dA yX3_listSteps wsX3_listSteps 2 [.ref r, .ref a, .ref t, .int sq] L M (fun M1 => M1 = va_up (va_up M t (oL pk (nI (stepsF P s0 (f, n)).2))) pk (.inl (dA 0, 72, .inl (stepsF P s0 (f, n)).1))) := by
  obtain ⟨i_r, i_nr, i_bh, m_r, m_nr, m_bh⟩ := hr
  obtain ⟨i_t, i_pk, m_t, m_pk, hn⟩ := hli
  have m_a : M a = .inr (2, [.int P.1, .int P.2.1, .int P.2.2.1, .int P.2.2.2.1, .int P.2.2.2.2]) := m_a
  have m_t : M t = .inr (1, [.ref pk, .int (nI n)]) := m_t
  have hnt : t ≠ pk := mm_neq m_t m_pk (by intro h; cases h)
  obtain ⟨RES, eRES⟩ : ∃ z, z = stepsF P s0 (f, n) := ⟨_, rfl⟩
  rw [← eRES]
  refine mm_enter_v (cc := cX3_listSteps) (maxL := 8) (by decide) rfl (Nat.le_of_ble_eq_true rfl) ?_
  intro p e R s m args below meth c A ls H locs Q hR hx hb hml hin hown hts hK hV hl hret
  have hl : lv_has ls 8 [(0, .ref r), (1, .ref a), (2, .ref t), (3, .int sq)] := hl
  have hown : s.vm.findClass RX3 = some m.cls := hown
  have f_49 := hts (.fieldLink RX3 49 "JumpBoard$Position" "white" "I") (by decide +kernel)
  have in_X2 : ∀ w ∈ wsX20, w ∈ wsX3_listSteps := by decide +kernel
  have f_52 := hts (.fieldLink RX3 52 "JumpBoard$Position" "black" "I") (by decide +kernel)
  have f_9 := hts (.fieldLink RX3 9 "JumpBoard$Rules" "near" "[I") (by decide +kernel)
  have in_X3 : ∀ w ∈ wsX30, w ∈ wsX3_listSteps := by decide +kernel
  refine lv_aload_n hx hb dX3_listSteps_0 rfl (lv_at hl 1 rfl) ?_
  refine mm_get (ci := 2) (C := RX2) (T := TX2) (N := 5) hx hb hts in_X2 hown hK hV i_a m_a rfl 0 (by decide) f_49 (fun _ h => h) rfl dX3_listSteps_1 ?_
  refine lv_aload_n hx hb dX3_listSteps_4 rfl (lv_at hl 1 rfl) ?_
  refine mm_get (ci := 2) (C := RX2) (T := TX2) (N := 5) hx hb hts in_X2 hown hK hV i_a m_a rfl 1 (by decide) f_52 (fun _ h => h) rfl dX3_listSteps_5 ?_
  refine lv_ior hx hb dX3_listSteps_8 ?_
  refine lv_topi (fun x4 ex4 => ?_)
  refine lv_istore (lv' := [(4, .int x4), (0, .ref r), (1, .ref a), (2, .ref t), (3, .int sq)]) hx hb dX3_listSteps_9 hl (by decide) rfl (fun ls hl => ?_)
  have hx4 : x4 = fulP P := ex4
  refine lv_aload_n hx hb dX3_listSteps_11 rfl (lv_at hl 2 rfl) ?_
  refine lv_iload_n hx hb dX3_listSteps_12 rfl (lv_at hl 4 rfl) ?_
  refine mm_Sp (v := (lstD P sq)) (As := [.ref a, .int sq]) (rest := []) ⟨hx, hb, hml, hown, hts⟩ hK hV (c_lastD l D dA (P := P) sq i_a m_a) (va_cwS 2 hts gX3_listSteps_X3_lastDirection rfl rfl rfl (by decide +kernel) (mm_levR hR (by omega) (by decide))) rfl hl.1 rfl (Nat.le_of_ble_eq_true rfl) dX3_listSteps_13 ⟨Nat.zero_le _, Nat.zero_le _⟩ (fun H locs hV => ?_)
  refine lv_topi (fun x5 ex5 => ?_)
  refine lv_istore (lv' := [(5, .int x5), (4, .int x4), (0, .ref r), (1, .ref a), (2, .ref t), (3, .int sq)]) hx hb dX3_listSteps_16 hl (by decide) rfl (fun ls hl => ?_)
  have hx5 : x5 = nI (lstN P s0) := by rw [ex5, hs]; exact lstN_eq P s0
  refine lv_aload_n hx hb dX3_listSteps_18 rfl (lv_at hl 3 rfl) ?_
  refine lv_iload_n hx hb dX3_listSteps_19 rfl (lv_at hl 5 rfl) ?_
  refine mm_Sp (v := (fstD P sq)) (As := [.ref a, .int sq]) (rest := []) ⟨hx, hb, hml, hown, hts⟩ hK hV (c_firstD l D dA (P := P) sq i_a m_a) (va_cwS 2 hts gX3_listSteps_X3_firstDirection rfl rfl rfl (by decide +kernel) (mm_levR hR (by omega) (by decide))) rfl hl.1 rfl (Nat.le_of_ble_eq_true rfl) dX3_listSteps_20 ⟨Nat.zero_le _, Nat.zero_le _⟩ (fun H locs hV => ?_)
  refine lv_topi (fun x6 ex6 => ?_)
  refine lv_istore (lv' := [(6, .int x6), (5, .int x5), (4, .int x4), (0, .ref r), (1, .ref a), (2, .ref t), (3, .int sq)]) hx hb dX3_listSteps_23 hl (by decide) rfl (fun ls hl => ?_)
  have hx6 : x6 = nI (fstN P s0) := by rw [ex6, hs]; exact fstN_eq P s0
  have hl3 := lstN_le P s0
  have hf2 := fstN_le P s0
  have LP : ∀ (k w : Nat) (x6 : Int32) (f : Nat → Int32) (n : Nat) (M1 : mm_M) (H : Heap) (locs : List Loc) (ls : Array Slot), w + k = 4 → x6 = nI w → n ≤ 72 → stepL P s0 k w (f, n) = RES → mm_V A D L M1 s H locs → M1 r = .inr (3, [.ref nr, .ref bh]) → M1 nr = .inl (dA 0, 72, .inl nearT) → M1 bh = .inl (dA 0, 72, .inl behT) → M1 a = .inr (2, [.int P.1, .int P.2.1, .int P.2.2.1, .int P.2.2.2.1, .int P.2.2.2.2]) → M1 t = .inr (1, [.ref pk, .int (nI n)]) → M1 pk = .inl (dA 0, 72, .inl f) → (∀ q : Nat, q ≠ t → q ≠ pk → M1 q = M q) → lv_has ls 8 [(0, .ref r), (1, .ref a), (2, .ref t), (3, .int sq), (4, .int x4), (5, .int x5), (6, .int x6)] → W p l e R s m args below meth c H locs 0 0 Q (F0 m 25 ls []) := by
    intro k
    induction k with
    | zero =>
      intro w x6 f n M1 H locs ls hwk hx6 hn hres hV m_r m_nr m_bh m_a m_t m_pk fr hl
      refine lv_iload hx hb dX3_listSteps_25 (lv_at hl 6 rfl) ?_
      refine lv_iload hx hb dX3_listSteps_27 (lv_at hl 5 rfl) ?_
      refine lv_icmp_gt (tgt := 75) hx hb dX3_listSteps_29 (by decide) (fun c29 => ?_) (fun c29 => ?_)
      · have hlw : lstN P s0 < w := (nI_ltI (by omega) (by omega)).mp (by rw [← hx5, ← hx6]; exact c29)
        have hres2 : RES = (f, n) := by rw [← hres]; rfl
        exact hret dX3_listSteps_75 hV (by decide) (by decide) ⟨rfl, by rw [hres2]; exact mm_fin2 m_t m_pk hnt (fun q h0 h1 => fr q h0 h1)⟩
      · exact absurd (by rw [hx5, hx6]; exact nI_lt (by omega) (by omega)) c29
    | succ k ih =>
      intro w x6 f n M1 H locs ls hwk hx6 hn hres hV m_r m_nr m_bh m_a m_t m_pk fr hl
      refine lv_iload hx hb dX3_listSteps_25 (lv_at hl 6 rfl) ?_
      refine lv_iload hx hb dX3_listSteps_27 (lv_at hl 5 rfl) ?_
      refine lv_icmp_gt (tgt := 75) hx hb dX3_listSteps_29 (by decide) (fun c29 => ?_) (fun c29 => ?_)
      · have hlw : lstN P s0 < w := (nI_ltI (by omega) (by omega)).mp (by rw [← hx5, ← hx6]; exact c29)
        have hres2 : RES = (f, n) := by rw [← hres]; rw [stepL, if_pos hlw]
        exact hret dX3_listSteps_75 hV (by decide) (by decide) ⟨rfl, by rw [hres2]; exact mm_fin2 m_t m_pk hnt (fun q h0 h1 => fr q h0 h1)⟩
      · have hlw : ¬ lstN P s0 < w := fun h => c29 (by rw [hx5, hx6]; exact nI_lt h (by omega))
        refine lv_aload_n hx hb dX3_listSteps_32 rfl (lv_at hl 0 rfl) ?_
        refine mm_get (ci := 3) (C := RX3) (T := TX3) (N := 2) hx hb hts in_X3 hown hK hV i_r m_r rfl 0 (by decide) f_9 (fun _ h => h) rfl dX3_listSteps_33 ?_
        refine lv_iload_n hx hb dX3_listSteps_36 rfl (lv_at hl 3 rfl) ?_
        refine lv_iconst (v := 4) hx hb dX3_listSteps_37 (by decide) ?_
        refine lv_imul hx hb dX3_listSteps_38 ?_
        refine lv_iload hx hb dX3_listSteps_39 (lv_at hl 6 rfl) ?_
        refine lv_iadd hx hb dX3_listSteps_41 ?_
        refine mm_ialdN (j := (4 * s0 + w)) hx hb hK hV i_nr m_nr (ixN hs hx6) (by omega) (by decide) dX3_listSteps_42 ?_
        refine lv_topi (fun x7 ex7 => ?_)
        refine lv_istore (lv' := [(7, .int x7), (0, .ref r), (1, .ref a), (2, .ref t), (3, .int sq), (4, .int x4), (5, .int x5), (6, .int x6)]) hx hb dX3_listSteps_43 hl (by decide) rfl (fun ls hl => ?_)
        refine lv_iload hx hb dX3_listSteps_45 (lv_at hl 0 rfl) ?_
        refine lv_iconst (v := (-1)) hx hb dX3_listSteps_47 (by decide) ?_
        refine lv_icmp_eq (tgt := 69) hx hb dX3_listSteps_48 (by decide) (fun c48 => ?_) (fun c48 => ?_)
        · obtain ⟨x6_n, ex6_n⟩ : ∃ y : Int32, y = x6 + 1 := ⟨_, rfl⟩
          refine lv_iinc (v := x6_n) (lv' := [(6, .int x6_n), (7, .int x7), (0, .ref r), (1, .ref a), (2, .ref t), (3, .int sq), (4, .int x4), (5, .int x5)]) hx hb dX3_listSteps_69 hl (k := 7) rfl (by rw [ex6_n]; rfl) (by decide) rfl (fun ls hl => ?_)
          refine lv_goto (tgt := 25) hx hb dX3_listSteps_72 (by decide) ?_
          exact ih (w + 1) x6_n f n M1 _ _ ls (by omega) (by rw [ex6_n, hx6]; exact nI_1 w) hn (by rw [← hres, stepL, if_neg hlw, step1, ← ex7, if_pos c48]) hV m_r m_nr m_bh m_a m_t m_pk fr (lv_sub hl [2, 3, 4, 5, 6, 7, 0] rfl)
        · refine lv_iload hx hb dX3_listSteps_51 (lv_at hl 5 rfl) ?_
          refine lv_iload hx hb dX3_listSteps_53 (lv_at hl 0 rfl) ?_
          refine lv_ishr hx hb dX3_listSteps_55 ?_
          refine lv_iconst (v := 1) hx hb dX3_listSteps_56 (by decide) ?_
          refine lv_iand hx hb dX3_listSteps_57 ?_
          refine lv_if_ne (tgt := 69) hx hb dX3_listSteps_58 (by decide) (fun c58 => ?_) (fun c58 => ?_)
          · obtain ⟨x6_n, ex6_n⟩ : ∃ y : Int32, y = x6 + 1 := ⟨_, rfl⟩
            refine lv_iinc (v := x6_n) (lv' := [(6, .int x6_n), (7, .int x7), (0, .ref r), (1, .ref a), (2, .ref t), (3, .int sq), (4, .int x4), (5, .int x5)]) hx hb dX3_listSteps_69 hl (k := 7) rfl (by rw [ex6_n]; rfl) (by decide) rfl (fun ls hl => ?_)
            refine lv_goto (tgt := 25) hx hb dX3_listSteps_72 (by decide) ?_
            exact ih (w + 1) x6_n f n M1 _ _ ls (by omega) (by rw [ex6_n, hx6]; exact nI_1 w) hn (by rw [← hres, stepL, if_neg hlw, step1, ← ex7, if_neg c48, ← hx4, if_neg c58]) hV m_r m_nr m_bh m_a m_t m_pk fr (lv_sub hl [2, 3, 4, 5, 6, 7, 0] rfl)
          · refine lv_aload_n hx hb dX3_listSteps_61 rfl (lv_at hl 3 rfl) ?_
            refine lv_iload_n hx hb dX3_listSteps_62 rfl (lv_at hl 4 rfl) ?_
            refine lv_iload hx hb dX3_listSteps_63 (lv_at hl 0 rfl) ?_
            refine lv_iconst (v := 0) hx hb dX3_listSteps_65 (by decide) ?_
            refine mm_Vm (ci := 1) (As := [.int sq, .int x7, .int 0]) (rest := []) ⟨hx, hb, hml, hown, hts⟩ hK hV (c_enter l D dA sq x7 0 hn i_t i_pk m_t m_pk) (cwV 3 hts gX3_listSteps_X1_enter rfl rfl rfl (by decide +kernel) (mm_levR hR (by omega) (by decide))) i_t m_t rfl rfl hl.1 rfl (Nat.le_of_ble_eq_true rfl) dX3_listSteps_66 ⟨Nat.zero_le _, Nat.zero_le _⟩ (fun M_1 H locs eM_1 hV => ?_)
            have m_r : M_1 r = _ := (congrFun eM_1 r).trans ((va_up_ne _ _ (mm_neq m_r m_pk (by intro h; cases h))).trans ((va_up_ne _ _ (mm_neq m_r m_t (by intro h; cases h))).trans m_r))
            have m_nr : M_1 nr = _ := (congrFun eM_1 nr).trans ((va_up_ne _ _ hne1).trans ((va_up_ne _ _ (mm_neq m_nr m_t (by intro h; cases h))).trans m_nr))
            have m_bh : M_1 bh = _ := (congrFun eM_1 bh).trans ((va_up_ne _ _ hne2).trans ((va_up_ne _ _ (mm_neq m_bh m_t (by intro h; cases h))).trans m_bh))
            have m_a : M_1 a = _ := (congrFun eM_1 a).trans ((va_up_ne _ _ (mm_neq m_a m_pk (by intro h; cases h))).trans ((va_up_ne _ _ (mm_neq m_a m_t (by intro h; cases h))).trans m_a))
            have m_t : M_1 t = .inr (1, [.ref pk, .int (nI (enterF f n (packF sq x7 0)).2)]) := (congrFun eM_1 t).trans ((va_up_ne _ _ hnt).trans (va_up_self _ _ _))
            have m_pk : M_1 pk = .inl (dA 0, 72, .inl ((enterF f n (packF sq x7 0)).1)) := (congrFun eM_1 pk).trans (va_up_self _ _ _)
            have fr : ∀ q : Nat, q ≠ t → q ≠ pk → M_1 q = M q := fun q h0 h1 => (congrFun eM_1 q).trans ((va_up_ne _ _ h1).trans ((va_up_ne _ _ h0).trans (fr q h0 h1)))
            obtain ⟨x6_n, ex6_n⟩ : ∃ y : Int32, y = x6 + 1 := ⟨_, rfl⟩
            refine lv_iinc (v := x6_n) (lv' := [(6, .int x6_n), (7, .int x7), (0, .ref r), (1, .ref a), (2, .ref t), (3, .int sq), (4, .int x4), (5, .int x5)]) hx hb dX3_listSteps_69 hl (k := 7) rfl (by rw [ex6_n]; rfl) (by decide) rfl (fun ls hl => ?_)
            refine lv_goto (tgt := 25) hx hb dX3_listSteps_72 (by decide) ?_
            exact ih (w + 1) x6_n ((enterF f n (packF sq x7 0)).1) ((enterF f n (packF sq x7 0)).2) M_1 _ _ ls (by omega) (by rw [ex6_n, hx6]; exact nI_1 w) (enterF_le hn) (by rw [← hres, stepL, if_neg hlw, step1, ← ex7, if_neg c48, ← hx4, if_pos c58, ← hs]) hV m_r m_nr m_bh m_a m_t m_pk fr (lv_sub hl [2, 3, 4, 5, 6, 7, 0] rfl)
  exact LP (4 - fstN P s0) (fstN P s0) x6 f n M H locs ls (by omega) hx6 hn eRES.symm hV m_r m_nr m_bh m_a m_t m_pk (fun q _ _ => rfl) (lv_sub hl [3, 4, 5, 6, 2, 1, 0] rfl)
