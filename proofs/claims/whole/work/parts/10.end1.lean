theorem mm_nelen {cA cB : ClassId} {n m : Nat} {x y : (Nat → Int32) ⊕ (Nat → Int64) ⊕ (Nat → UInt32) ⊕ (Nat → UInt64) ⊕ (Nat → Option Nat)} (h : n ≠ m) : (Sum.inl (cA, n, x) : va_E) ≠ .inl (cB, m, y) := fun e => h (congrArg (fun z : va_E => match z with | .inl q => q.2.1 | .inr _ => 0) e)
/-- Integer.numberOfTrailingZeros, as its code goes -/
def ntzF (x : Int32) : Int32 :=
  let a := (x ^^^ (-1)) &&& (x - 1)
  if 0 < a then
    let b := if a ≤ 65536 then a else ush a 16
    let n1 := if a ≤ 65536 then 1 else 1 + 16
    let c := if b ≤ 256 then b else ush b 8
    let n2 := if b ≤ 256 then n1 else n1 + 8
    let d := if c ≤ 16 then c else ush c 4
    let n3 := if c ≤ 16 then n2 else n2 + 4
    let e := if d ≤ 4 then d else ush d 2
    let n4 := if d ≤ 4 then n3 else n3 + 2
    n4 + ush e 1
  else a &&& 32
def kindF (P : Ps) (bit : Int32) : Int32 :=
  let sq := ntzF bit - ntzF bit / 18 * 18
  let seen := if P.2.2.2.1 = 0 then sq else 17 - sq
  if kingP P sq = 0 then seen else 18 + seen
def numF (P : Ps) : Int32 := if ownP P = 0 then 1296 else kindF P (ownP P) * 36 + kindF P (othP P)
/-- an ending's position; whether there is one -/
def arA (x : Int32) : Int32 := x / 36
def arB (x : Int32) : Int32 := x - x / 36 * 36
def arS (x : Int32) : Int32 := (1 : Int32) <<< ((arA x - arA x / 18 * 18) &&& 31)
def arT (x : Int32) : Int32 := (1 : Int32) <<< ((arB x - arB x / 18 * 18) &&& 31)
def arK (x : Int32) : Int32 := if arA x < 18 then 0 else 1
def arL (x : Int32) : Int32 := if arB x < 18 then 0 else 1
def arU (x : Int32) : Int32 := if arK x = 0 then (if arS x &&& 229376 = 0 then 0 else 1) else 0
def arV (x : Int32) : Int32 := if arL x = 0 then (if arT x &&& 7 = 0 then 0 else 1) else 0
def arrOK (x : Int32) : Int32 := if arS x = arT x then 0 else if arU x = 0 then (if arV x = 0 then 1 else 0) else 0
def arrP (x : Int32) : Ps := placeP (placeP wipeP (arS x) (if arK x = 0 then 1 else 2)) (arT x) (if arL x = 0 then 3 else 4)

set_option maxHeartbeats 1000000 in
set_option maxRecDepth 100000 in
theorem c_ntz (l : Launch) (D : va_G) (dA : Nat → ClassId) {L : List Nat} {M : mm_M} (x : Int32)  : mm_Cp l D dA yJ6_numberOfTrailingZeros_0f7a4 wsJ6_numberOfTrailingZeros_0f7a4 0 [.int x] L M (ntzF x) := by
  refine mm_enter_i (cc := cJ6_numberOfTrailingZeros_0f7a4) (maxL := 2) (by decide) rfl (Nat.le_of_ble_eq_true rfl) ?_
  intro p e R s m args below meth c A ls H locs Q hR hx hb hml hin hown hts hK hV hl hret
  have hl : lv_has ls 2 [(0, .int x)] := hl
  have hown : s.vm.findClass RJ6 = some m.cls := hown
  refine lv_iload_n hx hb dJ6_numberOfTrailingZeros_0f7a4_0 rfl (lv_at hl 0 rfl) ?_
  refine lv_iconst (v := (-1)) hx hb dJ6_numberOfTrailingZeros_0f7a4_1 (by decide) ?_
  refine lv_ixor hx hb dJ6_numberOfTrailingZeros_0f7a4_2 ?_
  refine lv_iload_n hx hb dJ6_numberOfTrailingZeros_0f7a4_3 rfl (lv_at hl 0 rfl) ?_
  refine lv_iconst (v := 1) hx hb dJ6_numberOfTrailingZeros_0f7a4_4 (by decide) ?_
  refine lv_isub hx hb dJ6_numberOfTrailingZeros_0f7a4_5 ?_
  refine lv_iand hx hb dJ6_numberOfTrailingZeros_0f7a4_6 ?_
  refine lv_topi (fun x0_1 ex0_1 => ?_)
  refine lv_istore_n (lv' := [(0, .int x0_1)]) hx hb dJ6_numberOfTrailingZeros_0f7a4_7 rfl hl (by decide) rfl (fun ls hl => ?_)
  refine lv_iload_n hx hb dJ6_numberOfTrailingZeros_0f7a4_8 rfl (lv_at hl 0 rfl) ?_
  refine lv_if_gt (tgt := 17) hx hb dJ6_numberOfTrailingZeros_0f7a4_9 (by decide) (fun c9 => ?_) (fun c9 => ?_)
  · refine lv_iconst (v := 1) hx hb dJ6_numberOfTrailingZeros_0f7a4_17 (by decide) ?_
    refine lv_topi (fun x1_2 ex1_2 => ?_)
    refine lv_istore_n (lv' := [(1, .int x1_2), (0, .int x0_1)]) hx hb dJ6_numberOfTrailingZeros_0f7a4_18 rfl hl (by decide) rfl (fun ls hl => ?_)
    refine lv_iload_n hx hb dJ6_numberOfTrailingZeros_0f7a4_19 rfl (lv_at hl 1 rfl) ?_
    refine lv_ldcw hx hb hown (hts (.constant RJ6 264 (65536)) (by decide +kernel)) dJ6_numberOfTrailingZeros_0f7a4_20 ?_
    have J34 : ∀ (x0_5 : Int32) (x1_6 : Int32) (ls : Array Slot), x0_5 = (if x0_1 ≤ 65536 then x0_1 else ((x0_1.toUInt32 >>> (Int32.toUInt32 16 &&& Int32.toUInt32 31)).toInt32)) → x1_6 = (if x0_1 ≤ 65536 then x1_2 else (x1_2 + 16)) → lv_has ls 2 [(0, .int x0_5), (1, .int x1_6)] → W p l e R s m args below meth c H locs 0 0 Q (F0 m 34 ls []) := by
      intro x0_5 x1_6 ls ex0_5 ex1_6 hl
      refine lv_iload_n hx hb dJ6_numberOfTrailingZeros_0f7a4_34 rfl (lv_at hl 0 rfl) ?_
      refine lv_sipush (v := 256) hx hb dJ6_numberOfTrailingZeros_0f7a4_35 (by decide) ?_
      have J49 : ∀ (x0_9 : Int32) (x1_10 : Int32) (ls : Array Slot), x0_9 = (if x0_5 ≤ 256 then x0_5 else ((x0_5.toUInt32 >>> (Int32.toUInt32 8 &&& Int32.toUInt32 31)).toInt32)) → x1_10 = (if x0_5 ≤ 256 then x1_6 else (x1_6 + 8)) → lv_has ls 2 [(0, .int x0_9), (1, .int x1_10)] → W p l e R s m args below meth c H locs 0 0 Q (F0 m 49 ls []) := by
        intro x0_9 x1_10 ls ex0_9 ex1_10 hl
        refine lv_iload_n hx hb dJ6_numberOfTrailingZeros_0f7a4_49 rfl (lv_at hl 0 rfl) ?_
        refine lv_bipush (v := 16) hx hb dJ6_numberOfTrailingZeros_0f7a4_50 (by decide) ?_
        have J62 : ∀ (x0_13 : Int32) (x1_14 : Int32) (ls : Array Slot), x0_13 = (if x0_9 ≤ 16 then x0_9 else ((x0_9.toUInt32 >>> (Int32.toUInt32 4 &&& Int32.toUInt32 31)).toInt32)) → x1_14 = (if x0_9 ≤ 16 then x1_10 else (x1_10 + 4)) → lv_has ls 2 [(0, .int x0_13), (1, .int x1_14)] → W p l e R s m args below meth c H locs 0 0 Q (F0 m 62 ls []) := by
          intro x0_13 x1_14 ls ex0_13 ex1_14 hl
          refine lv_iload_n hx hb dJ6_numberOfTrailingZeros_0f7a4_62 rfl (lv_at hl 0 rfl) ?_
          refine lv_iconst (v := 4) hx hb dJ6_numberOfTrailingZeros_0f7a4_63 (by decide) ?_
          have J74 : ∀ (x0_17 : Int32) (x1_18 : Int32) (ls : Array Slot), x0_17 = (if x0_13 ≤ 4 then x0_13 else ((x0_13.toUInt32 >>> (Int32.toUInt32 2 &&& Int32.toUInt32 31)).toInt32)) → x1_18 = (if x0_13 ≤ 4 then x1_14 else (x1_14 + 2)) → lv_has ls 2 [(0, .int x0_17), (1, .int x1_18)] → W p l e R s m args below meth c H locs 0 0 Q (F0 m 74 ls []) := by
            intro x0_17 x1_18 ls ex0_17 ex1_18 hl
            refine lv_iload_n hx hb dJ6_numberOfTrailingZeros_0f7a4_74 rfl (lv_at hl 1 rfl) ?_
            refine lv_iload_n hx hb dJ6_numberOfTrailingZeros_0f7a4_75 rfl (lv_at hl 0 rfl) ?_
            refine lv_iconst (v := 1) hx hb dJ6_numberOfTrailingZeros_0f7a4_76 (by decide) ?_
            refine lv_iushr hx hb dJ6_numberOfTrailingZeros_0f7a4_77 rfl ?_
            refine lv_iadd hx hb dJ6_numberOfTrailingZeros_0f7a4_78 ?_
            exact hret (v := (x1_18 + (x0_17.toUInt32 >>> (Int32.toUInt32 1 &&& Int32.toUInt32 31)).toInt32)) dJ6_numberOfTrailingZeros_0f7a4_79 hV (by decide) (by decide) ⟨by subst_vars; unfold ntzF; simp only [c9, ↓reduceIte]; try rfl, rfl, rfl⟩
          refine lv_icmp_le (tgt := 74) hx hb dJ6_numberOfTrailingZeros_0f7a4_64 (by decide) (fun c64 => ?_) (fun c64 => ?_)
          · exact J74 _ _ ls (by rw [if_pos c64]) (by rw [if_pos c64]) (lv_sub hl [0, 1] rfl)
          · obtain ⟨x1_15, ex1_15⟩ : ∃ y : Int32, y = x1_14 + 2 := ⟨_, rfl⟩
            refine lv_iinc (v := x1_15) (lv' := [(1, .int x1_15), (0, .int x0_13)]) hx hb dJ6_numberOfTrailingZeros_0f7a4_67 hl (k := 1) rfl (by rw [ex1_15]; rfl) (by decide) rfl (fun ls hl => ?_)
            refine lv_iload_n hx hb dJ6_numberOfTrailingZeros_0f7a4_70 rfl (lv_at hl 1 rfl) ?_
            refine lv_iconst (v := 2) hx hb dJ6_numberOfTrailingZeros_0f7a4_71 (by decide) ?_
            refine lv_iushr hx hb dJ6_numberOfTrailingZeros_0f7a4_72 rfl ?_
            refine lv_topi (fun x0_16 ex0_16 => ?_)
            refine lv_istore_n (lv' := [(0, .int x0_16), (1, .int x1_15)]) hx hb dJ6_numberOfTrailingZeros_0f7a4_73 rfl hl (by decide) rfl (fun ls hl => ?_)
            exact J74 _ _ ls (by rw [if_neg c64, ex0_16]) (by rw [if_neg c64, ex1_15]) (lv_sub hl [0, 1] rfl)
        refine lv_icmp_le (tgt := 62) hx hb dJ6_numberOfTrailingZeros_0f7a4_52 (by decide) (fun c52 => ?_) (fun c52 => ?_)
        · exact J62 _ _ ls (by rw [if_pos c52]) (by rw [if_pos c52]) (lv_sub hl [0, 1] rfl)
        · obtain ⟨x1_11, ex1_11⟩ : ∃ y : Int32, y = x1_10 + 4 := ⟨_, rfl⟩
          refine lv_iinc (v := x1_11) (lv' := [(1, .int x1_11), (0, .int x0_9)]) hx hb dJ6_numberOfTrailingZeros_0f7a4_55 hl (k := 1) rfl (by rw [ex1_11]; rfl) (by decide) rfl (fun ls hl => ?_)
          refine lv_iload_n hx hb dJ6_numberOfTrailingZeros_0f7a4_58 rfl (lv_at hl 1 rfl) ?_
          refine lv_iconst (v := 4) hx hb dJ6_numberOfTrailingZeros_0f7a4_59 (by decide) ?_
          refine lv_iushr hx hb dJ6_numberOfTrailingZeros_0f7a4_60 rfl ?_
          refine lv_topi (fun x0_12 ex0_12 => ?_)
          refine lv_istore_n (lv' := [(0, .int x0_12), (1, .int x1_11)]) hx hb dJ6_numberOfTrailingZeros_0f7a4_61 rfl hl (by decide) rfl (fun ls hl => ?_)
          exact J62 _ _ ls (by rw [if_neg c52, ex0_12]) (by rw [if_neg c52, ex1_11]) (lv_sub hl [0, 1] rfl)
      refine lv_icmp_le (tgt := 49) hx hb dJ6_numberOfTrailingZeros_0f7a4_38 (by decide) (fun c38 => ?_) (fun c38 => ?_)
      · exact J49 _ _ ls (by rw [if_pos c38]) (by rw [if_pos c38]) (lv_sub hl [0, 1] rfl)
      · obtain ⟨x1_7, ex1_7⟩ : ∃ y : Int32, y = x1_6 + 8 := ⟨_, rfl⟩
        refine lv_iinc (v := x1_7) (lv' := [(1, .int x1_7), (0, .int x0_5)]) hx hb dJ6_numberOfTrailingZeros_0f7a4_41 hl (k := 1) rfl (by rw [ex1_7]; rfl) (by decide) rfl (fun ls hl => ?_)
        refine lv_iload_n hx hb dJ6_numberOfTrailingZeros_0f7a4_44 rfl (lv_at hl 1 rfl) ?_
        refine lv_bipush (v := 8) hx hb dJ6_numberOfTrailingZeros_0f7a4_45 (by decide) ?_
        refine lv_iushr hx hb dJ6_numberOfTrailingZeros_0f7a4_47 rfl ?_
        refine lv_topi (fun x0_8 ex0_8 => ?_)
        refine lv_istore_n (lv' := [(0, .int x0_8), (1, .int x1_7)]) hx hb dJ6_numberOfTrailingZeros_0f7a4_48 rfl hl (by decide) rfl (fun ls hl => ?_)
        exact J49 _ _ ls (by rw [if_neg c38, ex0_8]) (by rw [if_neg c38, ex1_7]) (lv_sub hl [0, 1] rfl)
    refine lv_icmp_le (tgt := 34) hx hb dJ6_numberOfTrailingZeros_0f7a4_23 (by decide) (fun c23 => ?_) (fun c23 => ?_)
    · exact J34 _ _ ls (by rw [if_pos c23]) (by rw [if_pos c23]) (lv_sub hl [1, 0] rfl)
    · obtain ⟨x1_3, ex1_3⟩ : ∃ y : Int32, y = x1_2 + 16 := ⟨_, rfl⟩
      refine lv_iinc (v := x1_3) (lv' := [(1, .int x1_3), (0, .int x0_1)]) hx hb dJ6_numberOfTrailingZeros_0f7a4_26 hl (k := 0) rfl (by rw [ex1_3]; rfl) (by decide) rfl (fun ls hl => ?_)
      refine lv_iload_n hx hb dJ6_numberOfTrailingZeros_0f7a4_29 rfl (lv_at hl 1 rfl) ?_
      refine lv_bipush (v := 16) hx hb dJ6_numberOfTrailingZeros_0f7a4_30 (by decide) ?_
      refine lv_iushr hx hb dJ6_numberOfTrailingZeros_0f7a4_32 rfl ?_
      refine lv_topi (fun x0_4 ex0_4 => ?_)
      refine lv_istore_n (lv' := [(0, .int x0_4), (1, .int x1_3)]) hx hb dJ6_numberOfTrailingZeros_0f7a4_33 rfl hl (by decide) rfl (fun ls hl => ?_)
      exact J34 _ _ ls (by rw [if_neg c23, ex0_4]) (by rw [if_neg c23, ex1_3]) (lv_sub hl [0, 1] rfl)
  · refine lv_iload_n hx hb dJ6_numberOfTrailingZeros_0f7a4_12 rfl (lv_at hl 0 rfl) ?_
    refine lv_bipush (v := 32) hx hb dJ6_numberOfTrailingZeros_0f7a4_13 (by decide) ?_
    refine lv_iand hx hb dJ6_numberOfTrailingZeros_0f7a4_15 ?_
    exact hret (v := (x0_1 &&& 32)) dJ6_numberOfTrailingZeros_0f7a4_16 hV (by decide) (by decide) ⟨by subst_vars; unfold ntzF; simp only [c9, ↓reduceIte]; try rfl, rfl, rfl⟩

set_option maxHeartbeats 1000000 in
set_option maxRecDepth 100000 in
theorem c_kind (l : Launch) (D : va_G) (dA : Nat → ClassId) {L : List Nat} {M : mm_M} {a : Nat} {P : Ps} (bit : Int32) (i_a : a ∈ L) (m_a : M a = oP P) : mm_Cp l D dA yX0_kind wsX0_kind 1 [.ref a, .int bit] L M (kindF P bit) := by
  have m_a : M a = .inr (2, [.int P.1, .int P.2.1, .int P.2.2.1, .int P.2.2.2.1, .int P.2.2.2.2]) := m_a
  refine mm_enter_i (cc := cX0_kind) (maxL := 4) (by decide) rfl (Nat.le_of_ble_eq_true rfl) ?_
  intro p e R s m args below meth c A ls H locs Q hR hx hb hml hin hown hts hK hV hl hret
  have hl : lv_has ls 4 [(0, .ref a), (1, .int bit)] := hl
  have hown : s.vm.findClass RX0 = some m.cls := hown
  have f_74 := hts (.fieldLink RX0 74 "JumpBoard$Position" "mover" "I") (by decide +kernel)
  have in_X2 : ∀ w ∈ wsX20, w ∈ wsX0_kind := by decide +kernel
  refine lv_iload_n hx hb dX0_kind_0 rfl (lv_at hl 1 rfl) ?_
  refine mm_Sp (v := (ntzF bit)) (As := [.int bit]) (rest := []) ⟨hx, hb, hml, hown, hts⟩ hK hV (c_ntz l D dA bit) (va_cwS 1 hts gX0_kind_J6_numberOfTrailingZeros_0f7a4 rfl rfl rfl (by decide +kernel) (mm_levR hR (by omega) (by decide))) rfl hl.1 rfl (Nat.le_of_ble_eq_true rfl) dX0_kind_1 ⟨Nat.zero_le _, Nat.zero_le _⟩ (fun H locs hV => ?_)
  refine lv_bipush (v := 18) hx hb dX0_kind_4 (by decide) ?_
  refine lv_irem hx hb dX0_kind_6 (by decide) ?_
  refine lv_topi (fun x2_1 ex2_1 => ?_)
  refine lv_istore_n (lv' := [(2, .int x2_1), (0, .ref a), (1, .int bit)]) hx hb dX0_kind_7 rfl hl (by decide) rfl (fun ls hl => ?_)
  refine lv_aload_n hx hb dX0_kind_8 rfl (lv_at hl 1 rfl) ?_
  refine mm_get (ci := 2) (C := RX2) (T := TX2) (N := 5) hx hb hts in_X2 hown hK hV i_a m_a rfl 3 (by decide) f_74 (fun _ h => h) rfl dX0_kind_9 ?_
  have J23 : ∀ (v23_2 : Int32), v23_2 = (if P.2.2.2.1 = 0 then x2_1 else (17 - x2_1)) → W p l e R s m args below meth c H locs 0 0 Q (F0 m 23 ls [.int v23_2]) := by
    intro v23_2 ev23_2
    refine lv_istore_n (lv' := [(3, .int v23_2), (2, .int x2_1), (0, .ref a), (1, .int bit)]) hx hb dX0_kind_23 rfl hl (by decide) rfl (fun ls hl => ?_)
    refine lv_aload_n hx hb dX0_kind_24 rfl (lv_at hl 2 rfl) ?_
    refine lv_iload_n hx hb dX0_kind_25 rfl (lv_at hl 1 rfl) ?_
    refine mm_Vp (v := (kingP P x2_1)) (ci := 2) (As := [.int x2_1]) (rest := []) ⟨hx, hb, hml, hown, hts⟩ hK hV (c_isKing l D dA (P := P) x2_1 i_a m_a) (cwV 1 hts gX0_kind_X2_isKing rfl rfl rfl (by decide +kernel) (mm_levR hR (by omega) (by decide))) i_a m_a rfl rfl hl.1 rfl (Nat.le_of_ble_eq_true rfl) dX0_kind_26 ⟨Nat.zero_le _, Nat.zero_le _⟩ (fun H locs hV => ?_)
    have J40 : ∀ (v40_3 : Int32), v40_3 = (if kingP P x2_1 = 0 then v23_2 else (18 + v23_2)) → W p l e R s m args below meth c H locs 0 0 Q (F0 m 40 ls [.int v40_3]) := by
      intro v40_3 ev40_3
      exact hret (v := v40_3) dX0_kind_40 hV (by decide) (by decide) ⟨by subst_vars; rfl, rfl, rfl⟩
    refine lv_if_eq (tgt := 39) hx hb dX0_kind_29 (by decide) (fun c29 => ?_) (fun c29 => ?_)
    · refine lv_iload_n hx hb dX0_kind_39 rfl (lv_at hl 0 rfl) ?_
      exact J40 _ (by rw [if_pos c29])
    · refine lv_bipush (v := 18) hx hb dX0_kind_32 (by decide) ?_
      refine lv_iload_n hx hb dX0_kind_34 rfl (lv_at hl 0 rfl) ?_
      refine lv_iadd hx hb dX0_kind_35 ?_
      refine lv_goto (tgt := 40) hx hb dX0_kind_36 (by decide) ?_
      exact J40 _ (by rw [if_neg c29])
  refine lv_if_ne (tgt := 19) hx hb dX0_kind_12 (by decide) (fun c12 => ?_) (fun c12 => ?_)
  · refine lv_bipush (v := 17) hx hb dX0_kind_19 (by decide) ?_
    refine lv_iload_n hx hb dX0_kind_21 rfl (lv_at hl 0 rfl) ?_
    refine lv_isub hx hb dX0_kind_22 ?_
    exact J23 _ (by rw [if_neg c12])
  · refine lv_iload_n hx hb dX0_kind_15 rfl (lv_at hl 0 rfl) ?_
    refine lv_goto (tgt := 23) hx hb dX0_kind_16 (by decide) ?_
    exact J23 _ (by rw [if_pos c12])

set_option maxHeartbeats 1000000 in
set_option maxRecDepth 100000 in
theorem c_number (l : Launch) (D : va_G) (dA : Nat → ClassId) {L : List Nat} {M : mm_M} {a : Nat} {P : Ps} (i_a : a ∈ L) (m_a : M a = oP P) : mm_Cp l D dA yX0_number wsX0_number 2 [.ref a] L M (numF P) := by
  have m_a : M a = .inr (2, [.int P.1, .int P.2.1, .int P.2.2.1, .int P.2.2.2.1, .int P.2.2.2.2]) := m_a
  refine mm_enter_i (cc := cX0_number) (maxL := 1) (by decide) rfl (Nat.le_of_ble_eq_true rfl) ?_
  intro p e R s m args below meth c A ls H locs Q hR hx hb hml hin hown hts hK hV hl hret
  have hl : lv_has ls 1 [(0, .ref a)] := hl
  have hown : s.vm.findClass RX0 = some m.cls := hown
  refine lv_aload_n hx hb dX0_number_0 rfl (lv_at hl 0 rfl) ?_
  refine mm_Vp (v := (ownP P)) (ci := 2) (As := []) (rest := []) ⟨hx, hb, hml, hown, hts⟩ hK hV (c_own l D dA (P := P)  i_a m_a) (cwV 0 hts gX0_number_X2_own rfl rfl rfl (by decide +kernel) (mm_levR hR (by omega) (by decide))) i_a m_a rfl rfl hl.1 rfl (Nat.le_of_ble_eq_true rfl) dX0_number_1 ⟨Nat.zero_le _, Nat.zero_le _⟩ (fun H locs hV => ?_)
  refine lv_if_ne (tgt := 11) hx hb dX0_number_4 (by decide) (fun c4 => ?_) (fun c4 => ?_)
  · refine lv_aload_n hx hb dX0_number_11 rfl (lv_at hl 0 rfl) ?_
    refine lv_aload_n hx hb dX0_number_12 rfl (lv_at hl 0 rfl) ?_
    refine mm_Vp (v := (ownP P)) (ci := 2) (As := []) (rest := [.ref a]) ⟨hx, hb, hml, hown, hts⟩ hK hV (c_own l D dA (P := P)  i_a m_a) (cwV 0 hts gX0_number_X2_own rfl rfl rfl (by decide +kernel) (mm_levR hR (by omega) (by decide))) i_a m_a rfl rfl hl.1 rfl (Nat.le_of_ble_eq_true rfl) dX0_number_13 ⟨Nat.zero_le _, Nat.zero_le _⟩ (fun H locs hV => ?_)
    refine mm_Sp (v := (kindF P (ownP P))) (As := [.ref a, .int (ownP P)]) (rest := []) ⟨hx, hb, hml, hown, hts⟩ hK hV (c_kind l D dA (P := P) (ownP P) i_a m_a) (va_cwS 2 hts gX0_number_X0_kind rfl rfl rfl (by decide +kernel) (mm_levR hR (by omega) (by decide))) rfl hl.1 rfl (Nat.le_of_ble_eq_true rfl) dX0_number_16 ⟨Nat.zero_le _, Nat.zero_le _⟩ (fun H locs hV => ?_)
    refine lv_bipush (v := 36) hx hb dX0_number_19 (by decide) ?_
    refine lv_imul hx hb dX0_number_21 ?_
    refine lv_aload_n hx hb dX0_number_22 rfl (lv_at hl 0 rfl) ?_
    refine lv_aload_n hx hb dX0_number_23 rfl (lv_at hl 0 rfl) ?_
    refine mm_Vp (v := (othP P)) (ci := 2) (As := []) (rest := [.ref a, .int (kindF P (ownP P) * 36)]) ⟨hx, hb, hml, hown, hts⟩ hK hV (c_others l D dA (P := P)  i_a m_a) (cwV 0 hts gX0_number_X2_others rfl rfl rfl (by decide +kernel) (mm_levR hR (by omega) (by decide))) i_a m_a rfl rfl hl.1 rfl (Nat.le_of_ble_eq_true rfl) dX0_number_24 ⟨Nat.zero_le _, Nat.zero_le _⟩ (fun H locs hV => ?_)
    refine mm_Sp (v := (kindF P (othP P))) (As := [.ref a, .int (othP P)]) (rest := [.int (kindF P (ownP P) * 36)]) ⟨hx, hb, hml, hown, hts⟩ hK hV (c_kind l D dA (P := P) (othP P) i_a m_a) (va_cwS 2 hts gX0_number_X0_kind rfl rfl rfl (by decide +kernel) (mm_levR hR (by omega) (by decide))) rfl hl.1 rfl (Nat.le_of_ble_eq_true rfl) dX0_number_27 ⟨Nat.zero_le _, Nat.zero_le _⟩ (fun H locs hV => ?_)
    refine lv_iadd hx hb dX0_number_30 ?_
    exact hret (v := ((kindF P (ownP P) * 36) + kindF P (othP P))) dX0_number_31 hV (by decide) (by decide) ⟨by unfold numF; simp only [c4, ↓reduceIte], rfl, rfl⟩
  · refine lv_sipush (v := 1296) hx hb dX0_number_7 (by decide) ?_
    exact hret (v := 1296) dX0_number_10 hV (by decide) (by decide) ⟨by unfold numF; simp only [c4, ↓reduceIte], rfl, rfl⟩

set_option maxHeartbeats 1000000 in
set_option maxRecDepth 100000 in
theorem c_arrange (l : Launch) (D : va_G) (dA : Nat → ClassId) {L : List Nat} {M : mm_M} {a : Nat} {P : Ps} (x : Int32) (i_a : a ∈ L) (m_a : M a = oP P) : mm_Cn l D dA yX0_arrange wsX0_arrange 1 [.ref a, .int x] L M (fun r M1 => r = arrOK x ∧ M1 = if arrOK x = 0 then M else va_up M a (oP (arrP x))) := by
  have m_a : M a = .inr (2, [.int P.1, .int P.2.1, .int P.2.2.1, .int P.2.2.2.1, .int P.2.2.2.2]) := m_a
  refine mm_enter_z (cc := cX0_arrange) (maxL := 10) (by decide) rfl (Nat.le_of_ble_eq_true rfl) ?_
  intro p e R s m args below meth c A ls H locs Q hR hx hb hml hin hown hts hK hV hl hret
  have hl : lv_has ls 10 [(0, .ref a), (1, .int x)] := hl
  have hown : s.vm.findClass RX0 = some m.cls := hown
  refine lv_iload_n hx hb dX0_arrange_0 rfl (lv_at hl 1 rfl) ?_
  refine lv_bipush (v := 36) hx hb dX0_arrange_1 (by decide) ?_
  refine lv_idiv hx hb dX0_arrange_3 (by decide) ?_
  refine lv_topi (fun x2 ex2 => ?_)
  refine lv_istore_n (lv' := [(2, .int x2), (0, .ref a), (1, .int x)]) hx hb dX0_arrange_4 rfl hl (by decide) rfl (fun ls hl => ?_)
  refine lv_iload_n hx hb dX0_arrange_5 rfl (lv_at hl 2 rfl) ?_
  refine lv_bipush (v := 36) hx hb dX0_arrange_6 (by decide) ?_
  refine lv_irem hx hb dX0_arrange_8 (by decide) ?_
  refine lv_topi (fun x3 ex3 => ?_)
  refine lv_istore_n (lv' := [(3, .int x3), (2, .int x2), (0, .ref a), (1, .int x)]) hx hb dX0_arrange_9 rfl hl (by decide) rfl (fun ls hl => ?_)
  refine lv_iconst (v := 1) hx hb dX0_arrange_10 (by decide) ?_
  refine lv_iload_n hx hb dX0_arrange_11 rfl (lv_at hl 1 rfl) ?_
  refine lv_bipush (v := 18) hx hb dX0_arrange_12 (by decide) ?_
  refine lv_irem hx hb dX0_arrange_14 (by decide) ?_
  refine lv_ishl hx hb dX0_arrange_15 ?_
  refine lv_topi (fun x4 ex4 => ?_)
  refine lv_istore (lv' := [(4, .int x4), (3, .int x3), (2, .int x2), (0, .ref a), (1, .int x)]) hx hb dX0_arrange_16 hl (by decide) rfl (fun ls hl => ?_)
  have h4 : x4 = arS x := by rw [ex4, ex2]; rfl
  refine lv_iconst (v := 1) hx hb dX0_arrange_18 (by decide) ?_
  refine lv_iload_n hx hb dX0_arrange_19 rfl (lv_at hl 1 rfl) ?_
  refine lv_bipush (v := 18) hx hb dX0_arrange_20 (by decide) ?_
  refine lv_irem hx hb dX0_arrange_22 (by decide) ?_
  refine lv_ishl hx hb dX0_arrange_23 ?_
  refine lv_topi (fun x5 ex5 => ?_)
  refine lv_istore (lv' := [(5, .int x5), (4, .int x4), (3, .int x3), (2, .int x2), (0, .ref a), (1, .int x)]) hx hb dX0_arrange_24 hl (by decide) rfl (fun ls hl => ?_)
  have h5 : x5 = arT x := by rw [ex5, ex3]; rfl
  refine lv_iload_n hx hb dX0_arrange_26 rfl (lv_at hl 3 rfl) ?_
  refine lv_bipush (v := 18) hx hb dX0_arrange_27 (by decide) ?_
  have J37 : ∀ (v37 : Int32), v37 = (if x2 < 18 then 0 else 1) → W p l e R s m args below meth c H locs 0 0 Q (F0 m 37 ls [.int v37]) := by
    intro v37 ev37
    refine lv_istore (lv' := [(6, .int v37), (5, .int x5), (4, .int x4), (3, .int x3), (2, .int x2), (0, .ref a), (1, .int x)]) hx hb dX0_arrange_37 hl (by decide) rfl (fun ls hl => ?_)
    have h37 : v37 = arK x := by rw [ev37, ex2]; rfl
    refine lv_iload_n hx hb dX0_arrange_39 rfl (lv_at hl 3 rfl) ?_
    refine lv_bipush (v := 18) hx hb dX0_arrange_40 (by decide) ?_
    have J50 : ∀ (v50 : Int32), v50 = (if x3 < 18 then 0 else 1) → W p l e R s m args below meth c H locs 0 0 Q (F0 m 50 ls [.int v50]) := by
      intro v50 ev50
      refine lv_istore (lv' := [(7, .int v50), (6, .int v37), (5, .int x5), (4, .int x4), (3, .int x3), (2, .int x2), (0, .ref a), (1, .int x)]) hx hb dX0_arrange_50 hl (by decide) rfl (fun ls hl => ?_)
      have h50 : v50 = arL x := by rw [ev50, ex3]; rfl
      refine lv_iload hx hb dX0_arrange_52 (lv_at hl 1 rfl) ?_
      have J70 : ∀ (v70 : Int32), v70 = (if v37 = 0 then (if (x4 &&& 229376) = 0 then 0 else 1) else 0) → W p l e R s m args below meth c H locs 0 0 Q (F0 m 70 ls [.int v70]) := by
        intro v70 ev70
        refine lv_istore (lv' := [(8, .int v70), (7, .int v50), (6, .int v37), (5, .int x5), (4, .int x4), (3, .int x3), (2, .int x2), (0, .ref a), (1, .int x)]) hx hb dX0_arrange_70 hl (by decide) rfl (fun ls hl => ?_)
        have h70 : v70 = arU x := by rw [ev70, h37, h4]; rfl
        refine lv_iload hx hb dX0_arrange_72 (lv_at hl 1 rfl) ?_
        have J90 : ∀ (v90 : Int32), v90 = (if v50 = 0 then (if (x5 &&& 7) = 0 then 0 else 1) else 0) → W p l e R s m args below meth c H locs 0 0 Q (F0 m 90 ls [.int v90]) := by
          intro v90 ev90
          refine lv_istore (lv' := [(9, .int v90), (8, .int v70), (7, .int v50), (6, .int v37), (5, .int x5), (4, .int x4), (3, .int x3), (2, .int x2), (0, .ref a), (1, .int x)]) hx hb dX0_arrange_90 hl (by decide) rfl (fun ls hl => ?_)
          have h90 : v90 = arV x := by rw [ev90, h50, h5]; rfl
          refine lv_iload hx hb dX0_arrange_92 (lv_at hl 5 rfl) ?_
          refine lv_iload hx hb dX0_arrange_94 (lv_at hl 4 rfl) ?_
          refine lv_icmp_eq (tgt := 109) hx hb dX0_arrange_96 (by decide) (fun c96 => ?_) (fun c96 => ?_)
          · have hok0 : arrOK x = 0 := by unfold arrOK; rw [if_pos (by rw [← h4, ← h5]; exact c96)]
            refine lv_iconst (v := 0) hx hb dX0_arrange_109 (by decide) ?_
            exact hret (v := 0) dX0_arrange_110 hV (by decide) (by decide) (by subst_vars; (repeat' split) <;> first | exact Or.inl rfl | exact Or.inr rfl) ⟨rfl, hok0.symm, by rw [if_pos hok0]⟩
          · refine lv_iload hx hb dX0_arrange_99 (lv_at hl 1 rfl) ?_
            refine lv_if_ne (tgt := 109) hx hb dX0_arrange_101 (by decide) (fun c101 => ?_) (fun c101 => ?_)
            · have hok0 : arrOK x = 0 := by unfold arrOK; rw [if_neg (by rw [← h4, ← h5]; exact c96), if_neg (by rw [← h70]; exact c101)]
              refine lv_iconst (v := 0) hx hb dX0_arrange_109 (by decide) ?_
              exact hret (v := 0) dX0_arrange_110 hV (by decide) (by decide) (by subst_vars; (repeat' split) <;> first | exact Or.inl rfl | exact Or.inr rfl) ⟨rfl, hok0.symm, by rw [if_pos hok0]⟩
            · refine lv_iload hx hb dX0_arrange_104 (lv_at hl 0 rfl) ?_
              refine lv_if_eq (tgt := 111) hx hb dX0_arrange_106 (by decide) (fun c106 => ?_) (fun c106 => ?_)
              · have hok : arrOK x = 1 := by unfold arrOK; rw [if_neg (by rw [← h4, ← h5]; exact c96), if_pos (by rw [← h70]; exact c101), if_pos (by rw [← h90]; exact c106)]
                refine lv_aload_n hx hb dX0_arrange_111 rfl (lv_at hl 8 rfl) ?_
                refine mm_Vm (ci := 2) (As := []) (rest := []) ⟨hx, hb, hml, hown, hts⟩ hK hV (c_wipe l D dA (P := P) i_a m_a) (cwV 0 hts gX0_arrange_X2_wipe rfl rfl rfl (by decide +kernel) (mm_levR hR (by omega) (by decide))) i_a m_a rfl rfl hl.1 rfl (Nat.le_of_ble_eq_true rfl) dX0_arrange_112 ⟨Nat.zero_le _, Nat.zero_le _⟩ (fun M_1 H locs eM_1 hV => ?_)
                have m_a : M_1 a = .inr (2, [.int wipeP.1, .int wipeP.2.1, .int wipeP.2.2.1, .int wipeP.2.2.2.1, .int wipeP.2.2.2.2]) := by rw [eM_1]; exact va_up_self _ _ _
                have fr : ∀ q : Nat, q ≠ a → M_1 q = M q := fun q h0 => (congrFun eM_1 q).trans ((va_up_ne _ _ h0).trans rfl)
                refine lv_aload_n hx hb dX0_arrange_115 rfl (lv_at hl 8 rfl) ?_
                refine lv_iload hx hb dX0_arrange_116 (lv_at hl 5 rfl) ?_
                refine lv_iload hx hb dX0_arrange_118 (lv_at hl 3 rfl) ?_
                have J128 : ∀ (v128 : Int32), v128 = (if v37 = 0 then 1 else 2) → W p l e R s m args below meth c H locs 0 0 Q (F0 m 128 ls [.int v128, .int x4, .ref a]) := by
                  intro v128 ev128
                  refine mm_Vm (ci := 2) (As := [.int x4, .int v128]) (rest := []) ⟨hx, hb, hml, hown, hts⟩ hK hV (c_place l D dA (P := wipeP) x4 v128 i_a m_a) (cwV 2 hts gX0_arrange_X2_place rfl rfl rfl (by decide +kernel) (mm_levR hR (by omega) (by decide))) i_a m_a rfl rfl hl.1 rfl (Nat.le_of_ble_eq_true rfl) dX0_arrange_128 ⟨Nat.zero_le _, Nat.zero_le _⟩ (fun M_2 H locs eM_2 hV => ?_)
                  have m_a : M_2 a = .inr (2, [.int ((placeP wipeP x4 v128).1), .int ((placeP wipeP x4 v128).2.1), .int ((placeP wipeP x4 v128).2.2.1), .int ((placeP wipeP x4 v128).2.2.2.1), .int ((placeP wipeP x4 v128).2.2.2.2)]) := by rw [eM_2]; exact va_up_self _ _ _
                  have fr : ∀ q : Nat, q ≠ a → M_2 q = M q := fun q h0 => (congrFun eM_2 q).trans ((va_up_ne _ _ h0).trans (fr q h0))
                  refine lv_aload_n hx hb dX0_arrange_131 rfl (lv_at hl 8 rfl) ?_
                  refine lv_iload hx hb dX0_arrange_132 (lv_at hl 4 rfl) ?_
                  refine lv_iload hx hb dX0_arrange_134 (lv_at hl 2 rfl) ?_
                  have J144 : ∀ (v144 : Int32), v144 = (if v50 = 0 then 3 else 4) → W p l e R s m args below meth c H locs 0 0 Q (F0 m 144 ls [.int v144, .int x5, .ref a]) := by
                    intro v144 ev144
                    refine mm_Vm (ci := 2) (As := [.int x5, .int v144]) (rest := []) ⟨hx, hb, hml, hown, hts⟩ hK hV (c_place l D dA (P := (placeP wipeP x4 v128)) x5 v144 i_a m_a) (cwV 2 hts gX0_arrange_X2_place rfl rfl rfl (by decide +kernel) (mm_levR hR (by omega) (by decide))) i_a m_a rfl rfl hl.1 rfl (Nat.le_of_ble_eq_true rfl) dX0_arrange_144 ⟨Nat.zero_le _, Nat.zero_le _⟩ (fun M_3 H locs eM_3 hV => ?_)
                    have m_a : M_3 a = .inr (2, [.int ((placeP (placeP wipeP x4 v128) x5 v144).1), .int ((placeP (placeP wipeP x4 v128) x5 v144).2.1), .int ((placeP (placeP wipeP x4 v128) x5 v144).2.2.1), .int ((placeP (placeP wipeP x4 v128) x5 v144).2.2.2.1), .int ((placeP (placeP wipeP x4 v128) x5 v144).2.2.2.2)]) := by rw [eM_3]; exact va_up_self _ _ _
                    have fr : ∀ q : Nat, q ≠ a → M_3 q = M q := fun q h0 => (congrFun eM_3 q).trans ((va_up_ne _ _ h0).trans (fr q h0))
                    refine lv_iconst (v := 1) hx hb dX0_arrange_147 (by decide) ?_
                    exact hret (v := 1) dX0_arrange_148 hV (by decide) (by decide) (by subst_vars; (repeat' split) <;> first | exact Or.inl rfl | exact Or.inr rfl) ⟨rfl, hok.symm, by rw [if_neg (by rw [hok]; decide)]; exact mm_fin1 (m_a.trans (by rw [ev144, ev128, h37, h50, h4, h5]; rfl)) fr⟩
                  refine lv_if_eq (tgt := 143) hx hb dX0_arrange_136 (by decide) (fun c136 => ?_) (fun c136 => ?_)
                  · refine lv_iconst (v := 3) hx hb dX0_arrange_143 (by decide) ?_
                    exact J144 _ (by rw [if_pos c136])
                  · refine lv_iconst (v := 4) hx hb dX0_arrange_139 (by decide) ?_
                    refine lv_goto (tgt := 144) hx hb dX0_arrange_140 (by decide) ?_
                    exact J144 _ (by rw [if_neg c136])
                refine lv_if_eq (tgt := 127) hx hb dX0_arrange_120 (by decide) (fun c120 => ?_) (fun c120 => ?_)
                · refine lv_iconst (v := 1) hx hb dX0_arrange_127 (by decide) ?_
                  exact J128 _ (by rw [if_pos c120])
                · refine lv_iconst (v := 2) hx hb dX0_arrange_123 (by decide) ?_
                  refine lv_goto (tgt := 128) hx hb dX0_arrange_124 (by decide) ?_
                  exact J128 _ (by rw [if_neg c120])
              · have hok0 : arrOK x = 0 := by unfold arrOK; rw [if_neg (by rw [← h4, ← h5]; exact c96), if_pos (by rw [← h70]; exact c101), if_neg (by rw [← h90]; exact c106)]
                refine lv_iconst (v := 0) hx hb dX0_arrange_109 (by decide) ?_
                exact hret (v := 0) dX0_arrange_110 hV (by decide) (by decide) (by subst_vars; (repeat' split) <;> first | exact Or.inl rfl | exact Or.inr rfl) ⟨rfl, hok0.symm, by rw [if_pos hok0]⟩
        refine lv_if_ne (tgt := 89) hx hb dX0_arrange_74 (by decide) (fun c74 => ?_) (fun c74 => ?_)
        · refine lv_iconst (v := 0) hx hb dX0_arrange_89 (by decide) ?_
          exact J90 _ (by rw [if_neg c74])
        · refine lv_iload hx hb dX0_arrange_77 (lv_at hl 3 rfl) ?_
          refine lv_bipush (v := 7) hx hb dX0_arrange_79 (by decide) ?_
          refine lv_iand hx hb dX0_arrange_81 ?_
          refine lv_if_eq (tgt := 89) hx hb dX0_arrange_82 (by decide) (fun c82 => ?_) (fun c82 => ?_)
          · refine lv_iconst (v := 0) hx hb dX0_arrange_89 (by decide) ?_
            exact J90 _ (by rw [if_pos c74, if_pos c82])
          · refine lv_iconst (v := 1) hx hb dX0_arrange_85 (by decide) ?_
            refine lv_goto (tgt := 90) hx hb dX0_arrange_86 (by decide) ?_
            exact J90 _ (by rw [if_pos c74, if_neg c82])
      refine lv_if_ne (tgt := 69) hx hb dX0_arrange_54 (by decide) (fun c54 => ?_) (fun c54 => ?_)
      · refine lv_iconst (v := 0) hx hb dX0_arrange_69 (by decide) ?_
        exact J70 _ (by rw [if_neg c54])
      · refine lv_iload hx hb dX0_arrange_57 (lv_at hl 3 rfl) ?_
        refine lv_ldc hx hb hown (hts (.constant RX0 49 (229376)) (by decide +kernel)) dX0_arrange_59 ?_
        refine lv_iand hx hb dX0_arrange_61 ?_
        refine lv_if_eq (tgt := 69) hx hb dX0_arrange_62 (by decide) (fun c62 => ?_) (fun c62 => ?_)
        · refine lv_iconst (v := 0) hx hb dX0_arrange_69 (by decide) ?_
          exact J70 _ (by rw [if_pos c54, if_pos c62])
        · refine lv_iconst (v := 1) hx hb dX0_arrange_65 (by decide) ?_
          refine lv_goto (tgt := 70) hx hb dX0_arrange_66 (by decide) ?_
          exact J70 _ (by rw [if_pos c54, if_neg c62])
    refine lv_icmp_lt (tgt := 49) hx hb dX0_arrange_42 (by decide) (fun c42 => ?_) (fun c42 => ?_)
    · refine lv_iconst (v := 0) hx hb dX0_arrange_49 (by decide) ?_
      exact J50 _ (by rw [if_pos c42])
    · refine lv_iconst (v := 1) hx hb dX0_arrange_45 (by decide) ?_
      refine lv_goto (tgt := 50) hx hb dX0_arrange_46 (by decide) ?_
      exact J50 _ (by rw [if_neg c42])
  refine lv_icmp_lt (tgt := 36) hx hb dX0_arrange_29 (by decide) (fun c29 => ?_) (fun c29 => ?_)
  · refine lv_iconst (v := 0) hx hb dX0_arrange_36 (by decide) ?_
    exact J37 _ (by rw [if_pos c29])
  · refine lv_iconst (v := 1) hx hb dX0_arrange_32 (by decide) ?_
    refine lv_goto (tgt := 37) hx hb dX0_arrange_33 (by decide) ?_
    exact J37 _ (by rw [if_neg c29])
