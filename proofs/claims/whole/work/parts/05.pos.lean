/-! Positions: five ints (white, black, kings, mover, kingSteps) -/
abbrev Ps : Type := Int32 × Int32 × Int32 × Int32 × Int32
def oP (P : Ps) : va_E := .inr (2, [.int P.1, .int P.2.1, .int P.2.2.1, .int P.2.2.2.1, .int P.2.2.2.2])
theorem mm_fin1 {M M1 : mm_M} {a : Nat} {e : va_E} (h : M1 a = e) (fr : ∀ q : Nat, q ≠ a → M1 q = M q) : M1 = va_up M a e := by
  funext q
  by_cases hq : q = a
  · subst hq; rw [va_up_self]; exact h
  · rw [va_up_ne _ _ hq]; exact fr q hq
theorem mm_fin2 {M M1 : mm_M} {a b : Nat} {e f : va_E} (h : M1 a = e) (h2 : M1 b = f) (hab : a ≠ b) (fr : ∀ q : Nat, q ≠ a → q ≠ b → M1 q = M q) : M1 = va_up (va_up M a e) b f := by
  funext q
  by_cases hq : q = b
  · subst hq; rw [va_up_self]; exact h2
  · rw [va_up_ne _ _ hq]
    by_cases hq2 : q = a
    · subst hq2; rw [va_up_self]; exact h
    · rw [va_up_ne _ _ hq2]; exact fr q hq2 hq
/-- what a move's int says -/
def mvB (x : Int32) : Int32 := (x >>> ((23 : Int32) &&& 31)) &&& 31
def mvE (x : Int32) : Int32 := (x >>> ((18 : Int32) &&& 31)) &&& 31
def mvT (x : Int32) : Int32 := x &&& 262143
def ush (x k : Int32) : Int32 := (x.toUInt32 >>> (k.toUInt32 &&& Int32.toUInt32 31)).toInt32
/-- Integer.bitCount, as its code goes -/
def bitC (x : Int32) : Int32 :=
  let a := x - (ush x 1 &&& 1431655765)
  let b := (a &&& 858993459) + (ush a 2 &&& 858993459)
  let c := (b + ush b 4) &&& 252645135
  let d := c + ush c 8
  let f := d + ush d 16
  f &&& 63
def ownP (P : Ps) : Int32 := if P.2.2.2.1 = 0 then P.1 else P.2.1
def othP (P : Ps) : Int32 := if P.2.2.2.1 = 0 then P.2.1 else P.1
def kingP (P : Ps) (q : Int32) : Int32 := if (P.2.2.1 >>> (q &&& 31)) &&& 1 = 0 then 0 else 1
def oneP (P : Ps) : Int32 := if bitC P.1 = 1 then (if bitC P.2.1 = 1 then 1 else 0) else 0
def pieceP (P : Ps) (bit : Int32) : Int32 := if P.1 &&& bit = 0 then (if P.2.1 &&& bit = 0 then 0 else (if P.2.2.1 &&& bit = 0 then 3 else 4)) else (if P.2.2.1 &&& bit = 0 then 1 else 2)
def placeP (P : Ps) (bit pc : Int32) : Ps :=
  (if pc = 1 ∨ pc = 2 then (P.1 &&& (bit ^^^ (-1))) ||| bit else P.1 &&& (bit ^^^ (-1)), if pc = 3 ∨ pc = 4 then (P.2.1 &&& (bit ^^^ (-1))) ||| bit else P.2.1 &&& (bit ^^^ (-1)), if pc = 2 ∨ pc = 4 then (P.2.2.1 &&& (bit ^^^ (-1))) ||| bit else P.2.2.1 &&& (bit ^^^ (-1)), P.2.2.2.1, P.2.2.2.2)
def setUpP : Ps := (63, 258048, 0, 0, 0)
def wipeP : Ps := (0, 0, 0, 0, 0)
def balP (P : Ps) : Int32 := (2 * bitC (ownP P) + bitC (ownP P &&& P.2.2.1)) - (2 * bitC (othP P) + bitC (othP P &&& P.2.2.1))
def followP (P : Ps) (x : Int32) : Ps :=
  let st := (1 : Int32) <<< (mvB x &&& 31)
  let go := (1 : Int32) <<< (mvE x &&& 31)
  let tk := mvT x
  let kg := P.2.2.1 &&& (st ^^^ (-1)) &&& (tk ^^^ (-1))
  if P.2.2.2.1 = 0 then
    (P.1 &&& (st ^^^ (-1)) ||| go, P.2.1 &&& (tk ^^^ (-1)), (if P.2.2.1 &&& st = 0 then (if go &&& 229376 = 0 then kg else kg ||| go) else kg ||| go), 1, (if P.2.2.1 &&& st = 0 then 0 else (if tk = 0 then P.2.2.2.2 + 1 else 0)))
  else
    (P.1 &&& (tk ^^^ (-1)), P.2.1 &&& (st ^^^ (-1)) ||| go, (if P.2.2.1 &&& st = 0 then (if go &&& 7 = 0 then kg else kg ||| go) else kg ||| go), 0, (if P.2.2.1 &&& st = 0 then 0 else (if tk = 0 then P.2.2.2.2 + 1 else 0)))

set_option maxHeartbeats 1000000 in
set_option maxRecDepth 100000 in
theorem c_X1_beginning (l : Launch) (D : va_G) (dA : Nat → ClassId) {L : List Nat} {M : mm_M} (x : Int32)  : mm_Cp l D dA yX1_beginning wsX1_beginning 0 [.int x] L M (mvB x) := by
  refine mm_enter_i (cc := cX1_beginning) (maxL := 1) (by decide) rfl (Nat.le_of_ble_eq_true rfl) ?_
  intro p e R s m args below meth c A ls H locs Q hR hx hb hml hin hown hts hK hV hl hret
  have hl : lv_has ls 1 [(0, .int x)] := hl
  have hown : s.vm.findClass RX1 = some m.cls := hown
  refine lv_iload_n hx hb dX1_beginning_0 rfl (lv_at hl 0 rfl) ?_
  refine lv_bipush (v := 23) hx hb dX1_beginning_1 (by decide) ?_
  refine lv_ishr hx hb dX1_beginning_3 ?_
  refine lv_bipush (v := 31) hx hb dX1_beginning_4 (by decide) ?_
  refine lv_iand hx hb dX1_beginning_6 ?_
  exact hret (v := ((x >>> (23 &&& 31)) &&& 31)) dX1_beginning_7 hV (by decide) (by decide) ⟨rfl, rfl, rfl⟩

set_option maxHeartbeats 1000000 in
set_option maxRecDepth 100000 in
theorem c_X1_end (l : Launch) (D : va_G) (dA : Nat → ClassId) {L : List Nat} {M : mm_M} (x : Int32)  : mm_Cp l D dA yX1_end wsX1_end 0 [.int x] L M (mvE x) := by
  refine mm_enter_i (cc := cX1_end) (maxL := 1) (by decide) rfl (Nat.le_of_ble_eq_true rfl) ?_
  intro p e R s m args below meth c A ls H locs Q hR hx hb hml hin hown hts hK hV hl hret
  have hl : lv_has ls 1 [(0, .int x)] := hl
  have hown : s.vm.findClass RX1 = some m.cls := hown
  refine lv_iload_n hx hb dX1_end_0 rfl (lv_at hl 0 rfl) ?_
  refine lv_bipush (v := 18) hx hb dX1_end_1 (by decide) ?_
  refine lv_ishr hx hb dX1_end_3 ?_
  refine lv_bipush (v := 31) hx hb dX1_end_4 (by decide) ?_
  refine lv_iand hx hb dX1_end_6 ?_
  exact hret (v := ((x >>> (18 &&& 31)) &&& 31)) dX1_end_7 hV (by decide) (by decide) ⟨rfl, rfl, rfl⟩

set_option maxHeartbeats 1000000 in
set_option maxRecDepth 100000 in
theorem c_X1_taken (l : Launch) (D : va_G) (dA : Nat → ClassId) {L : List Nat} {M : mm_M} (x : Int32)  : mm_Cp l D dA yX1_taken wsX1_taken 0 [.int x] L M (mvT x) := by
  refine mm_enter_i (cc := cX1_taken) (maxL := 1) (by decide) rfl (Nat.le_of_ble_eq_true rfl) ?_
  intro p e R s m args below meth c A ls H locs Q hR hx hb hml hin hown hts hK hV hl hret
  have hl : lv_has ls 1 [(0, .int x)] := hl
  have hown : s.vm.findClass RX1 = some m.cls := hown
  refine lv_iload_n hx hb dX1_taken_0 rfl (lv_at hl 0 rfl) ?_
  refine lv_ldc hx hb hown (hts (.constant RX1 15 (262143)) (by decide +kernel)) dX1_taken_1 ?_
  refine lv_iand hx hb dX1_taken_3 ?_
  exact hret (v := (x &&& 262143)) dX1_taken_4 hV (by decide) (by decide) ⟨rfl, rfl, rfl⟩

set_option maxHeartbeats 1000000 in
set_option maxRecDepth 100000 in
theorem c_bitCount (l : Launch) (D : va_G) (dA : Nat → ClassId) {L : List Nat} {M : mm_M} (x : Int32)  : mm_Cp l D dA yJ6_bitCount_0f7a4 wsJ6_bitCount_0f7a4 0 [.int x] L M (bitC x) := by
  refine mm_enter_i (cc := cJ6_bitCount_0f7a4) (maxL := 1) (by decide) rfl (Nat.le_of_ble_eq_true rfl) ?_
  intro p e R s m args below meth c A ls H locs Q hR hx hb hml hin hown hts hK hV hl hret
  have hl : lv_has ls 1 [(0, .int x)] := hl
  have hown : s.vm.findClass RJ6 = some m.cls := hown
  refine lv_iload_n hx hb dJ6_bitCount_0f7a4_0 rfl (lv_at hl 0 rfl) ?_
  refine lv_iload_n hx hb dJ6_bitCount_0f7a4_1 rfl (lv_at hl 0 rfl) ?_
  refine lv_iconst (v := 1) hx hb dJ6_bitCount_0f7a4_2 (by decide) ?_
  refine lv_iushr hx hb dJ6_bitCount_0f7a4_3 rfl ?_
  refine lv_ldcw hx hb hown (hts (.constant RJ6 265 (1431655765)) (by decide +kernel)) dJ6_bitCount_0f7a4_4 ?_
  refine lv_iand hx hb dJ6_bitCount_0f7a4_7 ?_
  refine lv_isub hx hb dJ6_bitCount_0f7a4_8 ?_
  refine lv_topi (fun x0_1 ex0_1 => ?_)
  refine lv_istore_n (lv' := [(0, .int x0_1)]) hx hb dJ6_bitCount_0f7a4_9 rfl hl (by decide) rfl (fun ls hl => ?_)
  refine lv_iload_n hx hb dJ6_bitCount_0f7a4_10 rfl (lv_at hl 0 rfl) ?_
  refine lv_ldcw hx hb hown (hts (.constant RJ6 266 (858993459)) (by decide +kernel)) dJ6_bitCount_0f7a4_11 ?_
  refine lv_iand hx hb dJ6_bitCount_0f7a4_14 ?_
  refine lv_iload_n hx hb dJ6_bitCount_0f7a4_15 rfl (lv_at hl 0 rfl) ?_
  refine lv_iconst (v := 2) hx hb dJ6_bitCount_0f7a4_16 (by decide) ?_
  refine lv_iushr hx hb dJ6_bitCount_0f7a4_17 rfl ?_
  refine lv_ldcw hx hb hown (hts (.constant RJ6 266 (858993459)) (by decide +kernel)) dJ6_bitCount_0f7a4_18 ?_
  refine lv_iand hx hb dJ6_bitCount_0f7a4_21 ?_
  refine lv_iadd hx hb dJ6_bitCount_0f7a4_22 ?_
  refine lv_topi (fun x0_2 ex0_2 => ?_)
  refine lv_istore_n (lv' := [(0, .int x0_2)]) hx hb dJ6_bitCount_0f7a4_23 rfl hl (by decide) rfl (fun ls hl => ?_)
  refine lv_iload_n hx hb dJ6_bitCount_0f7a4_24 rfl (lv_at hl 0 rfl) ?_
  refine lv_iload_n hx hb dJ6_bitCount_0f7a4_25 rfl (lv_at hl 0 rfl) ?_
  refine lv_iconst (v := 4) hx hb dJ6_bitCount_0f7a4_26 (by decide) ?_
  refine lv_iushr hx hb dJ6_bitCount_0f7a4_27 rfl ?_
  refine lv_iadd hx hb dJ6_bitCount_0f7a4_28 ?_
  refine lv_ldcw hx hb hown (hts (.constant RJ6 267 (252645135)) (by decide +kernel)) dJ6_bitCount_0f7a4_29 ?_
  refine lv_iand hx hb dJ6_bitCount_0f7a4_32 ?_
  refine lv_topi (fun x0_3 ex0_3 => ?_)
  refine lv_istore_n (lv' := [(0, .int x0_3)]) hx hb dJ6_bitCount_0f7a4_33 rfl hl (by decide) rfl (fun ls hl => ?_)
  refine lv_iload_n hx hb dJ6_bitCount_0f7a4_34 rfl (lv_at hl 0 rfl) ?_
  refine lv_iload_n hx hb dJ6_bitCount_0f7a4_35 rfl (lv_at hl 0 rfl) ?_
  refine lv_bipush (v := 8) hx hb dJ6_bitCount_0f7a4_36 (by decide) ?_
  refine lv_iushr hx hb dJ6_bitCount_0f7a4_38 rfl ?_
  refine lv_iadd hx hb dJ6_bitCount_0f7a4_39 ?_
  refine lv_topi (fun x0_4 ex0_4 => ?_)
  refine lv_istore_n (lv' := [(0, .int x0_4)]) hx hb dJ6_bitCount_0f7a4_40 rfl hl (by decide) rfl (fun ls hl => ?_)
  refine lv_iload_n hx hb dJ6_bitCount_0f7a4_41 rfl (lv_at hl 0 rfl) ?_
  refine lv_iload_n hx hb dJ6_bitCount_0f7a4_42 rfl (lv_at hl 0 rfl) ?_
  refine lv_bipush (v := 16) hx hb dJ6_bitCount_0f7a4_43 (by decide) ?_
  refine lv_iushr hx hb dJ6_bitCount_0f7a4_45 rfl ?_
  refine lv_iadd hx hb dJ6_bitCount_0f7a4_46 ?_
  refine lv_topi (fun x0_5 ex0_5 => ?_)
  refine lv_istore_n (lv' := [(0, .int x0_5)]) hx hb dJ6_bitCount_0f7a4_47 rfl hl (by decide) rfl (fun ls hl => ?_)
  refine lv_iload_n hx hb dJ6_bitCount_0f7a4_48 rfl (lv_at hl 0 rfl) ?_
  refine lv_bipush (v := 63) hx hb dJ6_bitCount_0f7a4_49 (by decide) ?_
  refine lv_iand hx hb dJ6_bitCount_0f7a4_51 ?_
  exact hret (v := (x0_5 &&& 63)) dJ6_bitCount_0f7a4_52 hV (by decide) (by decide) ⟨by subst_vars; rfl, rfl, rfl⟩

set_option maxHeartbeats 1000000 in
set_option maxRecDepth 100000 in
theorem c_own (l : Launch) (D : va_G) (dA : Nat → ClassId) {L : List Nat} {M : mm_M} {a : Nat} {P : Ps} (i_a : a ∈ L) (m_a : M a = oP P) : mm_Cp l D dA yX2_own wsX2_own 0 [.ref a] L M (ownP P) := by
  obtain ⟨w, b, k, mv, q⟩ := P
  have m_a : M a = .inr (2, [.int w, .int b, .int k, .int mv, .int q]) := m_a
  refine mm_enter_i (cc := cX2_own) (maxL := 1) (by decide) rfl (Nat.le_of_ble_eq_true rfl) ?_
  intro p e R s m args below meth c A ls H locs Q hR hx hb hml hin hown hts hK hV hl hret
  have hl : lv_has ls 1 [(0, .ref a)] := hl
  have hown : s.vm.findClass RX2 = some m.cls := hown
  have f_21 := hts (.fieldLink RX2 21 "JumpBoard$Position" "mover" "I") (by decide +kernel)
  have in_X2 : ∀ w ∈ wsX20, w ∈ wsX2_own := by decide +kernel
  have f_15 := hts (.fieldLink RX2 15 "JumpBoard$Position" "black" "I") (by decide +kernel)
  have f_9 := hts (.fieldLink RX2 9 "JumpBoard$Position" "white" "I") (by decide +kernel)
  refine lv_aload_n hx hb dX2_own_0 rfl (lv_at hl 0 rfl) ?_
  refine mm_get (ci := 2) (C := RX2) (T := TX2) (N := 5) hx hb hts in_X2 hown hK hV i_a m_a rfl 3 (by decide) f_21 (fun _ h => h) rfl dX2_own_1 ?_
  have J18 : ∀ (v18_1 : Int32), v18_1 = (if mv = 0 then w else b) → W p l e R s m args below meth c H locs 0 0 Q (F0 m 18 ls [.int v18_1]) := by
    intro v18_1 ev18_1
    exact hret (v := v18_1) dX2_own_18 hV (by decide) (by decide) ⟨by subst_vars; rfl, rfl, rfl⟩
  refine lv_if_ne (tgt := 14) hx hb dX2_own_4 (by decide) (fun c4 => ?_) (fun c4 => ?_)
  · refine lv_aload_n hx hb dX2_own_14 rfl (lv_at hl 0 rfl) ?_
    refine mm_get (ci := 2) (C := RX2) (T := TX2) (N := 5) hx hb hts in_X2 hown hK hV i_a m_a rfl 1 (by decide) f_15 (fun _ h => h) rfl dX2_own_15 ?_
    exact J18 _ (by rw [if_neg c4])
  · refine lv_aload_n hx hb dX2_own_7 rfl (lv_at hl 0 rfl) ?_
    refine mm_get (ci := 2) (C := RX2) (T := TX2) (N := 5) hx hb hts in_X2 hown hK hV i_a m_a rfl 0 (by decide) f_9 (fun _ h => h) rfl dX2_own_8 ?_
    refine lv_goto (tgt := 18) hx hb dX2_own_11 (by decide) ?_
    exact J18 _ (by rw [if_pos c4])

set_option maxHeartbeats 1000000 in
set_option maxRecDepth 100000 in
theorem c_others (l : Launch) (D : va_G) (dA : Nat → ClassId) {L : List Nat} {M : mm_M} {a : Nat} {P : Ps} (i_a : a ∈ L) (m_a : M a = oP P) : mm_Cp l D dA yX2_others wsX2_others 0 [.ref a] L M (othP P) := by
  obtain ⟨w, b, k, mv, q⟩ := P
  have m_a : M a = .inr (2, [.int w, .int b, .int k, .int mv, .int q]) := m_a
  refine mm_enter_i (cc := cX2_others) (maxL := 1) (by decide) rfl (Nat.le_of_ble_eq_true rfl) ?_
  intro p e R s m args below meth c A ls H locs Q hR hx hb hml hin hown hts hK hV hl hret
  have hl : lv_has ls 1 [(0, .ref a)] := hl
  have hown : s.vm.findClass RX2 = some m.cls := hown
  have f_21 := hts (.fieldLink RX2 21 "JumpBoard$Position" "mover" "I") (by decide +kernel)
  have in_X2 : ∀ w ∈ wsX20, w ∈ wsX2_others := by decide +kernel
  have f_9 := hts (.fieldLink RX2 9 "JumpBoard$Position" "white" "I") (by decide +kernel)
  have f_15 := hts (.fieldLink RX2 15 "JumpBoard$Position" "black" "I") (by decide +kernel)
  refine lv_aload_n hx hb dX2_others_0 rfl (lv_at hl 0 rfl) ?_
  refine mm_get (ci := 2) (C := RX2) (T := TX2) (N := 5) hx hb hts in_X2 hown hK hV i_a m_a rfl 3 (by decide) f_21 (fun _ h => h) rfl dX2_others_1 ?_
  have J18 : ∀ (v18_1 : Int32), v18_1 = (if mv = 0 then b else w) → W p l e R s m args below meth c H locs 0 0 Q (F0 m 18 ls [.int v18_1]) := by
    intro v18_1 ev18_1
    exact hret (v := v18_1) dX2_others_18 hV (by decide) (by decide) ⟨by subst_vars; rfl, rfl, rfl⟩
  refine lv_if_ne (tgt := 14) hx hb dX2_others_4 (by decide) (fun c4 => ?_) (fun c4 => ?_)
  · refine lv_aload_n hx hb dX2_others_14 rfl (lv_at hl 0 rfl) ?_
    refine mm_get (ci := 2) (C := RX2) (T := TX2) (N := 5) hx hb hts in_X2 hown hK hV i_a m_a rfl 0 (by decide) f_9 (fun _ h => h) rfl dX2_others_15 ?_
    exact J18 _ (by rw [if_neg c4])
  · refine lv_aload_n hx hb dX2_others_7 rfl (lv_at hl 0 rfl) ?_
    refine mm_get (ci := 2) (C := RX2) (T := TX2) (N := 5) hx hb hts in_X2 hown hK hV i_a m_a rfl 1 (by decide) f_15 (fun _ h => h) rfl dX2_others_8 ?_
    refine lv_goto (tgt := 18) hx hb dX2_others_11 (by decide) ?_
    exact J18 _ (by rw [if_pos c4])

set_option maxHeartbeats 1000000 in
set_option maxRecDepth 100000 in
theorem c_isKing (l : Launch) (D : va_G) (dA : Nat → ClassId) {L : List Nat} {M : mm_M} {a : Nat} {P : Ps} (sq : Int32) (i_a : a ∈ L) (m_a : M a = oP P) : mm_Cp l D dA yX2_isKing wsX2_isKing 0 [.ref a, .int sq] L M (kingP P sq) := by
  obtain ⟨w, b, k, mv, q⟩ := P
  have m_a : M a = .inr (2, [.int w, .int b, .int k, .int mv, .int q]) := m_a
  refine mm_enter_z (cc := cX2_isKing) (maxL := 2) (by decide) rfl (Nat.le_of_ble_eq_true rfl) ?_
  intro p e R s m args below meth c A ls H locs Q hR hx hb hml hin hown hts hK hV hl hret
  have hl : lv_has ls 2 [(0, .ref a), (1, .int sq)] := hl
  have hown : s.vm.findClass RX2 = some m.cls := hown
  have f_18 := hts (.fieldLink RX2 18 "JumpBoard$Position" "kings" "I") (by decide +kernel)
  have in_X2 : ∀ w ∈ wsX20, w ∈ wsX2_isKing := by decide +kernel
  refine lv_aload_n hx hb dX2_isKing_0 rfl (lv_at hl 0 rfl) ?_
  refine mm_get (ci := 2) (C := RX2) (T := TX2) (N := 5) hx hb hts in_X2 hown hK hV i_a m_a rfl 2 (by decide) f_18 (fun _ h => h) rfl dX2_isKing_1 ?_
  refine lv_iload_n hx hb dX2_isKing_4 rfl (lv_at hl 1 rfl) ?_
  refine lv_ishr hx hb dX2_isKing_5 ?_
  refine lv_iconst (v := 1) hx hb dX2_isKing_6 (by decide) ?_
  refine lv_iand hx hb dX2_isKing_7 ?_
  have J16 : ∀ (v16_1 : Int32), v16_1 = (if ((k >>> (sq &&& 31)) &&& 1) = 0 then 0 else 1) → W p l e R s m args below meth c H locs 0 0 Q (F0 m 16 ls [.int v16_1]) := by
    intro v16_1 ev16_1
    exact hret (v := v16_1) dX2_isKing_16 hV (by decide) (by decide) (by subst_vars; (repeat' split) <;> first | exact Or.inl rfl | exact Or.inr rfl) ⟨by subst_vars; rfl, rfl, rfl⟩
  refine lv_if_eq (tgt := 15) hx hb dX2_isKing_8 (by decide) (fun c8 => ?_) (fun c8 => ?_)
  · refine lv_iconst (v := 0) hx hb dX2_isKing_15 (by decide) ?_
    exact J16 _ (by rw [if_pos c8])
  · refine lv_iconst (v := 1) hx hb dX2_isKing_11 (by decide) ?_
    refine lv_goto (tgt := 16) hx hb dX2_isKing_12 (by decide) ?_
    exact J16 _ (by rw [if_neg c8])

set_option maxHeartbeats 1000000 in
set_option maxRecDepth 100000 in
theorem c_isOneEach (l : Launch) (D : va_G) (dA : Nat → ClassId) {L : List Nat} {M : mm_M} {a : Nat} {P : Ps} (i_a : a ∈ L) (m_a : M a = oP P) : mm_Cp l D dA yX2_isOneEach wsX2_isOneEach 1 [.ref a] L M (oneP P) := by
  obtain ⟨w, b, k, mv, q⟩ := P
  have m_a : M a = .inr (2, [.int w, .int b, .int k, .int mv, .int q]) := m_a
  refine mm_enter_z (cc := cX2_isOneEach) (maxL := 1) (by decide) rfl (Nat.le_of_ble_eq_true rfl) ?_
  intro p e R s m args below meth c A ls H locs Q hR hx hb hml hin hown hts hK hV hl hret
  have hl : lv_has ls 1 [(0, .ref a)] := hl
  have hown : s.vm.findClass RX2 = some m.cls := hown
  have f_9 := hts (.fieldLink RX2 9 "JumpBoard$Position" "white" "I") (by decide +kernel)
  have in_X2 : ∀ w ∈ wsX20, w ∈ wsX2_isOneEach := by decide +kernel
  have f_15 := hts (.fieldLink RX2 15 "JumpBoard$Position" "black" "I") (by decide +kernel)
  refine lv_aload_n hx hb dX2_isOneEach_0 rfl (lv_at hl 0 rfl) ?_
  refine mm_get (ci := 2) (C := RX2) (T := TX2) (N := 5) hx hb hts in_X2 hown hK hV i_a m_a rfl 0 (by decide) f_9 (fun _ h => h) rfl dX2_isOneEach_1 ?_
  refine mm_Sp (v := (bitC w)) (As := [.int w]) (rest := []) ⟨hx, hb, hml, hown, hts⟩ hK hV (c_bitCount l D dA w) (va_cwS 1 hts gX2_isOneEach_J6_bitCount_0f7a4 rfl rfl rfl (by decide +kernel) (mm_levR hR (by omega) (by decide))) rfl hl.1 rfl (Nat.le_of_ble_eq_true rfl) dX2_isOneEach_4 ⟨Nat.zero_le _, Nat.zero_le _⟩ (fun H locs hV => ?_)
  refine lv_iconst (v := 1) hx hb dX2_isOneEach_7 (by decide) ?_
  have J27 : ∀ (v27_1 : Int32) (H : Heap) (locs : List Loc), v27_1 = (if bitC w = 1 then (if bitC b = 1 then 1 else 0) else 0) → mm_V A D L M s H locs → W p l e R s m args below meth c H locs 0 0 Q (F0 m 27 ls [.int v27_1]) := by
    intro v27_1 H locs ev27_1 hV
    exact hret (v := v27_1) dX2_isOneEach_27 hV (by decide) (by decide) (by subst_vars; (repeat' split) <;> first | exact Or.inl rfl | exact Or.inr rfl) ⟨by subst_vars; rfl, rfl, rfl⟩
  refine lv_icmp_ne (tgt := 26) hx hb dX2_isOneEach_8 (by decide) (fun c8 => ?_) (fun c8 => ?_)
  · refine lv_iconst (v := 0) hx hb dX2_isOneEach_26 (by decide) ?_
    exact J27 _ _ _ (by rw [if_neg c8]) hV
  · refine lv_aload_n hx hb dX2_isOneEach_11 rfl (lv_at hl 0 rfl) ?_
    refine mm_get (ci := 2) (C := RX2) (T := TX2) (N := 5) hx hb hts in_X2 hown hK hV i_a m_a rfl 1 (by decide) f_15 (fun _ h => h) rfl dX2_isOneEach_12 ?_
    refine mm_Sp (v := (bitC b)) (As := [.int b]) (rest := []) ⟨hx, hb, hml, hown, hts⟩ hK hV (c_bitCount l D dA b) (va_cwS 1 hts gX2_isOneEach_J6_bitCount_0f7a4 rfl rfl rfl (by decide +kernel) (mm_levR hR (by omega) (by decide))) rfl hl.1 rfl (Nat.le_of_ble_eq_true rfl) dX2_isOneEach_15 ⟨Nat.zero_le _, Nat.zero_le _⟩ (fun H locs hV => ?_)
    refine lv_iconst (v := 1) hx hb dX2_isOneEach_18 (by decide) ?_
    refine lv_icmp_ne (tgt := 26) hx hb dX2_isOneEach_19 (by decide) (fun c19 => ?_) (fun c19 => ?_)
    · refine lv_iconst (v := 0) hx hb dX2_isOneEach_26 (by decide) ?_
      exact J27 _ _ _ (by rw [if_pos c8, if_neg c19]) hV
    · refine lv_iconst (v := 1) hx hb dX2_isOneEach_22 (by decide) ?_
      refine lv_goto (tgt := 27) hx hb dX2_isOneEach_23 (by decide) ?_
      exact J27 _ _ _ (by rw [if_pos c8, if_pos c19]) hV

set_option maxHeartbeats 1000000 in
set_option maxRecDepth 100000 in
theorem c_pieceOn (l : Launch) (D : va_G) (dA : Nat → ClassId) {L : List Nat} {M : mm_M} {a : Nat} {P : Ps} (bit : Int32) (i_a : a ∈ L) (m_a : M a = oP P) : mm_Cp l D dA yX2_pieceOn wsX2_pieceOn 0 [.ref a, .int bit] L M (pieceP P bit) := by
  obtain ⟨w, b, k, mv, q⟩ := P
  have m_a : M a = .inr (2, [.int w, .int b, .int k, .int mv, .int q]) := m_a
  refine mm_enter_i (cc := cX2_pieceOn) (maxL := 3) (by decide) rfl (Nat.le_of_ble_eq_true rfl) ?_
  intro p e R s m args below meth c A ls H locs Q hR hx hb hml hin hown hts hK hV hl hret
  have hl : lv_has ls 3 [(0, .ref a), (1, .int bit)] := hl
  have hown : s.vm.findClass RX2 = some m.cls := hown
  have f_18 := hts (.fieldLink RX2 18 "JumpBoard$Position" "kings" "I") (by decide +kernel)
  have in_X2 : ∀ w ∈ wsX20, w ∈ wsX2_pieceOn := by decide +kernel
  have f_9 := hts (.fieldLink RX2 9 "JumpBoard$Position" "white" "I") (by decide +kernel)
  have f_15 := hts (.fieldLink RX2 15 "JumpBoard$Position" "black" "I") (by decide +kernel)
  refine lv_aload_n hx hb dX2_pieceOn_0 rfl (lv_at hl 0 rfl) ?_
  refine mm_get (ci := 2) (C := RX2) (T := TX2) (N := 5) hx hb hts in_X2 hown hK hV i_a m_a rfl 2 (by decide) f_18 (fun _ h => h) rfl dX2_pieceOn_1 ?_
  refine lv_iload_n hx hb dX2_pieceOn_4 rfl (lv_at hl 1 rfl) ?_
  refine lv_iand hx hb dX2_pieceOn_5 ?_
  have J14 : ∀ (v14_1 : Int32), v14_1 = (if (k &&& bit) = 0 then 0 else 1) → W p l e R s m args below meth c H locs 0 0 Q (F0 m 14 ls [.int v14_1]) := by
    intro v14_1 ev14_1
    refine lv_istore_n (lv' := [(2, .int v14_1), (0, .ref a), (1, .int bit)]) hx hb dX2_pieceOn_14 rfl hl (by decide) rfl (fun ls hl => ?_)
    refine lv_aload_n hx hb dX2_pieceOn_15 rfl (lv_at hl 1 rfl) ?_
    refine mm_get (ci := 2) (C := RX2) (T := TX2) (N := 5) hx hb hts in_X2 hown hK hV i_a m_a rfl 0 (by decide) f_9 (fun _ h => h) rfl dX2_pieceOn_16 ?_
    refine lv_iload_n hx hb dX2_pieceOn_19 rfl (lv_at hl 2 rfl) ?_
    refine lv_iand hx hb dX2_pieceOn_20 ?_
    refine lv_if_eq (tgt := 34) hx hb dX2_pieceOn_21 (by decide) (fun c21 => ?_) (fun c21 => ?_)
    · refine lv_aload_n hx hb dX2_pieceOn_34 rfl (lv_at hl 1 rfl) ?_
      refine mm_get (ci := 2) (C := RX2) (T := TX2) (N := 5) hx hb hts in_X2 hown hK hV i_a m_a rfl 1 (by decide) f_15 (fun _ h => h) rfl dX2_pieceOn_35 ?_
      refine lv_iload_n hx hb dX2_pieceOn_38 rfl (lv_at hl 2 rfl) ?_
      refine lv_iand hx hb dX2_pieceOn_39 ?_
      refine lv_if_eq (tgt := 53) hx hb dX2_pieceOn_40 (by decide) (fun c40 => ?_) (fun c40 => ?_)
      · refine lv_iconst (v := 0) hx hb dX2_pieceOn_53 (by decide) ?_
        exact hret (v := 0) dX2_pieceOn_54 hV (by decide) (by decide) ⟨by subst_vars; unfold pieceP; simp_all, rfl, rfl⟩
      · refine lv_iload_n hx hb dX2_pieceOn_43 rfl (lv_at hl 0 rfl) ?_
        have J52 : ∀ (v52_2 : Int32), v52_2 = (if v14_1 = 0 then 3 else 4) → W p l e R s m args below meth c H locs 0 0 Q (F0 m 52 ls [.int v52_2]) := by
          intro v52_2 ev52_2
          exact hret (v := v52_2) dX2_pieceOn_52 hV (by decide) (by decide) ⟨by subst_vars; unfold pieceP; simp_all, rfl, rfl⟩
        refine lv_if_eq (tgt := 51) hx hb dX2_pieceOn_44 (by decide) (fun c44 => ?_) (fun c44 => ?_)
        · refine lv_iconst (v := 3) hx hb dX2_pieceOn_51 (by decide) ?_
          exact J52 _ (by rw [if_pos c44])
        · refine lv_iconst (v := 4) hx hb dX2_pieceOn_47 (by decide) ?_
          refine lv_goto (tgt := 52) hx hb dX2_pieceOn_48 (by decide) ?_
          exact J52 _ (by rw [if_neg c44])
    · refine lv_iload_n hx hb dX2_pieceOn_24 rfl (lv_at hl 0 rfl) ?_
      have J33 : ∀ (v33_3 : Int32), v33_3 = (if v14_1 = 0 then 1 else 2) → W p l e R s m args below meth c H locs 0 0 Q (F0 m 33 ls [.int v33_3]) := by
        intro v33_3 ev33_3
        exact hret (v := v33_3) dX2_pieceOn_33 hV (by decide) (by decide) ⟨by subst_vars; unfold pieceP; simp_all, rfl, rfl⟩
      refine lv_if_eq (tgt := 32) hx hb dX2_pieceOn_25 (by decide) (fun c25 => ?_) (fun c25 => ?_)
      · refine lv_iconst (v := 1) hx hb dX2_pieceOn_32 (by decide) ?_
        exact J33 _ (by rw [if_pos c25])
      · refine lv_iconst (v := 2) hx hb dX2_pieceOn_28 (by decide) ?_
        refine lv_goto (tgt := 33) hx hb dX2_pieceOn_29 (by decide) ?_
        exact J33 _ (by rw [if_neg c25])
  refine lv_if_eq (tgt := 13) hx hb dX2_pieceOn_6 (by decide) (fun c6 => ?_) (fun c6 => ?_)
  · refine lv_iconst (v := 0) hx hb dX2_pieceOn_13 (by decide) ?_
    exact J14 _ (by rw [if_pos c6])
  · refine lv_iconst (v := 1) hx hb dX2_pieceOn_9 (by decide) ?_
    refine lv_goto (tgt := 14) hx hb dX2_pieceOn_10 (by decide) ?_
    exact J14 _ (by rw [if_neg c6])

set_option maxHeartbeats 1000000 in
set_option maxRecDepth 100000 in
theorem c_balance (l : Launch) (D : va_G) (dA : Nat → ClassId) {L : List Nat} {M : mm_M} {a : Nat} {P : Ps} (i_a : a ∈ L) (m_a : M a = oP P) : mm_Cp l D dA yX2_balance wsX2_balance 1 [.ref a] L M (balP P) := by
  obtain ⟨w, b, k, mv, q⟩ := P
  have m_a : M a = .inr (2, [.int w, .int b, .int k, .int mv, .int q]) := m_a
  refine mm_enter_i (cc := cX2_balance) (maxL := 3) (by decide) rfl (Nat.le_of_ble_eq_true rfl) ?_
  intro p e R s m args below meth c A ls H locs Q hR hx hb hml hin hown hts hK hV hl hret
  have hl : lv_has ls 3 [(0, .ref a)] := hl
  have hown : s.vm.findClass RX2 = some m.cls := hown
  have f_18 := hts (.fieldLink RX2 18 "JumpBoard$Position" "kings" "I") (by decide +kernel)
  have in_X2 : ∀ w ∈ wsX20, w ∈ wsX2_balance := by decide +kernel
  refine lv_iconst (v := 2) hx hb dX2_balance_0 (by decide) ?_
  refine lv_aload_n hx hb dX2_balance_1 rfl (lv_at hl 0 rfl) ?_
  refine mm_Vp (v := (ownP (w, b, k, mv, q))) (ci := 2) (As := []) (rest := [.int 2]) ⟨hx, hb, hml, hown, hts⟩ hK hV (c_own l D dA (P := (w, b, k, mv, q))  i_a m_a) (cwV 0 hts gX2_balance_X2_own rfl rfl rfl (by decide +kernel) (mm_levR hR (by omega) (by decide))) i_a m_a rfl rfl hl.1 rfl (Nat.le_of_ble_eq_true rfl) dX2_balance_2 ⟨Nat.zero_le _, Nat.zero_le _⟩ (fun H locs hV => ?_)
  refine mm_Sp (v := (bitC (ownP (w, b, k, mv, q)))) (As := [.int (ownP (w, b, k, mv, q))]) (rest := [.int 2]) ⟨hx, hb, hml, hown, hts⟩ hK hV (c_bitCount l D dA (ownP (w, b, k, mv, q))) (va_cwS 1 hts gX2_balance_J6_bitCount_0f7a4 rfl rfl rfl (by decide +kernel) (mm_levR hR (by omega) (by decide))) rfl hl.1 rfl (Nat.le_of_ble_eq_true rfl) dX2_balance_5 ⟨Nat.zero_le _, Nat.zero_le _⟩ (fun H locs hV => ?_)
  refine lv_imul hx hb dX2_balance_8 ?_
  refine lv_aload_n hx hb dX2_balance_9 rfl (lv_at hl 0 rfl) ?_
  refine mm_Vp (v := (ownP (w, b, k, mv, q))) (ci := 2) (As := []) (rest := [.int (2 * bitC (ownP (w, b, k, mv, q)))]) ⟨hx, hb, hml, hown, hts⟩ hK hV (c_own l D dA (P := (w, b, k, mv, q))  i_a m_a) (cwV 0 hts gX2_balance_X2_own rfl rfl rfl (by decide +kernel) (mm_levR hR (by omega) (by decide))) i_a m_a rfl rfl hl.1 rfl (Nat.le_of_ble_eq_true rfl) dX2_balance_10 ⟨Nat.zero_le _, Nat.zero_le _⟩ (fun H locs hV => ?_)
  refine lv_aload_n hx hb dX2_balance_13 rfl (lv_at hl 0 rfl) ?_
  refine mm_get (ci := 2) (C := RX2) (T := TX2) (N := 5) hx hb hts in_X2 hown hK hV i_a m_a rfl 2 (by decide) f_18 (fun _ h => h) rfl dX2_balance_14 ?_
  refine lv_iand hx hb dX2_balance_17 ?_
  refine mm_Sp (v := (bitC (ownP (w, b, k, mv, q)  &&& k))) (As := [.int (ownP (w, b, k, mv, q)  &&& k)]) (rest := [.int (2 * bitC (ownP (w, b, k, mv, q)))]) ⟨hx, hb, hml, hown, hts⟩ hK hV (c_bitCount l D dA (ownP (w, b, k, mv, q)  &&& k)) (va_cwS 1 hts gX2_balance_J6_bitCount_0f7a4 rfl rfl rfl (by decide +kernel) (mm_levR hR (by omega) (by decide))) rfl hl.1 rfl (Nat.le_of_ble_eq_true rfl) dX2_balance_18 ⟨Nat.zero_le _, Nat.zero_le _⟩ (fun H locs hV => ?_)
  refine lv_iadd hx hb dX2_balance_21 ?_
  refine lv_topi (fun x1_1 ex1_1 => ?_)
  refine lv_istore_n (lv' := [(1, .int x1_1), (0, .ref a)]) hx hb dX2_balance_22 rfl hl (by decide) rfl (fun ls hl => ?_)
  refine lv_iconst (v := 2) hx hb dX2_balance_23 (by decide) ?_
  refine lv_aload_n hx hb dX2_balance_24 rfl (lv_at hl 1 rfl) ?_
  refine mm_Vp (v := (othP (w, b, k, mv, q))) (ci := 2) (As := []) (rest := [.int 2]) ⟨hx, hb, hml, hown, hts⟩ hK hV (c_others l D dA (P := (w, b, k, mv, q))  i_a m_a) (cwV 0 hts gX2_balance_X2_others rfl rfl rfl (by decide +kernel) (mm_levR hR (by omega) (by decide))) i_a m_a rfl rfl hl.1 rfl (Nat.le_of_ble_eq_true rfl) dX2_balance_25 ⟨Nat.zero_le _, Nat.zero_le _⟩ (fun H locs hV => ?_)
  refine mm_Sp (v := (bitC (othP (w, b, k, mv, q)))) (As := [.int (othP (w, b, k, mv, q))]) (rest := [.int 2]) ⟨hx, hb, hml, hown, hts⟩ hK hV (c_bitCount l D dA (othP (w, b, k, mv, q))) (va_cwS 1 hts gX2_balance_J6_bitCount_0f7a4 rfl rfl rfl (by decide +kernel) (mm_levR hR (by omega) (by decide))) rfl hl.1 rfl (Nat.le_of_ble_eq_true rfl) dX2_balance_28 ⟨Nat.zero_le _, Nat.zero_le _⟩ (fun H locs hV => ?_)
  refine lv_imul hx hb dX2_balance_31 ?_
  refine lv_aload_n hx hb dX2_balance_32 rfl (lv_at hl 1 rfl) ?_
  refine mm_Vp (v := (othP (w, b, k, mv, q))) (ci := 2) (As := []) (rest := [.int (2 * bitC (othP (w, b, k, mv, q)))]) ⟨hx, hb, hml, hown, hts⟩ hK hV (c_others l D dA (P := (w, b, k, mv, q))  i_a m_a) (cwV 0 hts gX2_balance_X2_others rfl rfl rfl (by decide +kernel) (mm_levR hR (by omega) (by decide))) i_a m_a rfl rfl hl.1 rfl (Nat.le_of_ble_eq_true rfl) dX2_balance_33 ⟨Nat.zero_le _, Nat.zero_le _⟩ (fun H locs hV => ?_)
  refine lv_aload_n hx hb dX2_balance_36 rfl (lv_at hl 1 rfl) ?_
  refine mm_get (ci := 2) (C := RX2) (T := TX2) (N := 5) hx hb hts in_X2 hown hK hV i_a m_a rfl 2 (by decide) f_18 (fun _ h => h) rfl dX2_balance_37 ?_
  refine lv_iand hx hb dX2_balance_40 ?_
  refine mm_Sp (v := (bitC (othP (w, b, k, mv, q)  &&& k))) (As := [.int (othP (w, b, k, mv, q)  &&& k)]) (rest := [.int (2 * bitC (othP (w, b, k, mv, q)))]) ⟨hx, hb, hml, hown, hts⟩ hK hV (c_bitCount l D dA (othP (w, b, k, mv, q)  &&& k)) (va_cwS 1 hts gX2_balance_J6_bitCount_0f7a4 rfl rfl rfl (by decide +kernel) (mm_levR hR (by omega) (by decide))) rfl hl.1 rfl (Nat.le_of_ble_eq_true rfl) dX2_balance_41 ⟨Nat.zero_le _, Nat.zero_le _⟩ (fun H locs hV => ?_)
  refine lv_iadd hx hb dX2_balance_44 ?_
  refine lv_topi (fun x2_2 ex2_2 => ?_)
  refine lv_istore_n (lv' := [(2, .int x2_2), (1, .int x1_1), (0, .ref a)]) hx hb dX2_balance_45 rfl hl (by decide) rfl (fun ls hl => ?_)
  refine lv_iload_n hx hb dX2_balance_46 rfl (lv_at hl 1 rfl) ?_
  refine lv_iload_n hx hb dX2_balance_47 rfl (lv_at hl 0 rfl) ?_
  refine lv_isub hx hb dX2_balance_48 ?_
  exact hret (v := (x1_1 - x2_2)) dX2_balance_49 hV (by decide) (by decide) ⟨by subst_vars; rfl, rfl, rfl⟩

set_option maxHeartbeats 1000000 in
set_option maxRecDepth 100000 in
theorem c_wipe (l : Launch) (D : va_G) (dA : Nat → ClassId) {L : List Nat} {M : mm_M} {a : Nat} {P : Ps} (i_a : a ∈ L) (m_a : M a = oP P) : mm_Cm l D dA yX2_wipe wsX2_wipe 0 [.ref a] L M (fun M1 => M1 = va_up M a (oP (wipeP))) := by
  obtain ⟨w, b, k, mv, q⟩ := P
  have m_a : M a = .inr (2, [.int w, .int b, .int k, .int mv, .int q]) := m_a
  refine mm_enter_v (cc := cX2_wipe) (maxL := 1) (by decide) rfl (Nat.le_of_ble_eq_true rfl) ?_
  intro p e R s m args below meth c A ls H locs Q hR hx hb hml hin hown hts hK hV hl hret
  have hl : lv_has ls 1 [(0, .ref a)] := hl
  have hown : s.vm.findClass RX2 = some m.cls := hown
  have f_9 := hts (.fieldLink RX2 9 "JumpBoard$Position" "white" "I") (by decide +kernel)
  have in_X2 : ∀ w ∈ wsX20, w ∈ wsX2_wipe := by decide +kernel
  have f_15 := hts (.fieldLink RX2 15 "JumpBoard$Position" "black" "I") (by decide +kernel)
  have f_18 := hts (.fieldLink RX2 18 "JumpBoard$Position" "kings" "I") (by decide +kernel)
  have f_21 := hts (.fieldLink RX2 21 "JumpBoard$Position" "mover" "I") (by decide +kernel)
  have f_24 := hts (.fieldLink RX2 24 "JumpBoard$Position" "kingSteps" "I") (by decide +kernel)
  refine lv_aload_n hx hb dX2_wipe_0 rfl (lv_at hl 0 rfl) ?_
  refine lv_iconst (v := 0) hx hb dX2_wipe_1 (by decide) ?_
  refine mm_put (ci := 2) (v := .int 0) (fs' := [.int 0, .int b, .int k, .int mv, .int q]) (ty := .int) (C := RX2) (T := TX2) (N := 5) hx hb hts in_X2 tyX2 tyX2_ok nmX2 hown hK hV i_a m_a rfl 0 (by decide) f_9 (fun _ h => h) rfl (by decide +kernel) rfl rfl (Nat.le_of_ble_eq_true rfl) rfl dX2_wipe_2 (fun M_1 H locs eM_1 hV => ?_)
  have m_a : M_1 a = .inr (2, [.int 0, .int b, .int k, .int mv, .int q]) := by rw [eM_1]; exact va_up_self _ _ _
  have fr : ∀ q : Nat, q ≠ a → M_1 q = M q := fun q h0 => (congrFun eM_1 q).trans ((va_up_ne _ _ h0).trans rfl)
  refine lv_aload_n hx hb dX2_wipe_5 rfl (lv_at hl 0 rfl) ?_
  refine lv_iconst (v := 0) hx hb dX2_wipe_6 (by decide) ?_
  refine mm_put (ci := 2) (v := .int 0) (fs' := [.int 0, .int 0, .int k, .int mv, .int q]) (ty := .int) (C := RX2) (T := TX2) (N := 5) hx hb hts in_X2 tyX2 tyX2_ok nmX2 hown hK hV i_a m_a rfl 1 (by decide) f_15 (fun _ h => h) rfl (by decide +kernel) rfl rfl (Nat.le_of_ble_eq_true rfl) rfl dX2_wipe_7 (fun M_2 H locs eM_2 hV => ?_)
  have m_a : M_2 a = .inr (2, [.int 0, .int 0, .int k, .int mv, .int q]) := by rw [eM_2]; exact va_up_self _ _ _
  have fr : ∀ q : Nat, q ≠ a → M_2 q = M q := fun q h0 => (congrFun eM_2 q).trans ((va_up_ne _ _ h0).trans (fr q h0))
  refine lv_aload_n hx hb dX2_wipe_10 rfl (lv_at hl 0 rfl) ?_
  refine lv_iconst (v := 0) hx hb dX2_wipe_11 (by decide) ?_
  refine mm_put (ci := 2) (v := .int 0) (fs' := [.int 0, .int 0, .int 0, .int mv, .int q]) (ty := .int) (C := RX2) (T := TX2) (N := 5) hx hb hts in_X2 tyX2 tyX2_ok nmX2 hown hK hV i_a m_a rfl 2 (by decide) f_18 (fun _ h => h) rfl (by decide +kernel) rfl rfl (Nat.le_of_ble_eq_true rfl) rfl dX2_wipe_12 (fun M_3 H locs eM_3 hV => ?_)
  have m_a : M_3 a = .inr (2, [.int 0, .int 0, .int 0, .int mv, .int q]) := by rw [eM_3]; exact va_up_self _ _ _
  have fr : ∀ q : Nat, q ≠ a → M_3 q = M q := fun q h0 => (congrFun eM_3 q).trans ((va_up_ne _ _ h0).trans (fr q h0))
  refine lv_aload_n hx hb dX2_wipe_15 rfl (lv_at hl 0 rfl) ?_
  refine lv_iconst (v := 0) hx hb dX2_wipe_16 (by decide) ?_
  refine mm_put (ci := 2) (v := .int 0) (fs' := [.int 0, .int 0, .int 0, .int 0, .int q]) (ty := .int) (C := RX2) (T := TX2) (N := 5) hx hb hts in_X2 tyX2 tyX2_ok nmX2 hown hK hV i_a m_a rfl 3 (by decide) f_21 (fun _ h => h) rfl (by decide +kernel) rfl rfl (Nat.le_of_ble_eq_true rfl) rfl dX2_wipe_17 (fun M_4 H locs eM_4 hV => ?_)
  have m_a : M_4 a = .inr (2, [.int 0, .int 0, .int 0, .int 0, .int q]) := by rw [eM_4]; exact va_up_self _ _ _
  have fr : ∀ q : Nat, q ≠ a → M_4 q = M q := fun q h0 => (congrFun eM_4 q).trans ((va_up_ne _ _ h0).trans (fr q h0))
  refine lv_aload_n hx hb dX2_wipe_20 rfl (lv_at hl 0 rfl) ?_
  refine lv_iconst (v := 0) hx hb dX2_wipe_21 (by decide) ?_
  refine mm_put (ci := 2) (v := .int 0) (fs' := [.int 0, .int 0, .int 0, .int 0, .int 0]) (ty := .int) (C := RX2) (T := TX2) (N := 5) hx hb hts in_X2 tyX2 tyX2_ok nmX2 hown hK hV i_a m_a rfl 4 (by decide) f_24 (fun _ h => h) rfl (by decide +kernel) rfl rfl (Nat.le_of_ble_eq_true rfl) rfl dX2_wipe_22 (fun M_5 H locs eM_5 hV => ?_)
  have m_a : M_5 a = .inr (2, [.int 0, .int 0, .int 0, .int 0, .int 0]) := by rw [eM_5]; exact va_up_self _ _ _
  have fr : ∀ q : Nat, q ≠ a → M_5 q = M q := fun q h0 => (congrFun eM_5 q).trans ((va_up_ne _ _ h0).trans (fr q h0))
  exact hret dX2_wipe_25 hV (by decide) (by decide) ⟨rfl, mm_fin1 (by rw [m_a]; subst_vars; rfl) fr⟩

set_option maxHeartbeats 1000000 in
set_option maxRecDepth 100000 in
theorem c_setUp (l : Launch) (D : va_G) (dA : Nat → ClassId) {L : List Nat} {M : mm_M} {a : Nat} {P : Ps} (i_a : a ∈ L) (m_a : M a = oP P) : mm_Cm l D dA yX2_setUp wsX2_setUp 1 [.ref a] L M (fun M1 => M1 = va_up M a (oP (setUpP))) := by
  obtain ⟨w, b, k, mv, q⟩ := P
  have m_a : M a = .inr (2, [.int w, .int b, .int k, .int mv, .int q]) := m_a
  refine mm_enter_v (cc := cX2_setUp) (maxL := 1) (by decide) rfl (Nat.le_of_ble_eq_true rfl) ?_
  intro p e R s m args below meth c A ls H locs Q hR hx hb hml hin hown hts hK hV hl hret
  have hl : lv_has ls 1 [(0, .ref a)] := hl
  have hown : s.vm.findClass RX2 = some m.cls := hown
  have f_9 := hts (.fieldLink RX2 9 "JumpBoard$Position" "white" "I") (by decide +kernel)
  have in_X2 : ∀ w ∈ wsX20, w ∈ wsX2_setUp := by decide +kernel
  have f_15 := hts (.fieldLink RX2 15 "JumpBoard$Position" "black" "I") (by decide +kernel)
  refine lv_aload_n hx hb dX2_setUp_0 rfl (lv_at hl 0 rfl) ?_
  refine mm_Vm (ci := 2) (As := []) (rest := []) ⟨hx, hb, hml, hown, hts⟩ hK hV (c_wipe l D dA (P := (w, b, k, mv, q)) i_a m_a) (cwV 0 hts gX2_setUp_X2_wipe rfl rfl rfl (by decide +kernel) (mm_levR hR (by omega) (by decide))) i_a m_a rfl rfl hl.1 rfl (Nat.le_of_ble_eq_true rfl) dX2_setUp_1 ⟨Nat.zero_le _, Nat.zero_le _⟩ (fun M_1 H locs eM_1 hV => ?_)
  have m_a : M_1 a = .inr (2, [.int 0, .int 0, .int 0, .int 0, .int 0]) := by rw [eM_1]; exact va_up_self _ _ _
  have fr : ∀ q : Nat, q ≠ a → M_1 q = M q := fun q h0 => (congrFun eM_1 q).trans ((va_up_ne _ _ h0).trans rfl)
  refine lv_aload_n hx hb dX2_setUp_4 rfl (lv_at hl 0 rfl) ?_
  refine lv_bipush (v := 63) hx hb dX2_setUp_5 (by decide) ?_
  refine mm_put (ci := 2) (v := .int 63) (fs' := [.int 63, .int 0, .int 0, .int 0, .int 0]) (ty := .int) (C := RX2) (T := TX2) (N := 5) hx hb hts in_X2 tyX2 tyX2_ok nmX2 hown hK hV i_a m_a rfl 0 (by decide) f_9 (fun _ h => h) rfl (by decide +kernel) rfl rfl (Nat.le_of_ble_eq_true rfl) rfl dX2_setUp_7 (fun M_2 H locs eM_2 hV => ?_)
  have m_a : M_2 a = .inr (2, [.int 63, .int 0, .int 0, .int 0, .int 0]) := by rw [eM_2]; exact va_up_self _ _ _
  have fr : ∀ q : Nat, q ≠ a → M_2 q = M q := fun q h0 => (congrFun eM_2 q).trans ((va_up_ne _ _ h0).trans (fr q h0))
  refine lv_aload_n hx hb dX2_setUp_10 rfl (lv_at hl 0 rfl) ?_
  refine lv_ldc hx hb hown (hts (.constant RX2 30 (258048)) (by decide +kernel)) dX2_setUp_11 ?_
  refine mm_put (ci := 2) (v := .int 258048) (fs' := [.int 63, .int 258048, .int 0, .int 0, .int 0]) (ty := .int) (C := RX2) (T := TX2) (N := 5) hx hb hts in_X2 tyX2 tyX2_ok nmX2 hown hK hV i_a m_a rfl 1 (by decide) f_15 (fun _ h => h) rfl (by decide +kernel) rfl rfl (Nat.le_of_ble_eq_true rfl) rfl dX2_setUp_13 (fun M_3 H locs eM_3 hV => ?_)
  have m_a : M_3 a = .inr (2, [.int 63, .int 258048, .int 0, .int 0, .int 0]) := by rw [eM_3]; exact va_up_self _ _ _
  have fr : ∀ q : Nat, q ≠ a → M_3 q = M q := fun q h0 => (congrFun eM_3 q).trans ((va_up_ne _ _ h0).trans (fr q h0))
  exact hret dX2_setUp_16 hV (by decide) (by decide) ⟨rfl, mm_fin1 (by rw [m_a]; subst_vars; rfl) fr⟩

set_option maxHeartbeats 1000000 in
set_option maxRecDepth 100000 in
theorem c_place (l : Launch) (D : va_G) (dA : Nat → ClassId) {L : List Nat} {M : mm_M} {a : Nat} {P : Ps} (bit : Int32) (pc : Int32) (i_a : a ∈ L) (m_a : M a = oP P) : mm_Cm l D dA yX2_place wsX2_place 0 [.ref a, .int bit, .int pc] L M (fun M1 => M1 = va_up M a (oP (placeP P bit pc))) := by
  obtain ⟨w, b, k, mv, q⟩ := P
  have m_a : M a = .inr (2, [.int w, .int b, .int k, .int mv, .int q]) := m_a
  refine mm_enter_v (cc := cX2_place) (maxL := 3) (by decide) rfl (Nat.le_of_ble_eq_true rfl) ?_
  intro p e R s m args below meth c A ls H locs Q hR hx hb hml hin hown hts hK hV hl hret
  have hl : lv_has ls 3 [(0, .ref a), (1, .int bit), (2, .int pc)] := hl
  have hown : s.vm.findClass RX2 = some m.cls := hown
  have f_9 := hts (.fieldLink RX2 9 "JumpBoard$Position" "white" "I") (by decide +kernel)
  have in_X2 : ∀ w ∈ wsX20, w ∈ wsX2_place := by decide +kernel
  have f_15 := hts (.fieldLink RX2 15 "JumpBoard$Position" "black" "I") (by decide +kernel)
  have f_18 := hts (.fieldLink RX2 18 "JumpBoard$Position" "kings" "I") (by decide +kernel)
  refine lv_aload_n hx hb dX2_place_0 rfl (lv_at hl 0 rfl) ?_
  refine lv_dup hx hb dX2_place_1 rfl ?_
  refine mm_get (ci := 2) (C := RX2) (T := TX2) (N := 5) hx hb hts in_X2 hown hK hV i_a m_a rfl 0 (by decide) f_9 (fun _ h => h) rfl dX2_place_2 ?_
  refine lv_iload_n hx hb dX2_place_5 rfl (lv_at hl 1 rfl) ?_
  refine lv_iconst (v := (-1)) hx hb dX2_place_6 (by decide) ?_
  refine lv_ixor hx hb dX2_place_7 ?_
  refine lv_iand hx hb dX2_place_8 ?_
  refine lv_topi (fun v_1 ev_1 => ?_)
  refine mm_put (ci := 2) (v := .int v_1) (fs' := [.int v_1, .int b, .int k, .int mv, .int q]) (ty := .int) (C := RX2) (T := TX2) (N := 5) hx hb hts in_X2 tyX2 tyX2_ok nmX2 hown hK hV i_a m_a rfl 0 (by decide) f_9 (fun _ h => h) rfl (by decide +kernel) rfl rfl (Nat.le_of_ble_eq_true rfl) rfl dX2_place_9 (fun M_2 H locs eM_2 hV => ?_)
  have m_a : M_2 a = .inr (2, [.int v_1, .int b, .int k, .int mv, .int q]) := by rw [eM_2]; exact va_up_self _ _ _
  have fr : ∀ q : Nat, q ≠ a → M_2 q = M q := fun q h0 => (congrFun eM_2 q).trans ((va_up_ne _ _ h0).trans rfl)
  refine lv_aload_n hx hb dX2_place_12 rfl (lv_at hl 0 rfl) ?_
  refine lv_dup hx hb dX2_place_13 rfl ?_
  refine mm_get (ci := 2) (C := RX2) (T := TX2) (N := 5) hx hb hts in_X2 hown hK hV i_a m_a rfl 1 (by decide) f_15 (fun _ h => h) rfl dX2_place_14 ?_
  refine lv_iload_n hx hb dX2_place_17 rfl (lv_at hl 1 rfl) ?_
  refine lv_iconst (v := (-1)) hx hb dX2_place_18 (by decide) ?_
  refine lv_ixor hx hb dX2_place_19 ?_
  refine lv_iand hx hb dX2_place_20 ?_
  refine lv_topi (fun v_3 ev_3 => ?_)
  refine mm_put (ci := 2) (v := .int v_3) (fs' := [.int v_1, .int v_3, .int k, .int mv, .int q]) (ty := .int) (C := RX2) (T := TX2) (N := 5) hx hb hts in_X2 tyX2 tyX2_ok nmX2 hown hK hV i_a m_a rfl 1 (by decide) f_15 (fun _ h => h) rfl (by decide +kernel) rfl rfl (Nat.le_of_ble_eq_true rfl) rfl dX2_place_21 (fun M_4 H locs eM_4 hV => ?_)
  have m_a : M_4 a = .inr (2, [.int v_1, .int v_3, .int k, .int mv, .int q]) := by rw [eM_4]; exact va_up_self _ _ _
  have fr : ∀ q : Nat, q ≠ a → M_4 q = M q := fun q h0 => (congrFun eM_4 q).trans ((va_up_ne _ _ h0).trans (fr q h0))
  refine lv_aload_n hx hb dX2_place_24 rfl (lv_at hl 0 rfl) ?_
  refine lv_dup hx hb dX2_place_25 rfl ?_
  refine mm_get (ci := 2) (C := RX2) (T := TX2) (N := 5) hx hb hts in_X2 hown hK hV i_a m_a rfl 2 (by decide) f_18 (fun _ h => h) rfl dX2_place_26 ?_
  refine lv_iload_n hx hb dX2_place_29 rfl (lv_at hl 1 rfl) ?_
  refine lv_iconst (v := (-1)) hx hb dX2_place_30 (by decide) ?_
  refine lv_ixor hx hb dX2_place_31 ?_
  refine lv_iand hx hb dX2_place_32 ?_
  refine lv_topi (fun v_5 ev_5 => ?_)
  refine mm_put (ci := 2) (v := .int v_5) (fs' := [.int v_1, .int v_3, .int v_5, .int mv, .int q]) (ty := .int) (C := RX2) (T := TX2) (N := 5) hx hb hts in_X2 tyX2 tyX2_ok nmX2 hown hK hV i_a m_a rfl 2 (by decide) f_18 (fun _ h => h) rfl (by decide +kernel) rfl rfl (Nat.le_of_ble_eq_true rfl) rfl dX2_place_33 (fun M_6 H locs eM_6 hV => ?_)
  have m_a : M_6 a = .inr (2, [.int v_1, .int v_3, .int v_5, .int mv, .int q]) := by rw [eM_6]; exact va_up_self _ _ _
  have fr : ∀ q : Nat, q ≠ a → M_6 q = M q := fun q h0 => (congrFun eM_6 q).trans ((va_up_ne _ _ h0).trans (fr q h0))
  refine lv_iload_n hx hb dX2_place_36 rfl (lv_at hl 2 rfl) ?_
  refine lv_iconst (v := 1) hx hb dX2_place_37 (by decide) ?_
  have J56 : ∀ (M_11 : mm_M) (H : Heap) (locs : List Loc) (w_12 : Int32), mm_V A D L M_11 s H locs → w_12 = (if pc = 1 then (v_1 ||| bit) else (if pc = 2 then (v_1 ||| bit) else v_1)) → M_11 a = .inr (2, [.int w_12, .int v_3, .int v_5, .int mv, .int q]) → (∀ q : Nat, q ≠ a → M_11 q = M q) → W p l e R s m args below meth c H locs 0 0 Q (F0 m 56 ls []) := by
    intro M_11 H locs w_12 hV ew_12 m_a fr
    refine lv_iload_n hx hb dX2_place_56 rfl (lv_at hl 2 rfl) ?_
    refine lv_iconst (v := 3) hx hb dX2_place_57 (by decide) ?_
    have J76 : ∀ (M_17 : mm_M) (H : Heap) (locs : List Loc) (w_18 : Int32), mm_V A D L M_17 s H locs → w_18 = (if pc = 3 then (v_3 ||| bit) else (if pc = 4 then (v_3 ||| bit) else v_3)) → M_17 a = .inr (2, [.int w_12, .int w_18, .int v_5, .int mv, .int q]) → (∀ q : Nat, q ≠ a → M_17 q = M q) → W p l e R s m args below meth c H locs 0 0 Q (F0 m 76 ls []) := by
      intro M_17 H locs w_18 hV ew_18 m_a fr
      refine lv_iload_n hx hb dX2_place_76 rfl (lv_at hl 2 rfl) ?_
      refine lv_iconst (v := 2) hx hb dX2_place_77 (by decide) ?_
      have J96 : ∀ (M_23 : mm_M) (H : Heap) (locs : List Loc) (w_24 : Int32), mm_V A D L M_23 s H locs → w_24 = (if pc = 2 then (v_5 ||| bit) else (if pc = 4 then (v_5 ||| bit) else v_5)) → M_23 a = .inr (2, [.int w_12, .int w_18, .int w_24, .int mv, .int q]) → (∀ q : Nat, q ≠ a → M_23 q = M q) → W p l e R s m args below meth c H locs 0 0 Q (F0 m 96 ls []) := by
        intro M_23 H locs w_24 hV ew_24 m_a fr
        exact hret dX2_place_96 hV (by decide) (by decide) ⟨rfl, mm_fin1 (by rw [m_a]; subst_vars; unfold placeP oP; simp only []; congr 4 <;> split <;> simp_all) fr⟩
      refine lv_icmp_eq (tgt := 86) hx hb dX2_place_78 (by decide) (fun c78 => ?_) (fun c78 => ?_)
      · refine lv_aload_n hx hb dX2_place_86 rfl (lv_at hl 0 rfl) ?_
        refine lv_dup hx hb dX2_place_87 rfl ?_
        refine mm_get (ci := 2) (C := RX2) (T := TX2) (N := 5) hx hb hts in_X2 hown hK hV i_a m_a rfl 2 (by decide) f_18 (fun _ h => h) rfl dX2_place_88 ?_
        refine lv_iload_n hx hb dX2_place_91 rfl (lv_at hl 1 rfl) ?_
        refine lv_ior hx hb dX2_place_92 ?_
        refine lv_topi (fun v_19 ev_19 => ?_)
        refine mm_put (ci := 2) (v := .int v_19) (fs' := [.int w_12, .int w_18, .int v_19, .int mv, .int q]) (ty := .int) (C := RX2) (T := TX2) (N := 5) hx hb hts in_X2 tyX2 tyX2_ok nmX2 hown hK hV i_a m_a rfl 2 (by decide) f_18 (fun _ h => h) rfl (by decide +kernel) rfl rfl (Nat.le_of_ble_eq_true rfl) rfl dX2_place_93 (fun M_20 H locs eM_20 hV => ?_)
        have m_a : M_20 a = .inr (2, [.int w_12, .int w_18, .int v_19, .int mv, .int q]) := by rw [eM_20]; exact va_up_self _ _ _
        have fr : ∀ q : Nat, q ≠ a → M_20 q = M q := fun q h0 => (congrFun eM_20 q).trans ((va_up_ne _ _ h0).trans (fr q h0))
        exact J96 _ _ _ _ hV (by rw [if_pos c78, ev_19]) m_a (fun q h0 => fr q h0)
      · refine lv_iload_n hx hb dX2_place_81 rfl (lv_at hl 2 rfl) ?_
        refine lv_iconst (v := 4) hx hb dX2_place_82 (by decide) ?_
        refine lv_icmp_ne (tgt := 96) hx hb dX2_place_83 (by decide) (fun c83 => ?_) (fun c83 => ?_)
        · exact J96 _ _ _ _ hV (by rw [if_neg c78, if_neg c83]) m_a (fun q h0 => fr q h0)
        · refine lv_aload_n hx hb dX2_place_86 rfl (lv_at hl 0 rfl) ?_
          refine lv_dup hx hb dX2_place_87 rfl ?_
          refine mm_get (ci := 2) (C := RX2) (T := TX2) (N := 5) hx hb hts in_X2 hown hK hV i_a m_a rfl 2 (by decide) f_18 (fun _ h => h) rfl dX2_place_88 ?_
          refine lv_iload_n hx hb dX2_place_91 rfl (lv_at hl 1 rfl) ?_
          refine lv_ior hx hb dX2_place_92 ?_
          refine lv_topi (fun v_21 ev_21 => ?_)
          refine mm_put (ci := 2) (v := .int v_21) (fs' := [.int w_12, .int w_18, .int v_21, .int mv, .int q]) (ty := .int) (C := RX2) (T := TX2) (N := 5) hx hb hts in_X2 tyX2 tyX2_ok nmX2 hown hK hV i_a m_a rfl 2 (by decide) f_18 (fun _ h => h) rfl (by decide +kernel) rfl rfl (Nat.le_of_ble_eq_true rfl) rfl dX2_place_93 (fun M_22 H locs eM_22 hV => ?_)
          have m_a : M_22 a = .inr (2, [.int w_12, .int w_18, .int v_21, .int mv, .int q]) := by rw [eM_22]; exact va_up_self _ _ _
          have fr : ∀ q : Nat, q ≠ a → M_22 q = M q := fun q h0 => (congrFun eM_22 q).trans ((va_up_ne _ _ h0).trans (fr q h0))
          exact J96 _ _ _ _ hV (by rw [if_neg c78, if_pos c83, ev_21]) m_a (fun q h0 => fr q h0)
    refine lv_icmp_eq (tgt := 66) hx hb dX2_place_58 (by decide) (fun c58 => ?_) (fun c58 => ?_)
    · refine lv_aload_n hx hb dX2_place_66 rfl (lv_at hl 0 rfl) ?_
      refine lv_dup hx hb dX2_place_67 rfl ?_
      refine mm_get (ci := 2) (C := RX2) (T := TX2) (N := 5) hx hb hts in_X2 hown hK hV i_a m_a rfl 1 (by decide) f_15 (fun _ h => h) rfl dX2_place_68 ?_
      refine lv_iload_n hx hb dX2_place_71 rfl (lv_at hl 1 rfl) ?_
      refine lv_ior hx hb dX2_place_72 ?_
      refine lv_topi (fun v_13 ev_13 => ?_)
      refine mm_put (ci := 2) (v := .int v_13) (fs' := [.int w_12, .int v_13, .int v_5, .int mv, .int q]) (ty := .int) (C := RX2) (T := TX2) (N := 5) hx hb hts in_X2 tyX2 tyX2_ok nmX2 hown hK hV i_a m_a rfl 1 (by decide) f_15 (fun _ h => h) rfl (by decide +kernel) rfl rfl (Nat.le_of_ble_eq_true rfl) rfl dX2_place_73 (fun M_14 H locs eM_14 hV => ?_)
      have m_a : M_14 a = .inr (2, [.int w_12, .int v_13, .int v_5, .int mv, .int q]) := by rw [eM_14]; exact va_up_self _ _ _
      have fr : ∀ q : Nat, q ≠ a → M_14 q = M q := fun q h0 => (congrFun eM_14 q).trans ((va_up_ne _ _ h0).trans (fr q h0))
      exact J76 _ _ _ _ hV (by rw [if_pos c58, ev_13]) m_a (fun q h0 => fr q h0)
    · refine lv_iload_n hx hb dX2_place_61 rfl (lv_at hl 2 rfl) ?_
      refine lv_iconst (v := 4) hx hb dX2_place_62 (by decide) ?_
      refine lv_icmp_ne (tgt := 76) hx hb dX2_place_63 (by decide) (fun c63 => ?_) (fun c63 => ?_)
      · exact J76 _ _ _ _ hV (by rw [if_neg c58, if_neg c63]) m_a (fun q h0 => fr q h0)
      · refine lv_aload_n hx hb dX2_place_66 rfl (lv_at hl 0 rfl) ?_
        refine lv_dup hx hb dX2_place_67 rfl ?_
        refine mm_get (ci := 2) (C := RX2) (T := TX2) (N := 5) hx hb hts in_X2 hown hK hV i_a m_a rfl 1 (by decide) f_15 (fun _ h => h) rfl dX2_place_68 ?_
        refine lv_iload_n hx hb dX2_place_71 rfl (lv_at hl 1 rfl) ?_
        refine lv_ior hx hb dX2_place_72 ?_
        refine lv_topi (fun v_15 ev_15 => ?_)
        refine mm_put (ci := 2) (v := .int v_15) (fs' := [.int w_12, .int v_15, .int v_5, .int mv, .int q]) (ty := .int) (C := RX2) (T := TX2) (N := 5) hx hb hts in_X2 tyX2 tyX2_ok nmX2 hown hK hV i_a m_a rfl 1 (by decide) f_15 (fun _ h => h) rfl (by decide +kernel) rfl rfl (Nat.le_of_ble_eq_true rfl) rfl dX2_place_73 (fun M_16 H locs eM_16 hV => ?_)
        have m_a : M_16 a = .inr (2, [.int w_12, .int v_15, .int v_5, .int mv, .int q]) := by rw [eM_16]; exact va_up_self _ _ _
        have fr : ∀ q : Nat, q ≠ a → M_16 q = M q := fun q h0 => (congrFun eM_16 q).trans ((va_up_ne _ _ h0).trans (fr q h0))
        exact J76 _ _ _ _ hV (by rw [if_neg c58, if_pos c63, ev_15]) m_a (fun q h0 => fr q h0)
  refine lv_icmp_eq (tgt := 46) hx hb dX2_place_38 (by decide) (fun c38 => ?_) (fun c38 => ?_)
  · refine lv_aload_n hx hb dX2_place_46 rfl (lv_at hl 0 rfl) ?_
    refine lv_dup hx hb dX2_place_47 rfl ?_
    refine mm_get (ci := 2) (C := RX2) (T := TX2) (N := 5) hx hb hts in_X2 hown hK hV i_a m_a rfl 0 (by decide) f_9 (fun _ h => h) rfl dX2_place_48 ?_
    refine lv_iload_n hx hb dX2_place_51 rfl (lv_at hl 1 rfl) ?_
    refine lv_ior hx hb dX2_place_52 ?_
    refine lv_topi (fun v_7 ev_7 => ?_)
    refine mm_put (ci := 2) (v := .int v_7) (fs' := [.int v_7, .int v_3, .int v_5, .int mv, .int q]) (ty := .int) (C := RX2) (T := TX2) (N := 5) hx hb hts in_X2 tyX2 tyX2_ok nmX2 hown hK hV i_a m_a rfl 0 (by decide) f_9 (fun _ h => h) rfl (by decide +kernel) rfl rfl (Nat.le_of_ble_eq_true rfl) rfl dX2_place_53 (fun M_8 H locs eM_8 hV => ?_)
    have m_a : M_8 a = .inr (2, [.int v_7, .int v_3, .int v_5, .int mv, .int q]) := by rw [eM_8]; exact va_up_self _ _ _
    have fr : ∀ q : Nat, q ≠ a → M_8 q = M q := fun q h0 => (congrFun eM_8 q).trans ((va_up_ne _ _ h0).trans (fr q h0))
    exact J56 _ _ _ _ hV (by rw [if_pos c38, ev_7]) m_a (fun q h0 => fr q h0)
  · refine lv_iload_n hx hb dX2_place_41 rfl (lv_at hl 2 rfl) ?_
    refine lv_iconst (v := 2) hx hb dX2_place_42 (by decide) ?_
    refine lv_icmp_ne (tgt := 56) hx hb dX2_place_43 (by decide) (fun c43 => ?_) (fun c43 => ?_)
    · exact J56 _ _ _ _ hV (by rw [if_neg c38, if_neg c43]) m_a (fun q h0 => fr q h0)
    · refine lv_aload_n hx hb dX2_place_46 rfl (lv_at hl 0 rfl) ?_
      refine lv_dup hx hb dX2_place_47 rfl ?_
      refine mm_get (ci := 2) (C := RX2) (T := TX2) (N := 5) hx hb hts in_X2 hown hK hV i_a m_a rfl 0 (by decide) f_9 (fun _ h => h) rfl dX2_place_48 ?_
      refine lv_iload_n hx hb dX2_place_51 rfl (lv_at hl 1 rfl) ?_
      refine lv_ior hx hb dX2_place_52 ?_
      refine lv_topi (fun v_9 ev_9 => ?_)
      refine mm_put (ci := 2) (v := .int v_9) (fs' := [.int v_9, .int v_3, .int v_5, .int mv, .int q]) (ty := .int) (C := RX2) (T := TX2) (N := 5) hx hb hts in_X2 tyX2 tyX2_ok nmX2 hown hK hV i_a m_a rfl 0 (by decide) f_9 (fun _ h => h) rfl (by decide +kernel) rfl rfl (Nat.le_of_ble_eq_true rfl) rfl dX2_place_53 (fun M_10 H locs eM_10 hV => ?_)
      have m_a : M_10 a = .inr (2, [.int v_9, .int v_3, .int v_5, .int mv, .int q]) := by rw [eM_10]; exact va_up_self _ _ _
      have fr : ∀ q : Nat, q ≠ a → M_10 q = M q := fun q h0 => (congrFun eM_10 q).trans ((va_up_ne _ _ h0).trans (fr q h0))
      exact J56 _ _ _ _ hV (by rw [if_neg c38, if_pos c43, ev_9]) m_a (fun q h0 => fr q h0)

set_option maxHeartbeats 1000000 in
set_option maxRecDepth 100000 in
theorem c_copy (l : Launch) (D : va_G) (dA : Nat → ClassId) {L : List Nat} {M : mm_M} {a b : Nat} {P0 P : Ps} (hab : a ≠ b) (i_a : a ∈ L) (i_b : b ∈ L) (m_a : M a = oP P0) (m_b : M b = oP P) : mm_Cm l D dA yX2_copy wsX2_copy 0 [.ref a, .ref b] L M (fun M1 => M1 = va_up M a (oP (P))) := by
  obtain ⟨w0, b0, k0, mv0, q0⟩ := P0
  obtain ⟨w, b1, k, mv, q⟩ := P
  have m_a : M a = .inr (2, [.int w0, .int b0, .int k0, .int mv0, .int q0]) := m_a
  have m_b : M b = .inr (2, [.int w, .int b1, .int k, .int mv, .int q]) := m_b
  refine mm_enter_v (cc := cX2_copy) (maxL := 2) (by decide) rfl (Nat.le_of_ble_eq_true rfl) ?_
  intro p e R s m args below meth c A ls H locs Q hR hx hb hml hin hown hts hK hV hl hret
  have hl : lv_has ls 2 [(0, .ref a), (1, .ref b)] := hl
  have hown : s.vm.findClass RX2 = some m.cls := hown
  have f_9 := hts (.fieldLink RX2 9 "JumpBoard$Position" "white" "I") (by decide +kernel)
  have in_X2 : ∀ w ∈ wsX20, w ∈ wsX2_copy := by decide +kernel
  have f_15 := hts (.fieldLink RX2 15 "JumpBoard$Position" "black" "I") (by decide +kernel)
  have f_18 := hts (.fieldLink RX2 18 "JumpBoard$Position" "kings" "I") (by decide +kernel)
  have f_21 := hts (.fieldLink RX2 21 "JumpBoard$Position" "mover" "I") (by decide +kernel)
  have f_24 := hts (.fieldLink RX2 24 "JumpBoard$Position" "kingSteps" "I") (by decide +kernel)
  refine lv_aload_n hx hb dX2_copy_0 rfl (lv_at hl 0 rfl) ?_
  refine lv_aload_n hx hb dX2_copy_1 rfl (lv_at hl 1 rfl) ?_
  refine mm_get (ci := 2) (C := RX2) (T := TX2) (N := 5) hx hb hts in_X2 hown hK hV i_b m_b rfl 0 (by decide) f_9 (fun _ h => h) rfl dX2_copy_2 ?_
  refine mm_put (ci := 2) (v := .int w) (fs' := [.int w, .int b0, .int k0, .int mv0, .int q0]) (ty := .int) (C := RX2) (T := TX2) (N := 5) hx hb hts in_X2 tyX2 tyX2_ok nmX2 hown hK hV i_a m_a rfl 0 (by decide) f_9 (fun _ h => h) rfl (by decide +kernel) rfl rfl (Nat.le_of_ble_eq_true rfl) rfl dX2_copy_5 (fun M_1 H locs eM_1 hV => ?_)
  have m_b : M_1 b = _ := (congrFun eM_1 b).trans ((va_up_ne _ _ (Ne.symm hab)).trans m_b)
  have m_a : M_1 a = .inr (2, [.int w, .int b0, .int k0, .int mv0, .int q0]) := by rw [eM_1]; exact va_up_self _ _ _
  have fr : ∀ q : Nat, q ≠ a → M_1 q = M q := fun q h0 => (congrFun eM_1 q).trans ((va_up_ne _ _ h0).trans rfl)
  refine lv_aload_n hx hb dX2_copy_8 rfl (lv_at hl 0 rfl) ?_
  refine lv_aload_n hx hb dX2_copy_9 rfl (lv_at hl 1 rfl) ?_
  refine mm_get (ci := 2) (C := RX2) (T := TX2) (N := 5) hx hb hts in_X2 hown hK hV i_b m_b rfl 1 (by decide) f_15 (fun _ h => h) rfl dX2_copy_10 ?_
  refine mm_put (ci := 2) (v := .int b1) (fs' := [.int w, .int b1, .int k0, .int mv0, .int q0]) (ty := .int) (C := RX2) (T := TX2) (N := 5) hx hb hts in_X2 tyX2 tyX2_ok nmX2 hown hK hV i_a m_a rfl 1 (by decide) f_15 (fun _ h => h) rfl (by decide +kernel) rfl rfl (Nat.le_of_ble_eq_true rfl) rfl dX2_copy_13 (fun M_2 H locs eM_2 hV => ?_)
  have m_b : M_2 b = _ := (congrFun eM_2 b).trans ((va_up_ne _ _ (Ne.symm hab)).trans m_b)
  have m_a : M_2 a = .inr (2, [.int w, .int b1, .int k0, .int mv0, .int q0]) := by rw [eM_2]; exact va_up_self _ _ _
  have fr : ∀ q : Nat, q ≠ a → M_2 q = M q := fun q h0 => (congrFun eM_2 q).trans ((va_up_ne _ _ h0).trans (fr q h0))
  refine lv_aload_n hx hb dX2_copy_16 rfl (lv_at hl 0 rfl) ?_
  refine lv_aload_n hx hb dX2_copy_17 rfl (lv_at hl 1 rfl) ?_
  refine mm_get (ci := 2) (C := RX2) (T := TX2) (N := 5) hx hb hts in_X2 hown hK hV i_b m_b rfl 2 (by decide) f_18 (fun _ h => h) rfl dX2_copy_18 ?_
  refine mm_put (ci := 2) (v := .int k) (fs' := [.int w, .int b1, .int k, .int mv0, .int q0]) (ty := .int) (C := RX2) (T := TX2) (N := 5) hx hb hts in_X2 tyX2 tyX2_ok nmX2 hown hK hV i_a m_a rfl 2 (by decide) f_18 (fun _ h => h) rfl (by decide +kernel) rfl rfl (Nat.le_of_ble_eq_true rfl) rfl dX2_copy_21 (fun M_3 H locs eM_3 hV => ?_)
  have m_b : M_3 b = _ := (congrFun eM_3 b).trans ((va_up_ne _ _ (Ne.symm hab)).trans m_b)
  have m_a : M_3 a = .inr (2, [.int w, .int b1, .int k, .int mv0, .int q0]) := by rw [eM_3]; exact va_up_self _ _ _
  have fr : ∀ q : Nat, q ≠ a → M_3 q = M q := fun q h0 => (congrFun eM_3 q).trans ((va_up_ne _ _ h0).trans (fr q h0))
  refine lv_aload_n hx hb dX2_copy_24 rfl (lv_at hl 0 rfl) ?_
  refine lv_aload_n hx hb dX2_copy_25 rfl (lv_at hl 1 rfl) ?_
  refine mm_get (ci := 2) (C := RX2) (T := TX2) (N := 5) hx hb hts in_X2 hown hK hV i_b m_b rfl 3 (by decide) f_21 (fun _ h => h) rfl dX2_copy_26 ?_
  refine mm_put (ci := 2) (v := .int mv) (fs' := [.int w, .int b1, .int k, .int mv, .int q0]) (ty := .int) (C := RX2) (T := TX2) (N := 5) hx hb hts in_X2 tyX2 tyX2_ok nmX2 hown hK hV i_a m_a rfl 3 (by decide) f_21 (fun _ h => h) rfl (by decide +kernel) rfl rfl (Nat.le_of_ble_eq_true rfl) rfl dX2_copy_29 (fun M_4 H locs eM_4 hV => ?_)
  have m_b : M_4 b = _ := (congrFun eM_4 b).trans ((va_up_ne _ _ (Ne.symm hab)).trans m_b)
  have m_a : M_4 a = .inr (2, [.int w, .int b1, .int k, .int mv, .int q0]) := by rw [eM_4]; exact va_up_self _ _ _
  have fr : ∀ q : Nat, q ≠ a → M_4 q = M q := fun q h0 => (congrFun eM_4 q).trans ((va_up_ne _ _ h0).trans (fr q h0))
  refine lv_aload_n hx hb dX2_copy_32 rfl (lv_at hl 0 rfl) ?_
  refine lv_aload_n hx hb dX2_copy_33 rfl (lv_at hl 1 rfl) ?_
  refine mm_get (ci := 2) (C := RX2) (T := TX2) (N := 5) hx hb hts in_X2 hown hK hV i_b m_b rfl 4 (by decide) f_24 (fun _ h => h) rfl dX2_copy_34 ?_
  refine mm_put (ci := 2) (v := .int q) (fs' := [.int w, .int b1, .int k, .int mv, .int q]) (ty := .int) (C := RX2) (T := TX2) (N := 5) hx hb hts in_X2 tyX2 tyX2_ok nmX2 hown hK hV i_a m_a rfl 4 (by decide) f_24 (fun _ h => h) rfl (by decide +kernel) rfl rfl (Nat.le_of_ble_eq_true rfl) rfl dX2_copy_37 (fun M_5 H locs eM_5 hV => ?_)
  have m_b : M_5 b = _ := (congrFun eM_5 b).trans ((va_up_ne _ _ (Ne.symm hab)).trans m_b)
  have m_a : M_5 a = .inr (2, [.int w, .int b1, .int k, .int mv, .int q]) := by rw [eM_5]; exact va_up_self _ _ _
  have fr : ∀ q : Nat, q ≠ a → M_5 q = M q := fun q h0 => (congrFun eM_5 q).trans ((va_up_ne _ _ h0).trans (fr q h0))
  exact hret dX2_copy_40 hV (by decide) (by decide) ⟨rfl, mm_fin1 (by rw [m_a]; subst_vars; rfl) fr⟩

set_option maxHeartbeats 1000000 in
set_option maxRecDepth 100000 in
theorem c_follow (l : Launch) (D : va_G) (dA : Nat → ClassId) {L : List Nat} {M : mm_M} {a b : Nat} {P0 P : Ps} (x : Int32) (hab : a ≠ b) (i_a : a ∈ L) (i_b : b ∈ L) (m_a : M a = oP P0) (m_b : M b = oP P) : mm_Cm l D dA yX2_follow wsX2_follow 1 [.ref a, .ref b, .int x] L M (fun M1 => M1 = va_up M a (oP (followP P x))) := by
  obtain ⟨w0, b0, k0, mv0, q0⟩ := P0
  obtain ⟨w, b1, k, mv, q⟩ := P
  have m_a : M a = .inr (2, [.int w0, .int b0, .int k0, .int mv0, .int q0]) := m_a
  have m_b : M b = .inr (2, [.int w, .int b1, .int k, .int mv, .int q]) := m_b
  refine mm_enter_v (cc := cX2_follow) (maxL := 9) (by decide) rfl (Nat.le_of_ble_eq_true rfl) ?_
  intro p e R s m args below meth c A ls H locs Q hR hx hb hml hin hown hts hK hV hl hret
  have hl : lv_has ls 9 [(0, .ref a), (1, .ref b), (2, .int x)] := hl
  have hown : s.vm.findClass RX2 = some m.cls := hown
  have f_21 := hts (.fieldLink RX2 21 "JumpBoard$Position" "mover" "I") (by decide +kernel)
  have in_X2 : ∀ w ∈ wsX20, w ∈ wsX2_follow := by decide +kernel
  have f_18 := hts (.fieldLink RX2 18 "JumpBoard$Position" "kings" "I") (by decide +kernel)
  have f_9 := hts (.fieldLink RX2 9 "JumpBoard$Position" "white" "I") (by decide +kernel)
  have f_15 := hts (.fieldLink RX2 15 "JumpBoard$Position" "black" "I") (by decide +kernel)
  have f_24 := hts (.fieldLink RX2 24 "JumpBoard$Position" "kingSteps" "I") (by decide +kernel)
  refine lv_iconst (v := 1) hx hb dX2_follow_0 (by decide) ?_
  refine lv_iload_n hx hb dX2_follow_1 rfl (lv_at hl 2 rfl) ?_
  refine mm_Sp (v := (mvB x)) (As := [.int x]) (rest := [.int 1]) ⟨hx, hb, hml, hown, hts⟩ hK hV (c_X1_beginning l D dA x) (va_cwS 1 hts gX2_follow_X1_beginning rfl rfl rfl (by decide +kernel) (mm_levR hR (by omega) (by decide))) rfl hl.1 rfl (Nat.le_of_ble_eq_true rfl) dX2_follow_2 ⟨Nat.zero_le _, Nat.zero_le _⟩ (fun H locs hV => ?_)
  refine lv_ishl hx hb dX2_follow_5 ?_
  refine lv_topi (fun x3_1 ex3_1 => ?_)
  refine lv_istore_n (lv' := [(3, .int x3_1), (0, .ref a), (1, .ref b), (2, .int x)]) hx hb dX2_follow_6 rfl hl (by decide) rfl (fun ls hl => ?_)
  refine lv_iconst (v := 1) hx hb dX2_follow_7 (by decide) ?_
  refine lv_iload_n hx hb dX2_follow_8 rfl (lv_at hl 3 rfl) ?_
  refine mm_Sp (v := (mvE x)) (As := [.int x]) (rest := [.int 1]) ⟨hx, hb, hml, hown, hts⟩ hK hV (c_X1_end l D dA x) (va_cwS 1 hts gX2_follow_X1_end rfl rfl rfl (by decide +kernel) (mm_levR hR (by omega) (by decide))) rfl hl.1 rfl (Nat.le_of_ble_eq_true rfl) dX2_follow_9 ⟨Nat.zero_le _, Nat.zero_le _⟩ (fun H locs hV => ?_)
  refine lv_ishl hx hb dX2_follow_12 ?_
  refine lv_topi (fun x4_2 ex4_2 => ?_)
  refine lv_istore (lv' := [(4, .int x4_2), (3, .int x3_1), (0, .ref a), (1, .ref b), (2, .int x)]) hx hb dX2_follow_13 hl (by decide) rfl (fun ls hl => ?_)
  refine lv_iload_n hx hb dX2_follow_15 rfl (lv_at hl 4 rfl) ?_
  refine mm_Sp (v := (mvT x)) (As := [.int x]) (rest := []) ⟨hx, hb, hml, hown, hts⟩ hK hV (c_X1_taken l D dA x) (va_cwS 1 hts gX2_follow_X1_taken rfl rfl rfl (by decide +kernel) (mm_levR hR (by omega) (by decide))) rfl hl.1 rfl (Nat.le_of_ble_eq_true rfl) dX2_follow_16 ⟨Nat.zero_le _, Nat.zero_le _⟩ (fun H locs hV => ?_)
  refine lv_topi (fun x5_3 ex5_3 => ?_)
  refine lv_istore (lv' := [(5, .int x5_3), (4, .int x4_2), (3, .int x3_1), (0, .ref a), (1, .ref b), (2, .int x)]) hx hb dX2_follow_19 hl (by decide) rfl (fun ls hl => ?_)
  refine lv_aload_n hx hb dX2_follow_21 rfl (lv_at hl 4 rfl) ?_
  refine mm_get (ci := 2) (C := RX2) (T := TX2) (N := 5) hx hb hts in_X2 hown hK hV i_b m_b rfl 3 (by decide) f_21 (fun _ h => h) rfl dX2_follow_22 ?_
  have J33 : ∀ (v33_4 : Int32), v33_4 = (if mv = 0 then 1 else 0) → W p l e R s m args below meth c H locs 0 0 Q (F0 m 33 ls [.int v33_4]) := by
    intro v33_4 ev33_4
    refine lv_istore (lv' := [(6, .int v33_4), (5, .int x5_3), (4, .int x4_2), (3, .int x3_1), (0, .ref a), (1, .ref b), (2, .int x)]) hx hb dX2_follow_33 hl (by decide) rfl (fun ls hl => ?_)
    refine lv_aload_n hx hb dX2_follow_35 rfl (lv_at hl 5 rfl) ?_
    refine mm_get (ci := 2) (C := RX2) (T := TX2) (N := 5) hx hb hts in_X2 hown hK hV i_b m_b rfl 2 (by decide) f_18 (fun _ h => h) rfl dX2_follow_36 ?_
    refine lv_iload_n hx hb dX2_follow_39 rfl (lv_at hl 3 rfl) ?_
    refine lv_iand hx hb dX2_follow_40 ?_
    have J49 : ∀ (v49_5 : Int32), v49_5 = (if (k &&& x3_1) = 0 then 0 else 1) → W p l e R s m args below meth c H locs 0 0 Q (F0 m 49 ls [.int v49_5]) := by
      intro v49_5 ev49_5
      refine lv_istore (lv' := [(7, .int v49_5), (6, .int v33_4), (5, .int x5_3), (4, .int x4_2), (3, .int x3_1), (0, .ref a), (1, .ref b), (2, .int x)]) hx hb dX2_follow_49 hl (by decide) rfl (fun ls hl => ?_)
      refine lv_iload hx hb dX2_follow_51 (lv_at hl 1 rfl) ?_
      have J63 : ∀ (v63_6 : Int32), v63_6 = (if v33_4 = 0 then 7 else 229376) → W p l e R s m args below meth c H locs 0 0 Q (F0 m 63 ls [.int v63_6]) := by
        intro v63_6 ev63_6
        refine lv_istore (lv' := [(8, .int v63_6), (7, .int v49_5), (6, .int v33_4), (5, .int x5_3), (4, .int x4_2), (3, .int x3_1), (0, .ref a), (1, .ref b), (2, .int x)]) hx hb dX2_follow_63 hl (by decide) rfl (fun ls hl => ?_)
        refine lv_aload_n hx hb dX2_follow_65 rfl (lv_at hl 6 rfl) ?_
        refine lv_iload hx hb dX2_follow_66 (lv_at hl 2 rfl) ?_
        have J94 : ∀ (v94_7 : Int32), v94_7 = (if v33_4 = 0 then (w &&& (x5_3 ^^^ (-1))) else ((w &&& (x3_1 ^^^ (-1))) ||| x4_2)) → W p l e R s m args below meth c H locs 0 0 Q (F0 m 94 ls [.int v94_7, .ref a]) := by
          intro v94_7 ev94_7
          refine mm_put (ci := 2) (v := .int v94_7) (fs' := [.int v94_7, .int b0, .int k0, .int mv0, .int q0]) (ty := .int) (C := RX2) (T := TX2) (N := 5) hx hb hts in_X2 tyX2 tyX2_ok nmX2 hown hK hV i_a m_a rfl 0 (by decide) f_9 (fun _ h => h) rfl (by decide +kernel) rfl rfl (Nat.le_of_ble_eq_true rfl) rfl dX2_follow_94 (fun M_8 H locs eM_8 hV => ?_)
          have m_b : M_8 b = _ := (congrFun eM_8 b).trans ((va_up_ne _ _ (Ne.symm hab)).trans m_b)
          have m_a : M_8 a = .inr (2, [.int v94_7, .int b0, .int k0, .int mv0, .int q0]) := by rw [eM_8]; exact va_up_self _ _ _
          have fr : ∀ q : Nat, q ≠ a → M_8 q = M q := fun q h0 => (congrFun eM_8 q).trans ((va_up_ne _ _ h0).trans rfl)
          refine lv_aload_n hx hb dX2_follow_97 rfl (lv_at hl 6 rfl) ?_
          refine lv_iload hx hb dX2_follow_98 (lv_at hl 2 rfl) ?_
          have J126 : ∀ (v126_9 : Int32), v126_9 = (if v33_4 = 0 then ((b1 &&& (x3_1 ^^^ (-1))) ||| x4_2) else (b1 &&& (x5_3 ^^^ (-1)))) → W p l e R s m args below meth c H locs 0 0 Q (F0 m 126 ls [.int v126_9, .ref a]) := by
            intro v126_9 ev126_9
            refine mm_put (ci := 2) (v := .int v126_9) (fs' := [.int v94_7, .int v126_9, .int k0, .int mv0, .int q0]) (ty := .int) (C := RX2) (T := TX2) (N := 5) hx hb hts in_X2 tyX2 tyX2_ok nmX2 hown hK hV i_a m_a rfl 1 (by decide) f_15 (fun _ h => h) rfl (by decide +kernel) rfl rfl (Nat.le_of_ble_eq_true rfl) rfl dX2_follow_126 (fun M_10 H locs eM_10 hV => ?_)
            have m_b : M_10 b = _ := (congrFun eM_10 b).trans ((va_up_ne _ _ (Ne.symm hab)).trans m_b)
            have m_a : M_10 a = .inr (2, [.int v94_7, .int v126_9, .int k0, .int mv0, .int q0]) := by rw [eM_10]; exact va_up_self _ _ _
            have fr : ∀ q : Nat, q ≠ a → M_10 q = M q := fun q h0 => (congrFun eM_10 q).trans ((va_up_ne _ _ h0).trans (fr q h0))
            refine lv_aload_n hx hb dX2_follow_129 rfl (lv_at hl 6 rfl) ?_
            refine lv_aload_n hx hb dX2_follow_130 rfl (lv_at hl 7 rfl) ?_
            refine mm_get (ci := 2) (C := RX2) (T := TX2) (N := 5) hx hb hts in_X2 hown hK hV i_b m_b rfl 2 (by decide) f_18 (fun _ h => h) rfl dX2_follow_131 ?_
            refine lv_iload_n hx hb dX2_follow_134 rfl (lv_at hl 5 rfl) ?_
            refine lv_iconst (v := (-1)) hx hb dX2_follow_135 (by decide) ?_
            refine lv_ixor hx hb dX2_follow_136 ?_
            refine lv_iand hx hb dX2_follow_137 ?_
            refine lv_iload hx hb dX2_follow_138 (lv_at hl 3 rfl) ?_
            refine lv_iconst (v := (-1)) hx hb dX2_follow_140 (by decide) ?_
            refine lv_ixor hx hb dX2_follow_141 ?_
            refine lv_iand hx hb dX2_follow_142 ?_
            refine lv_topi (fun v_11 ev_11 => ?_)
            refine mm_put (ci := 2) (v := .int v_11) (fs' := [.int v94_7, .int v126_9, .int v_11, .int mv0, .int q0]) (ty := .int) (C := RX2) (T := TX2) (N := 5) hx hb hts in_X2 tyX2 tyX2_ok nmX2 hown hK hV i_a m_a rfl 2 (by decide) f_18 (fun _ h => h) rfl (by decide +kernel) rfl rfl (Nat.le_of_ble_eq_true rfl) rfl dX2_follow_143 (fun M_12 H locs eM_12 hV => ?_)
            have m_b : M_12 b = _ := (congrFun eM_12 b).trans ((va_up_ne _ _ (Ne.symm hab)).trans m_b)
            have m_a : M_12 a = .inr (2, [.int v94_7, .int v126_9, .int v_11, .int mv0, .int q0]) := by rw [eM_12]; exact va_up_self _ _ _
            have fr : ∀ q : Nat, q ≠ a → M_12 q = M q := fun q h0 => (congrFun eM_12 q).trans ((va_up_ne _ _ h0).trans (fr q h0))
            refine lv_iload hx hb dX2_follow_146 (lv_at hl 1 rfl) ?_
            have J170 : ∀ (M_17 : mm_M) (H : Heap) (locs : List Loc) (w_18 : Int32), mm_V A D L M_17 s H locs → w_18 = (if v49_5 = 0 then (if (x4_2 &&& v63_6) = 0 then v_11 else (v_11 ||| x4_2)) else (v_11 ||| x4_2)) → M_17 a = .inr (2, [.int v94_7, .int v126_9, .int w_18, .int mv0, .int q0]) → M_17 b = .inr (2, [.int w, .int b1, .int k, .int mv, .int q]) → (∀ q : Nat, q ≠ a → M_17 q = M q) → W p l e R s m args below meth c H locs 0 0 Q (F0 m 170 ls []) := by
              intro M_17 H locs w_18 hV ew_18 m_a m_b fr
              refine lv_aload_n hx hb dX2_follow_170 rfl (lv_at hl 6 rfl) ?_
              refine lv_iload hx hb dX2_follow_171 (lv_at hl 2 rfl) ?_
              have J181 : ∀ (v181_19 : Int32), v181_19 = (if v33_4 = 0 then 0 else 1) → W p l e R s m args below meth c H locs 0 0 Q (F0 m 181 ls [.int v181_19, .ref a]) := by
                intro v181_19 ev181_19
                refine mm_put (ci := 2) (v := .int v181_19) (fs' := [.int v94_7, .int v126_9, .int w_18, .int v181_19, .int q0]) (ty := .int) (C := RX2) (T := TX2) (N := 5) hx hb hts in_X2 tyX2 tyX2_ok nmX2 hown hK hV i_a m_a rfl 3 (by decide) f_21 (fun _ h => h) rfl (by decide +kernel) rfl rfl (Nat.le_of_ble_eq_true rfl) rfl dX2_follow_181 (fun M_20 H locs eM_20 hV => ?_)
                have m_b : M_20 b = _ := (congrFun eM_20 b).trans ((va_up_ne _ _ (Ne.symm hab)).trans m_b)
                have m_a : M_20 a = .inr (2, [.int v94_7, .int v126_9, .int w_18, .int v181_19, .int q0]) := by rw [eM_20]; exact va_up_self _ _ _
                have fr : ∀ q : Nat, q ≠ a → M_20 q = M q := fun q h0 => (congrFun eM_20 q).trans ((va_up_ne _ _ h0).trans (fr q h0))
                refine lv_aload_n hx hb dX2_follow_184 rfl (lv_at hl 6 rfl) ?_
                refine lv_iload hx hb dX2_follow_185 (lv_at hl 1 rfl) ?_
                have J205 : ∀ (v205_21 : Int32), v205_21 = (if v49_5 = 0 then 0 else (if x5_3 = 0 then (q + 1) else 0)) → W p l e R s m args below meth c H locs 0 0 Q (F0 m 205 ls [.int v205_21, .ref a]) := by
                  intro v205_21 ev205_21
                  refine mm_put (ci := 2) (v := .int v205_21) (fs' := [.int v94_7, .int v126_9, .int w_18, .int v181_19, .int v205_21]) (ty := .int) (C := RX2) (T := TX2) (N := 5) hx hb hts in_X2 tyX2 tyX2_ok nmX2 hown hK hV i_a m_a rfl 4 (by decide) f_24 (fun _ h => h) rfl (by decide +kernel) rfl rfl (Nat.le_of_ble_eq_true rfl) rfl dX2_follow_205 (fun M_22 H locs eM_22 hV => ?_)
                  have m_b : M_22 b = _ := (congrFun eM_22 b).trans ((va_up_ne _ _ (Ne.symm hab)).trans m_b)
                  have m_a : M_22 a = .inr (2, [.int v94_7, .int v126_9, .int w_18, .int v181_19, .int v205_21]) := by rw [eM_22]; exact va_up_self _ _ _
                  have fr : ∀ q : Nat, q ≠ a → M_22 q = M q := fun q h0 => (congrFun eM_22 q).trans ((va_up_ne _ _ h0).trans (fr q h0))
                  exact hret dX2_follow_208 hV (by decide) (by decide) ⟨rfl, mm_fin1 (by rw [m_a]; subst_vars; unfold followP oP; simp only []; split <;> simp_all) fr⟩
                refine lv_if_eq (tgt := 204) hx hb dX2_follow_187 (by decide) (fun c187 => ?_) (fun c187 => ?_)
                · refine lv_iconst (v := 0) hx hb dX2_follow_204 (by decide) ?_
                  exact J205 _ (by rw [if_pos c187])
                · refine lv_iload hx hb dX2_follow_190 (lv_at hl 3 rfl) ?_
                  refine lv_if_ne (tgt := 204) hx hb dX2_follow_192 (by decide) (fun c192 => ?_) (fun c192 => ?_)
                  · refine lv_iconst (v := 0) hx hb dX2_follow_204 (by decide) ?_
                    exact J205 _ (by rw [if_neg c187, if_neg c192])
                  · refine lv_aload_n hx hb dX2_follow_195 rfl (lv_at hl 7 rfl) ?_
                    refine mm_get (ci := 2) (C := RX2) (T := TX2) (N := 5) hx hb hts in_X2 hown hK hV i_b m_b rfl 4 (by decide) f_24 (fun _ h => h) rfl dX2_follow_196 ?_
                    refine lv_iconst (v := 1) hx hb dX2_follow_199 (by decide) ?_
                    refine lv_iadd hx hb dX2_follow_200 ?_
                    refine lv_goto (tgt := 205) hx hb dX2_follow_201 (by decide) ?_
                    exact J205 _ (by rw [if_neg c187, if_pos c192])
              refine lv_if_eq (tgt := 180) hx hb dX2_follow_173 (by decide) (fun c173 => ?_) (fun c173 => ?_)
              · refine lv_iconst (v := 0) hx hb dX2_follow_180 (by decide) ?_
                exact J181 _ (by rw [if_pos c173])
              · refine lv_iconst (v := 1) hx hb dX2_follow_176 (by decide) ?_
                refine lv_goto (tgt := 181) hx hb dX2_follow_177 (by decide) ?_
                exact J181 _ (by rw [if_neg c173])
            refine lv_if_ne (tgt := 159) hx hb dX2_follow_148 (by decide) (fun c148 => ?_) (fun c148 => ?_)
            · refine lv_aload_n hx hb dX2_follow_159 rfl (lv_at hl 6 rfl) ?_
              refine lv_dup hx hb dX2_follow_160 rfl ?_
              refine mm_get (ci := 2) (C := RX2) (T := TX2) (N := 5) hx hb hts in_X2 hown hK hV i_a m_a rfl 2 (by decide) f_18 (fun _ h => h) rfl dX2_follow_161 ?_
              refine lv_iload hx hb dX2_follow_164 (lv_at hl 4 rfl) ?_
              refine lv_ior hx hb dX2_follow_166 ?_
              refine lv_topi (fun v_13 ev_13 => ?_)
              refine mm_put (ci := 2) (v := .int v_13) (fs' := [.int v94_7, .int v126_9, .int v_13, .int mv0, .int q0]) (ty := .int) (C := RX2) (T := TX2) (N := 5) hx hb hts in_X2 tyX2 tyX2_ok nmX2 hown hK hV i_a m_a rfl 2 (by decide) f_18 (fun _ h => h) rfl (by decide +kernel) rfl rfl (Nat.le_of_ble_eq_true rfl) rfl dX2_follow_167 (fun M_14 H locs eM_14 hV => ?_)
              have m_b : M_14 b = _ := (congrFun eM_14 b).trans ((va_up_ne _ _ (Ne.symm hab)).trans m_b)
              have m_a : M_14 a = .inr (2, [.int v94_7, .int v126_9, .int v_13, .int mv0, .int q0]) := by rw [eM_14]; exact va_up_self _ _ _
              have fr : ∀ q : Nat, q ≠ a → M_14 q = M q := fun q h0 => (congrFun eM_14 q).trans ((va_up_ne _ _ h0).trans (fr q h0))
              exact J170 _ _ _ _ hV (by rw [if_neg c148, ev_13]) m_a m_b (fun q h0 => fr q h0)
            · refine lv_iload hx hb dX2_follow_151 (lv_at hl 4 rfl) ?_
              refine lv_iload hx hb dX2_follow_153 (lv_at hl 0 rfl) ?_
              refine lv_iand hx hb dX2_follow_155 ?_
              refine lv_if_eq (tgt := 170) hx hb dX2_follow_156 (by decide) (fun c156 => ?_) (fun c156 => ?_)
              · exact J170 _ _ _ _ hV (by rw [if_pos c148, if_pos c156]) m_a m_b (fun q h0 => fr q h0)
              · refine lv_aload_n hx hb dX2_follow_159 rfl (lv_at hl 6 rfl) ?_
                refine lv_dup hx hb dX2_follow_160 rfl ?_
                refine mm_get (ci := 2) (C := RX2) (T := TX2) (N := 5) hx hb hts in_X2 hown hK hV i_a m_a rfl 2 (by decide) f_18 (fun _ h => h) rfl dX2_follow_161 ?_
                refine lv_iload hx hb dX2_follow_164 (lv_at hl 4 rfl) ?_
                refine lv_ior hx hb dX2_follow_166 ?_
                refine lv_topi (fun v_15 ev_15 => ?_)
                refine mm_put (ci := 2) (v := .int v_15) (fs' := [.int v94_7, .int v126_9, .int v_15, .int mv0, .int q0]) (ty := .int) (C := RX2) (T := TX2) (N := 5) hx hb hts in_X2 tyX2 tyX2_ok nmX2 hown hK hV i_a m_a rfl 2 (by decide) f_18 (fun _ h => h) rfl (by decide +kernel) rfl rfl (Nat.le_of_ble_eq_true rfl) rfl dX2_follow_167 (fun M_16 H locs eM_16 hV => ?_)
                have m_b : M_16 b = _ := (congrFun eM_16 b).trans ((va_up_ne _ _ (Ne.symm hab)).trans m_b)
                have m_a : M_16 a = .inr (2, [.int v94_7, .int v126_9, .int v_15, .int mv0, .int q0]) := by rw [eM_16]; exact va_up_self _ _ _
                have fr : ∀ q : Nat, q ≠ a → M_16 q = M q := fun q h0 => (congrFun eM_16 q).trans ((va_up_ne _ _ h0).trans (fr q h0))
                exact J170 _ _ _ _ hV (by rw [if_pos c148, if_neg c156, ev_15]) m_a m_b (fun q h0 => fr q h0)
          refine lv_if_eq (tgt := 115) hx hb dX2_follow_100 (by decide) (fun c100 => ?_) (fun c100 => ?_)
          · refine lv_aload_n hx hb dX2_follow_115 rfl (lv_at hl 7 rfl) ?_
            refine mm_get (ci := 2) (C := RX2) (T := TX2) (N := 5) hx hb hts in_X2 hown hK hV i_b m_b rfl 1 (by decide) f_15 (fun _ h => h) rfl dX2_follow_116 ?_
            refine lv_iload_n hx hb dX2_follow_119 rfl (lv_at hl 5 rfl) ?_
            refine lv_iconst (v := (-1)) hx hb dX2_follow_120 (by decide) ?_
            refine lv_ixor hx hb dX2_follow_121 ?_
            refine lv_iand hx hb dX2_follow_122 ?_
            refine lv_iload hx hb dX2_follow_123 (lv_at hl 4 rfl) ?_
            refine lv_ior hx hb dX2_follow_125 ?_
            exact J126 _ (by rw [if_pos c100])
          · refine lv_aload_n hx hb dX2_follow_103 rfl (lv_at hl 7 rfl) ?_
            refine mm_get (ci := 2) (C := RX2) (T := TX2) (N := 5) hx hb hts in_X2 hown hK hV i_b m_b rfl 1 (by decide) f_15 (fun _ h => h) rfl dX2_follow_104 ?_
            refine lv_iload hx hb dX2_follow_107 (lv_at hl 3 rfl) ?_
            refine lv_iconst (v := (-1)) hx hb dX2_follow_109 (by decide) ?_
            refine lv_ixor hx hb dX2_follow_110 ?_
            refine lv_iand hx hb dX2_follow_111 ?_
            refine lv_goto (tgt := 126) hx hb dX2_follow_112 (by decide) ?_
            exact J126 _ (by rw [if_neg c100])
        refine lv_if_eq (tgt := 85) hx hb dX2_follow_68 (by decide) (fun c68 => ?_) (fun c68 => ?_)
        · refine lv_aload_n hx hb dX2_follow_85 rfl (lv_at hl 7 rfl) ?_
          refine mm_get (ci := 2) (C := RX2) (T := TX2) (N := 5) hx hb hts in_X2 hown hK hV i_b m_b rfl 0 (by decide) f_9 (fun _ h => h) rfl dX2_follow_86 ?_
          refine lv_iload hx hb dX2_follow_89 (lv_at hl 3 rfl) ?_
          refine lv_iconst (v := (-1)) hx hb dX2_follow_91 (by decide) ?_
          refine lv_ixor hx hb dX2_follow_92 ?_
          refine lv_iand hx hb dX2_follow_93 ?_
          exact J94 _ (by rw [if_pos c68])
        · refine lv_aload_n hx hb dX2_follow_71 rfl (lv_at hl 7 rfl) ?_
          refine mm_get (ci := 2) (C := RX2) (T := TX2) (N := 5) hx hb hts in_X2 hown hK hV i_b m_b rfl 0 (by decide) f_9 (fun _ h => h) rfl dX2_follow_72 ?_
          refine lv_iload_n hx hb dX2_follow_75 rfl (lv_at hl 5 rfl) ?_
          refine lv_iconst (v := (-1)) hx hb dX2_follow_76 (by decide) ?_
          refine lv_ixor hx hb dX2_follow_77 ?_
          refine lv_iand hx hb dX2_follow_78 ?_
          refine lv_iload hx hb dX2_follow_79 (lv_at hl 4 rfl) ?_
          refine lv_ior hx hb dX2_follow_81 ?_
          refine lv_goto (tgt := 94) hx hb dX2_follow_82 (by decide) ?_
          exact J94 _ (by rw [if_neg c68])
      refine lv_if_eq (tgt := 61) hx hb dX2_follow_53 (by decide) (fun c53 => ?_) (fun c53 => ?_)
      · refine lv_bipush (v := 7) hx hb dX2_follow_61 (by decide) ?_
        exact J63 _ (by rw [if_pos c53])
      · refine lv_ldc hx hb hown (hts (.constant RX2 48 (229376)) (by decide +kernel)) dX2_follow_56 ?_
        refine lv_goto (tgt := 63) hx hb dX2_follow_58 (by decide) ?_
        exact J63 _ (by rw [if_neg c53])
    refine lv_if_eq (tgt := 48) hx hb dX2_follow_41 (by decide) (fun c41 => ?_) (fun c41 => ?_)
    · refine lv_iconst (v := 0) hx hb dX2_follow_48 (by decide) ?_
      exact J49 _ (by rw [if_pos c41])
    · refine lv_iconst (v := 1) hx hb dX2_follow_44 (by decide) ?_
      refine lv_goto (tgt := 49) hx hb dX2_follow_45 (by decide) ?_
      exact J49 _ (by rw [if_neg c41])
  refine lv_if_ne (tgt := 32) hx hb dX2_follow_25 (by decide) (fun c25 => ?_) (fun c25 => ?_)
  · refine lv_iconst (v := 0) hx hb dX2_follow_32 (by decide) ?_
    exact J33 _ (by rw [if_neg c25])
  · refine lv_iconst (v := 1) hx hb dX2_follow_28 (by decide) ?_
    refine lv_goto (tgt := 33) hx hb dX2_follow_29 (by decide) ?_
    exact J33 _ (by rw [if_pos c25])
