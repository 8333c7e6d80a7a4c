theorem gd_l {A B : List Nat} {k : Nat} (h : k < A.length) : (A ++ B).getD k 0 = A.getD k 0 := by
  rw [List.getD_eq_getElem?_getD, List.getD_eq_getElem?_getD, List.getElem?_append_left h]
theorem gd_r {A B : List Nat} {k n : Nat} (h : A.length = n) : (A ++ B).getD (n + k) 0 = B.getD k 0 := by
  rw [List.getD_eq_getElem?_getD, List.getD_eq_getElem?_getD, List.getElem?_append_right (by omega), ← h, Nat.add_sub_cancel_left]
theorem gd_n {A : List Nat} {q n : Nat} (h : A.length = n) : (A ++ [q]).getD n 0 = q := by
  have := gd_r (A := A) (B := [q]) (k := 0) h
  exact this
theorem gd_in {A : List Nat} {k : Nat} (h : k < A.length) : A.getD k 0 ∈ A := by
  rw [List.getD_eq_getElem?_getD, List.getElem?_eq_getElem h]
  exact List.getElem_mem h
theorem gd_at {A : List Nat} {k : Nat} (h : k < A.length) : A[k]? = some (A.getD k 0) := by
  rw [List.getD_eq_getElem?_getD, List.getElem?_eq_getElem h]; rfl
def gN (N : List Nat) (i : Nat) : Nat → Option Nat := fun j => if j < i then some (N.getD j 0) else none
theorem gN_0 (N : List Nat) : (fun _ => none) = gN N 0 := by funext j; unfold gN; rw [if_neg (by omega)]
theorem gN_s {N : List Nat} {i q : Nat} (h : N.length = i) : va_up (gN N i) i (some q) = gN (N ++ [q]) (i + 1) := by
  funext j
  by_cases hj : j = i
  · subst hj; rw [va_up_self]; unfold gN; rw [if_pos (by omega), gd_n h]
  · rw [va_up_ne _ _ hj]; unfold gN
    by_cases h2 : j < i
    · rw [if_pos h2, if_pos (by omega), gd_l (by omega)]
    · rw [if_neg h2, if_neg (by omega)]
/-- every third one of a list, from a on -/
def gM (N : List Nat) (a i : Nat) : Nat → Option Nat := fun j => if j < i then some (N.getD (3 * j + a) 0) else none
theorem gM_0 (N : List Nat) (a : Nat) : (fun _ => none) = gM N a 0 := by funext j; unfold gM; rw [if_neg (by omega)]
theorem gM_s {N N2 : List Nat} {a i q : Nat} (h : N.length = 3 * i) (hq : (N ++ N2).getD (3 * i + a) 0 = q) (ha : a < 3) : va_up (gM N a i) i (some q) = gM (N ++ N2) a (i + 1) := by
  funext j
  by_cases hj : j = i
  · subst hj; rw [va_up_self]; unfold gM; rw [if_pos (by omega), hq]
  · rw [va_up_ne _ _ hj]; unfold gM
    by_cases h2 : j < i
    · rw [if_pos h2, if_pos (by omega), gd_l (by omega)]
    · rw [if_neg h2, if_neg (by omega)]
def zN (ob : Nat) (N : List Nat) : Nat → Nat := fun k => if k = 0 then ob else N.getD (k - 1) 0
theorem zN_s (ob : Nat) (N : List Nat) (k : Nat) : zN ob N (k + 1) = N.getD k 0 := by unfold zN; rw [if_neg (by omega)]; rfl
theorem zN_W {ob : Nat} {L N : List Nat} (ho : ob ∈ L) (hn : N.length = 125) (hd : mm_nd (L ++ N)) : zW (L ++ N) (zN ob N) := by
  obtain ⟨p, hp⟩ := List.getElem?_of_mem ho
  have hpl : p < L.length := (List.getElem?_eq_some_iff.mp hp).1
  have at0 : (L ++ N)[p]? = some (zN ob N 0) := by rw [List.getElem?_append_left hpl, hp]; rfl
  have ats : ∀ k, k < 125 → (L ++ N)[L.length + k]? = some (zN ob N (k + 1)) := by
    intro k hk
    rw [List.getElem?_append_right (by omega), Nat.add_sub_cancel_left, zN_s]
    exact gd_at (by omega)
  refine ⟨fun i hi => ?_, fun i j hi hj e => ?_⟩
  · cases i with
    | zero => exact List.mem_append_left _ ho
    | succ k => exact List.mem_of_getElem? (ats k (by omega))
  · cases i with
    | zero =>
      cases j with
      | zero => rfl
      | succ b =>
        have h2 := ats b (by omega)
        rw [← e] at h2
        have := hd _ _ _ at0 h2
        omega
    | succ a =>
      cases j with
      | zero =>
        have h2 := ats a (by omega)
        rw [e] at h2
        have := hd _ _ _ at0 h2
        omega
      | succ b =>
        have h1 := ats a (by omega)
        have h2 := ats b (by omega)
        rw [← e] at h2
        have := hd _ _ _ h1 h2
        omega

/-- the cells of the lists and spots: a list, its row, a spot, and so on -/
def cN (dA : Nat → ClassId) (N : List Nat) (j : Nat) : va_E := if j % 3 = 0 then oL (N.getD (j + 1) 0) (nI 0) else if j % 3 = 1 then .inl (dA 0, 72, .inl (fun _ => 0)) else oP (0, 0, 0, 0, 0)
theorem n3_in {N : List Nat} {i ll lk sp : Nat} {S : Nat → Prop} (hN : N.length = 3 * i) (g0 : (N ++ [ll, lk, sp]).getD (3 * i + 0) 0 = ll) (g1 : (N ++ [ll, lk, sp]).getD (3 * i + 1) 0 = lk) (g2 : (N ++ [ll, lk, sp]).getD (3 * i + 2) 0 = sp) (h : ∀ j, j < 3 * i → S (N.getD j 0)) (s0 : S ll) (s1 : S lk) (s2 : S sp) : ∀ j, j < 3 * (i + 1) → S ((N ++ [ll, lk, sp]).getD j 0) := by
  intro j hj
  by_cases h1 : j < 3 * i
  · rw [gd_l (by omega)]; exact h j h1
  · rcases (show j = 3 * i + 0 ∨ j = 3 * i + 1 ∨ j = 3 * i + 2 by omega) with e | e | e <;> rw [e]
    · rw [g0]; exact s0
    · rw [g1]; exact s1
    · rw [g2]; exact s2
theorem n3_c {dA : Nat → ClassId} {M : mm_M} {N : List Nat} {i ll lk sp : Nat} (hN : N.length = 3 * i) (g0 : (N ++ [ll, lk, sp]).getD (3 * i + 0) 0 = ll) (g1 : (N ++ [ll, lk, sp]).getD (3 * i + 1) 0 = lk) (g2 : (N ++ [ll, lk, sp]).getD (3 * i + 2) 0 = sp) (h : ∀ j, j < 3 * i → M (N.getD j 0) = cN dA N j) (s0 : M ll = .inr (1, [.ref lk, .int (nI 0)])) (s1 : M lk = .inl (dA 0, 72, .inl (fun _ => 0))) (s2 : M sp = .inr (2, [.int 0, .int 0, .int 0, .int 0, .int 0])) : ∀ j, j < 3 * (i + 1) → M ((N ++ [ll, lk, sp]).getD j 0) = cN dA (N ++ [ll, lk, sp]) j := by
  intro j hj
  by_cases h1 : j < 3 * i
  · rw [gd_l (by omega), h j h1]
    unfold cN
    by_cases h2 : j % 3 = 0
    · rw [if_pos h2, if_pos h2, gd_l (by omega)]
    · rw [if_neg h2, if_neg h2]
  · rcases (show j = 3 * i + 0 ∨ j = 3 * i + 1 ∨ j = 3 * i + 2 by omega) with e | e | e <;> rw [e]
    · rw [g0, s0]; unfold cN; rw [if_pos (by omega), show 3 * i + 0 + 1 = 3 * i + 1 by omega, g1]; rfl
    · rw [g1, s1]; unfold cN; rw [if_neg (by omega), if_pos (by omega)]
    · rw [g2, s2]; unfold cN; rw [if_neg (by omega), if_neg (by omega)]; rfl
theorem bi_fin {dA : Nat → ClassId} {L Ld N1 N2 : List Nat} {M M2 M9 : mm_M} {o ru nr bh la t pk af lsa spa : Nat} (i_o : o ∈ L) (hLd : Ld = L ++ ([ru, nr, bh, la, t, pk, af, lsa, spa] ++ (N1 ++ N2))) (hN1 : N1.length = 101) (hN2 : N2.length = 15) (hnd : mm_nd Ld)
    (m_o : M2 o = .inr (4, [.ref ru, .null, .ref la, .int 0, .ref t, .ref af, .ref lsa, .ref spa])) (m_ru : M2 ru = .inr (3, [.ref nr, .ref bh])) (m_nr : M2 nr = .inl (dA 0, 72, .inl nearT)) (m_bh : M2 bh = .inl (dA 0, 72, .inl behT)) (m_la : M2 la = .inl (dA 4, 101, .inr (.inr (.inr (.inr (gN N1 101)))))) (m_t : M2 t = .inr (1, [.ref pk, .int (nI 0)])) (m_pk : M2 pk = .inl (dA 0, 72, .inl (fun _ => 0))) (m_af : M2 af = .inr (2, [.int 0, .int 0, .int 0, .int 0, .int 0])) (m_lsa : M2 lsa = .inl (dA 5, 5, .inr (.inr (.inr (.inr (gM N2 0 5)))))) (m_spa : M2 spa = .inl (dA 4, 5, .inr (.inr (.inr (.inr (gM N2 2 5))))))
    (hPc : ∀ j, j < 3 * 5 → M2 (N2.getD j 0) = cN dA N2 j) (hNc : ∀ j, j < 101 → M2 (N1.getD j 0) = oP (0, 0, 0, 0, 0)) (fE : ∀ q, q ∈ L → q ≠ o → M2 q = M q) (eM9 : M9 = va_up M2 (N1.getD 0 0) (oP setUpP)) : (fun L1 M1 => ∃ z : Nat → Nat, z 0 = o ∧ zW L1 z ∧ M1 (z 0) = jO z .null 0 ∧ jF dA M1 z ∧ jY dA M1 z ∧ jT dA M1 (z 5) (z 6) ∧ (∃ Q, M1 (z 7) = oP Q) ∧ M1 (z 10) = oP setUpP ∧ (∀ i, i < 101 → ∃ Q, M1 (z (10 + i)) = oP Q) ∧ (∀ q, q ∈ L → q ∈ L1) ∧ ∀ q, q ∈ L → q ≠ o → M1 q = M q) Ld M9 := by
  subst hLd
  have hz := zN_W i_o (N := [ru, nr, bh, la, t, pk, af, lsa, spa] ++ (N1 ++ N2)) (by rw [List.length_append, List.length_append, hN1, hN2]; rfl) hnd
  obtain ⟨z, ez⟩ : ∃ z, z = zN o ([ru, nr, bh, la, t, pk, af, lsa, spa] ++ (N1 ++ N2)) := ⟨_, rfl⟩
  rw [← ez] at hz
  have h9 : ([ru, nr, bh, la, t, pk, af, lsa, spa] : List Nat).length = 9 := rfl
  have z0 : z 0 = o := by rw [ez]; rfl
  have zk : ∀ k, k < 9 → z (k + 1) = ([ru, nr, bh, la, t, pk, af, lsa, spa] : List Nat).getD k 0 := fun k hk => by rw [ez, zN_s, gd_l (by omega)]
  have z1 : z 1 = ru := zk 0 (by omega)
  have z2 : z 2 = nr := zk 1 (by omega)
  have z3 : z 3 = bh := zk 2 (by omega)
  have z4 : z 4 = la := zk 3 (by omega)
  have z5 : z 5 = t := zk 4 (by omega)
  have z6 : z 6 = pk := zk 5 (by omega)
  have z7 : z 7 = af := zk 6 (by omega)
  have z8 : z 8 = lsa := zk 7 (by omega)
  have z9 : z 9 = spa := zk 8 (by omega)
  have zl : ∀ j, j < 101 → z (10 + j) = N1.getD j 0 := fun j hj => by
    rw [ez, show 10 + j = (9 + j) + 1 by omega, zN_s, gd_r h9, gd_l (by omega)]
  have zx : ∀ j, j < 15 → z (111 + j) = N2.getD j 0 := fun j hj => by
    rw [ez, show 111 + j = (9 + (101 + j)) + 1 by omega, zN_s, gd_r h9, gd_r hN1]
  have keep : ∀ k, k < 126 → k ≠ 10 → M9 (z k) = M2 (z k) := fun k hk h10 => by
    rw [eM9, ← zl 0 (by omega)]
    exact va_up_ne _ _ (hz.ne hk (by omega) h10)
  refine ⟨z, z0, hz, ?_, ⟨?_, ?_, ?_, ?_, ?_, ?_⟩, ⟨fun i hi => ?_, fun i hi => ?_⟩, ?_, ?_, ?_, fun i hi => ?_, fun q h => List.mem_append_left _ h, fun q h h1 => ?_⟩
  · rw [keep 0 (by omega) (by omega)]; unfold jO; rw [z0, z1, z4, z5, z7, z8, z9]; exact m_o
  · rw [keep 1 (by omega) (by omega), z1, z2, z3]; exact m_ru
  · rw [keep 2 (by omega) (by omega), z2]; exact m_nr
  · rw [keep 3 (by omega) (by omega), z3]; exact m_bh
  · rw [keep 4 (by omega) (by omega), z4, m_la]
    refine congrArg (fun z => Sum.inl (dA 4, 101, Sum.inr (Sum.inr (Sum.inr (Sum.inr z))))) ?_
    funext j; unfold gN gzL
    by_cases hj : j < 101
    · rw [if_pos hj, if_pos hj, zl j hj]
    · rw [if_neg hj, if_neg hj]
  · rw [keep 8 (by omega) (by omega), z8, m_lsa]
    refine congrArg (fun z => Sum.inl (dA 5, 5, Sum.inr (Sum.inr (Sum.inr (Sum.inr z))))) ?_
    funext j; unfold gM gzX
    by_cases hj : j < 5
    · rw [if_pos hj, if_pos hj, zx (3 * j) (by omega)]; rfl
    · rw [if_neg hj, if_neg hj]
  · rw [keep 9 (by omega) (by omega), z9, m_spa]
    refine congrArg (fun z => Sum.inl (dA 4, 5, Sum.inr (Sum.inr (Sum.inr (Sum.inr z))))) ?_
    funext j; unfold gM gzX
    by_cases hj : j < 5
    · rw [if_pos hj, if_pos hj, show 113 + 3 * j = 111 + (3 * j + 2) by omega, zx (3 * j + 2) (by omega)]
    · rw [if_neg hj, if_neg hj]
  · refine ⟨fun _ => 0, 0, by omega, ?_, ?_⟩
    · rw [keep _ (by omega) (by omega), show 112 + 3 * i = 111 + (3 * i + 1) by omega, zx (3 * i) (by omega), zx (3 * i + 1) (by omega), hPc (3 * i) (by omega)]
      unfold cN; rw [if_pos (by omega)]
    · rw [keep _ (by omega) (by omega), show 112 + 3 * i = 111 + (3 * i + 1) by omega, zx (3 * i + 1) (by omega), hPc (3 * i + 1) (by omega)]
      unfold cN; rw [if_neg (by omega), if_pos (by omega)]
  · refine ⟨(0, 0, 0, 0, 0), ?_⟩
    rw [keep _ (by omega) (by omega), show 113 + 3 * i = 111 + (3 * i + 2) by omega, zx (3 * i + 2) (by omega), hPc (3 * i + 2) (by omega)]
    unfold cN; rw [if_neg (by omega), if_neg (by omega)]
  · refine ⟨fun _ => 0, 0, by omega, ?_, ?_⟩
    · rw [keep 5 (by omega) (by omega), z5, z6]; exact m_t
    · rw [keep 6 (by omega) (by omega), z6]; exact m_pk
  · exact ⟨(0, 0, 0, 0, 0), by rw [keep 7 (by omega) (by omega), z7]; exact m_af⟩
  · rw [eM9, show z 10 = N1.getD 0 0 from zl 0 (by omega)]; exact va_up_self _ _ _
  · by_cases h0 : i = 0
    · subst h0; exact ⟨setUpP, by rw [eM9, zl 0 (by omega)]; exact va_up_self _ _ _⟩
    · exact ⟨(0, 0, 0, 0, 0), by rw [keep _ (by omega) (by omega), zl i hi]; exact hNc i hi⟩
  · rw [eM9, va_up_ne _ _ (fun e => ?_)]
    · exact fE q h h1
    · obtain ⟨p, hp⟩ := List.getElem?_of_mem h
      have hpl : p < L.length := (List.getElem?_eq_some_iff.mp hp).1
      have a1 : (L ++ ([ru, nr, bh, la, t, pk, af, lsa, spa] ++ (N1 ++ N2)))[p]? = some q := by rw [List.getElem?_append_left hpl]; exact hp
      have a2 : (L ++ ([ru, nr, bh, la, t, pk, af, lsa, spa] ++ (N1 ++ N2)))[L.length + 9]? = some (N1.getD 0 0) := by
        rw [List.getElem?_append_right (by omega), Nat.add_sub_cancel_left, List.getElem?_append_right (by rw [h9]; omega), h9, Nat.sub_self, List.getElem?_append_left (by omega)]
        exact gd_at (by omega)
      rw [← e] at a2
      have := hnd _ _ _ a1 a2
      omega

set_option maxHeartbeats 1000000 in
set_option maxRecDepth 100000 in
theorem c_X4_init (l : Launch) (D : va_G) (dA : Nat → ClassId) {L : List Nat} {M : mm_M} {o : Nat} (i_o : o ∈ L) (m_o : M o = .inr (4, [.null, .null, .null, .int 0, .null, .null, .null, .null])) : mm_Cv l D dA yX4_init wsX4_init 2 125 1236 [.ref o] L M (fun L1 M1 => ∃ z : Nat → Nat, z 0 = o ∧ zW L1 z ∧ M1 (z 0) = jO z .null 0 ∧ jF dA M1 z ∧ jY dA M1 z ∧ jT dA M1 (z 5) (z 6) ∧ (∃ Q, M1 (z 7) = oP Q) ∧ M1 (z 10) = oP setUpP ∧ (∀ i, i < 101 → ∃ Q, M1 (z (10 + i)) = oP Q) ∧ (∀ q, q ∈ L → q ∈ L1) ∧ ∀ q, q ∈ L → q ≠ o → M1 q = M q) := by
  have i_oo := i_o
  have hsub : ∀ x, x ∈ L → x ∈ L := fun _ h => h
  have fE : ∀ q : Nat, q ∈ L → q ≠ o → M q = M q := fun _ _ _ => rfl
  refine mm_enter_v (cc := cX4_init) (maxL := 2) (by decide) rfl (Nat.le_of_ble_eq_true rfl) ?_
  intro p e R s m args below meth c A ls H locs Q hR hx hb hml hin hown hts hK hV hl hret
  have hl : lv_has ls 2 [(0, .ref o)] := hl
  have hown : s.vm.findClass RX4 = some m.cls := hown
  have hin : meth.name = "<init>" := hin
  have in_X3 : ∀ w ∈ wsX30, w ∈ wsX4_init := by decide +kernel
  have f_10 := hts (.fieldLink RX4 10 "JumpBoard" "rules" "LJumpBoard$Rules;") (by decide +kernel)
  have in_X4 : ∀ w ∈ wsX40, w ∈ wsX4_init := by decide +kernel
  have f_16 := hts (.fieldLink RX4 16 "JumpBoard" "endings" "LJumpBoard$Endings;") (by decide +kernel)
  have f_22 := hts (.fieldLink RX4 22 "JumpBoard" "line" "[LJumpBoard$Position;") (by decide +kernel)
  have f_26 := hts (.fieldLink RX4 26 "JumpBoard" "latest" "I") (by decide +kernel)
  have in_X1 : ∀ w ∈ wsX10, w ∈ wsX4_init := by decide +kernel
  have f_33 := hts (.fieldLink RX4 33 "JumpBoard" "list" "LJumpBoard$MoveList;") (by decide +kernel)
  have in_X2 : ∀ w ∈ wsX20, w ∈ wsX4_init := by decide +kernel
  have f_38 := hts (.fieldLink RX4 38 "JumpBoard" "after" "LJumpBoard$Position;") (by decide +kernel)
  have f_42 := hts (.fieldLink RX4 42 "JumpBoard" "lists" "[LJumpBoard$MoveList;") (by decide +kernel)
  have f_46 := hts (.fieldLink RX4 46 "JumpBoard" "spots" "[LJumpBoard$Position;") (by decide +kernel)
  refine lv_aload_n hx hb dX4_init_0 rfl (lv_at hl 0 rfl) ?_
  refine W.objInit hx hb hown (hts (.methodLink RX4 1 objectInit) (by decide +kernel)) (hts (.instanceMethod objectInit) (by decide +kernel)) (hts (.code objectInit ⟨#[0xb1]⟩ 1 none) (by decide +kernel)) rfl (by rw [hml]; exact hl.1) rfl dX4_init_1 (by rw [hR]; decide) (by rw [hR]; exact Nat.le_of_ble_eq_true rfl) ?_
  refine W.eq (g2 := F0 m 4 ls []) rfl ?_
  refine lv_aload_n hx hb dX4_init_4 rfl (lv_at hl 0 rfl) ?_
  refine mm_new (ci := 3) (fs := [.null, .null]) (C := RX3) (T := TX3) (N := 2) hx hb hts in_X3 tyX3 tyX3_ok hown (hts (.classLink RX4 7 RX3) (by decide +kernel)) (hts (.instantiable RX3 2) (by decide +kernel)) (hts (.initialized RX3) (by decide +kernel)) hK hV rfl (fun j hj => by rcases (show j = 0 ∨ j = 1 by omega) with rfl | rfl <;> rfl) (by rw [hR]; exact Nat.le_of_ble_eq_true rfl) (by rw [hR]; exact Nat.le_of_ble_eq_true rfl) dX4_init_5 (fun ru H hq_ru hV => ?_)
  refine W.widen (k := 1) (n := 2) (Nat.le_refl _) (Nat.le_refl _) ?_
  obtain ⟨L_1, eL_1⟩ : ∃ z, z = L ++ [ru] := ⟨_, rfl⟩
  obtain ⟨M_2, eM_2⟩ : ∃ z, z = va_up M ru (.inr (3, [.null, .null])) := ⟨_, rfl⟩
  rw [← eL_1, ← eM_2] at hV
  have n_o_ru : o ≠ ru := fun h => hq_ru (by rw [← h]; exact i_o)
  have m_o : M_2 o = _ := (congrFun eM_2 o).trans ((va_up_ne _ _ n_o_ru).trans m_o)
  have i_o : o ∈ L_1 := by rw [eL_1]; exact List.mem_append_left _ i_o
  have o_ru : ru ∉ L := fun h => hq_ru (hsub ru h)
  have hsub : ∀ x, x ∈ L → x ∈ L_1 := fun x h => by rw [eL_1]; exact List.mem_append_left _ (hsub x h)
  have i_ru : ru ∈ L_1 := by rw [eL_1]; exact List.mem_append_right _ (List.mem_singleton.mpr rfl)
  have m_ru : M_2 ru = .inr (3, [.null, .null]) := by rw [eM_2]; exact va_up_self _ _ _
  have fE : ∀ q : Nat, q ∈ L → q ≠ o → M_2 q = M q := fun q h0 h1 => (congrFun eM_2 q).trans ((va_up_ne _ _ (fun h => o_ru (by rw [← h]; exact h0))).trans (fE q h0 h1))
  refine lv_dup hx hb dX4_init_8 rfl ?_
  refine mm_Iv (mc := 2) (ms := 144) (As := []) (rest := [.ref ru, .ref o]) ⟨hx, hb, hml, hown, hts⟩ hK hV (c_X3_init l D dA i_ru m_ru) (cwI 0 hts gX4_init_X3_init rfl rfl rfl (hts (.initialized RX3) (by decide +kernel)) (hts (.methodLink RX4 9 yX3_init) (by decide +kernel)) (hts (.instanceMethod yX3_init) (by decide +kernel)) rfl (by decide +kernel) (mm_levR hR (by omega) (by decide))) rfl hl.1 rfl (Nat.le_of_ble_eq_true rfl) dX4_init_9 (by rw [hR]; exact ⟨Nat.le_of_ble_eq_true rfl, Nat.le_of_ble_eq_true rfl⟩) (fun L9 M9 H locs hp hV => ?_)
  refine W.widen (k := 3) (n := 146) (Nat.le_refl _) (Nat.le_refl _) ?_
  obtain ⟨nr, bh, eL9, hq_nr, hq_bh, hru9, hf9⟩ := hp
  have n_o_nr : o ≠ nr := fun h => hq_nr (by rw [← h]; exact i_o)
  have n_o_bh : o ≠ bh := fun h => hq_bh (by rw [← h]; exact List.mem_append_left _ i_o)
  have m_o : M9 o = _ := (hf9 o i_o n_o_ru).trans m_o
  have n_ru_nr : ru ≠ nr := fun h => hq_nr (by rw [← h]; exact i_ru)
  have n_ru_bh : ru ≠ bh := fun h => hq_bh (by rw [← h]; exact List.mem_append_left _ i_ru)
  have n_nr_bh : nr ≠ bh := fun h => hq_bh (by rw [← h]; exact List.mem_append_right _ (List.mem_singleton.mpr rfl))
  have m_ru := hru9.2.2.2.1
  have m_nr := hru9.2.2.2.2.1
  have m_bh := hru9.2.2.2.2.2
  have o_nr : nr ∉ L := fun h => hq_nr (hsub nr h)
  have o_bh : bh ∉ L := fun h => hq_bh (List.mem_append_left _ (hsub bh h))
  have fE : ∀ q : Nat, q ∈ L → q ≠ o → M9 q = M q := fun q h0 h1 => (hf9 q (hsub q h0) (fun h => o_ru (by rw [← h]; exact h0))).trans (fE q h0 h1)
  have i_o : o ∈ L9 := by rw [eL9]; exact List.mem_append_left _ (List.mem_append_left _ i_o)
  have i_ru : ru ∈ L9 := by rw [eL9]; exact List.mem_append_left _ (List.mem_append_left _ i_ru)
  have i_nr := hru9.2.1
  have i_bh := hru9.2.2.1
  have hsub : ∀ x, x ∈ L → x ∈ L9 := fun x h => by rw [eL9]; exact List.mem_append_left _ (List.mem_append_left _ (hsub x h))
  refine mm_putF (ci := 4) (v := .ref ru) (fs' := [.ref ru, .null, .null, .int 0, .null, .null, .null, .null]) (ty := .object "JumpBoard$Rules") (C := RX4) (T := TX4) (N := 8) hx hb hts in_X4 tyX4 tyX4_ok nmX4 hown hK hV i_o m_o rfl 0 (by decide) f_10 (fun _ h => h) rfl hin rfl (by decide +kernel) rfl rfl (Nat.le_of_ble_eq_true rfl) rfl dX4_init_12 (fun M_3 H locs eM_3 hV => ?_)
  have m_ru : M_3 ru = _ := (congrFun eM_3 ru).trans ((va_up_ne _ _ (Ne.symm n_o_ru)).trans m_ru)
  have m_nr : M_3 nr = _ := (congrFun eM_3 nr).trans ((va_up_ne _ _ (Ne.symm n_o_nr)).trans m_nr)
  have m_bh : M_3 bh = _ := (congrFun eM_3 bh).trans ((va_up_ne _ _ (Ne.symm n_o_bh)).trans m_bh)
  have m_o : M_3 o = .inr (4, [.ref ru, .null, .null, .int 0, .null, .null, .null, .null]) := by rw [eM_3]; exact va_up_self _ _ _
  have fE : ∀ q : Nat, q ∈ L → q ≠ o → M_3 q = M q := fun q h0 h1 => (congrFun eM_3 q).trans ((va_up_ne _ _ h1).trans (fE q h0 h1))
  refine lv_aload_n hx hb dX4_init_15 rfl (lv_at hl 0 rfl) ?_
  refine lv_null hx hb dX4_init_16 ?_
  refine mm_put (ci := 4) (v := .null) (fs' := [.ref ru, .null, .null, .int 0, .null, .null, .null, .null]) (ty := .object "JumpBoard$Endings") (C := RX4) (T := TX4) (N := 8) hx hb hts in_X4 tyX4 tyX4_ok nmX4 hown hK hV i_o m_o rfl 1 (by decide) f_16 (fun _ h => h) rfl (by decide +kernel) rfl rfl (Nat.le_of_ble_eq_true rfl) rfl dX4_init_17 (fun M_4 H locs eM_4 hV => ?_)
  have m_ru : M_4 ru = _ := (congrFun eM_4 ru).trans ((va_up_ne _ _ (Ne.symm n_o_ru)).trans m_ru)
  have m_nr : M_4 nr = _ := (congrFun eM_4 nr).trans ((va_up_ne _ _ (Ne.symm n_o_nr)).trans m_nr)
  have m_bh : M_4 bh = _ := (congrFun eM_4 bh).trans ((va_up_ne _ _ (Ne.symm n_o_bh)).trans m_bh)
  have m_o : M_4 o = .inr (4, [.ref ru, .null, .null, .int 0, .null, .null, .null, .null]) := by rw [eM_4]; exact va_up_self _ _ _
  have fE : ∀ q : Nat, q ∈ L → q ≠ o → M_4 q = M q := fun q h0 h1 => (congrFun eM_4 q).trans ((va_up_ne _ _ h1).trans (fE q h0 h1))
  refine lv_aload_n hx hb dX4_init_20 rfl (lv_at hl 0 rfl) ?_
  refine lv_bipush (v := 101) hx hb dX4_init_21 (by decide) ?_
  refine mm_newq (C := "JumpBoard$Position") (N' := 101) hx hb hown (hts (.classLink RX4 20 "JumpBoard$Position") (by decide +kernel)) hK.2.2.2.2.2.1 4 rfl hK hV (by decide) (by decide +kernel) (by decide +kernel) (by rw [hR]; exact Nat.le_of_ble_eq_true rfl) (by rw [hR]; exact Nat.le_of_ble_eq_true rfl) dX4_init_23 (fun la H hq_la hV => ?_)
  refine W.widen (k := 4) (n := 247) (Nat.le_refl _) (Nat.le_refl _) ?_
  obtain ⟨L_5, eL_5⟩ : ∃ z, z = L9 ++ [la] := ⟨_, rfl⟩
  obtain ⟨M_6, eM_6⟩ : ∃ z, z = va_up M_4 la (.inl (dA 4, 101, .inr (.inr (.inr (.inr (fun _ => none)))))) := ⟨_, rfl⟩
  rw [← eL_5, ← eM_6] at hV
  have n_o_la : o ≠ la := fun h => hq_la (by rw [← h]; exact i_o)
  have m_o : M_6 o = _ := (congrFun eM_6 o).trans ((va_up_ne _ _ n_o_la).trans m_o)
  have i_o : o ∈ L_5 := by rw [eL_5]; exact List.mem_append_left _ i_o
  have n_ru_la : ru ≠ la := fun h => hq_la (by rw [← h]; exact i_ru)
  have m_ru : M_6 ru = _ := (congrFun eM_6 ru).trans ((va_up_ne _ _ n_ru_la).trans m_ru)
  have i_ru : ru ∈ L_5 := by rw [eL_5]; exact List.mem_append_left _ i_ru
  have n_nr_la : nr ≠ la := fun h => hq_la (by rw [← h]; exact i_nr)
  have m_nr : M_6 nr = _ := (congrFun eM_6 nr).trans ((va_up_ne _ _ n_nr_la).trans m_nr)
  have i_nr : nr ∈ L_5 := by rw [eL_5]; exact List.mem_append_left _ i_nr
  have n_bh_la : bh ≠ la := fun h => hq_la (by rw [← h]; exact i_bh)
  have m_bh : M_6 bh = _ := (congrFun eM_6 bh).trans ((va_up_ne _ _ n_bh_la).trans m_bh)
  have i_bh : bh ∈ L_5 := by rw [eL_5]; exact List.mem_append_left _ i_bh
  have o_la : la ∉ L := fun h => hq_la (hsub la h)
  have hsub : ∀ x, x ∈ L → x ∈ L_5 := fun x h => by rw [eL_5]; exact List.mem_append_left _ (hsub x h)
  have i_la : la ∈ L_5 := by rw [eL_5]; exact List.mem_append_right _ (List.mem_singleton.mpr rfl)
  have m_la : M_6 la = .inl (dA 4, 101, .inr (.inr (.inr (.inr (fun _ => none))))) := by rw [eM_6]; exact va_up_self _ _ _
  have fE : ∀ q : Nat, q ∈ L → q ≠ o → M_6 q = M q := fun q h0 h1 => (congrFun eM_6 q).trans ((va_up_ne _ _ (fun h => o_la (by rw [← h]; exact h0))).trans (fE q h0 h1))
  refine mm_putF (ci := 4) (v := .ref la) (fs' := [.ref ru, .null, .ref la, .int 0, .null, .null, .null, .null]) (ty := .array (.object "JumpBoard$Position")) (C := RX4) (T := TX4) (N := 8) hx hb hts in_X4 tyX4 tyX4_ok nmX4 hown hK hV i_o m_o rfl 2 (by decide) f_22 (fun _ h => h) rfl hin rfl (by decide +kernel) rfl rfl (Nat.le_of_ble_eq_true rfl) rfl dX4_init_26 (fun M_7 H locs eM_7 hV => ?_)
  have m_ru : M_7 ru = _ := (congrFun eM_7 ru).trans ((va_up_ne _ _ (Ne.symm n_o_ru)).trans m_ru)
  have m_nr : M_7 nr = _ := (congrFun eM_7 nr).trans ((va_up_ne _ _ (Ne.symm n_o_nr)).trans m_nr)
  have m_bh : M_7 bh = _ := (congrFun eM_7 bh).trans ((va_up_ne _ _ (Ne.symm n_o_bh)).trans m_bh)
  have m_la : M_7 la = _ := (congrFun eM_7 la).trans ((va_up_ne _ _ (Ne.symm n_o_la)).trans m_la)
  have m_o : M_7 o = .inr (4, [.ref ru, .null, .ref la, .int 0, .null, .null, .null, .null]) := by rw [eM_7]; exact va_up_self _ _ _
  have fE : ∀ q : Nat, q ∈ L → q ≠ o → M_7 q = M q := fun q h0 h1 => (congrFun eM_7 q).trans ((va_up_ne _ _ h1).trans (fE q h0 h1))
  refine lv_aload_n hx hb dX4_init_29 rfl (lv_at hl 0 rfl) ?_
  refine lv_iconst (v := 0) hx hb dX4_init_30 (by decide) ?_
  refine mm_put (ci := 4) (v := .int 0) (fs' := [.ref ru, .null, .ref la, .int 0, .null, .null, .null, .null]) (ty := .int) (C := RX4) (T := TX4) (N := 8) hx hb hts in_X4 tyX4 tyX4_ok nmX4 hown hK hV i_o m_o rfl 3 (by decide) f_26 (fun _ h => h) rfl (by decide +kernel) rfl rfl (Nat.le_of_ble_eq_true rfl) rfl dX4_init_31 (fun M_8 H locs eM_8 hV => ?_)
  have m_ru : M_8 ru = _ := (congrFun eM_8 ru).trans ((va_up_ne _ _ (Ne.symm n_o_ru)).trans m_ru)
  have m_nr : M_8 nr = _ := (congrFun eM_8 nr).trans ((va_up_ne _ _ (Ne.symm n_o_nr)).trans m_nr)
  have m_bh : M_8 bh = _ := (congrFun eM_8 bh).trans ((va_up_ne _ _ (Ne.symm n_o_bh)).trans m_bh)
  have m_la : M_8 la = _ := (congrFun eM_8 la).trans ((va_up_ne _ _ (Ne.symm n_o_la)).trans m_la)
  have m_o : M_8 o = .inr (4, [.ref ru, .null, .ref la, .int 0, .null, .null, .null, .null]) := by rw [eM_8]; exact va_up_self _ _ _
  have fE : ∀ q : Nat, q ∈ L → q ≠ o → M_8 q = M q := fun q h0 h1 => (congrFun eM_8 q).trans ((va_up_ne _ _ h1).trans (fE q h0 h1))
  refine lv_aload_n hx hb dX4_init_34 rfl (lv_at hl 0 rfl) ?_
  refine mm_new (ci := 1) (fs := [.null, .int 0]) (C := RX1) (T := TX1) (N := 2) hx hb hts in_X1 tyX1 tyX1_ok hown (hts (.classLink RX4 30 RX1) (by decide +kernel)) (hts (.instantiable RX1 2) (by decide +kernel)) (hts (.initialized RX1) (by decide +kernel)) hK hV rfl (fun j hj => by rcases (show j = 0 ∨ j = 1 by omega) with rfl | rfl <;> rfl) (by rw [hR]; exact Nat.le_of_ble_eq_true rfl) (by rw [hR]; exact Nat.le_of_ble_eq_true rfl) dX4_init_35 (fun t H hq_t hV => ?_)
  refine W.widen (k := 5) (n := 249) (Nat.le_refl _) (Nat.le_refl _) ?_
  obtain ⟨L_9, eL_9⟩ : ∃ z, z = L_5 ++ [t] := ⟨_, rfl⟩
  obtain ⟨M_10, eM_10⟩ : ∃ z, z = va_up M_8 t (.inr (1, [.null, .int 0])) := ⟨_, rfl⟩
  rw [← eL_9, ← eM_10] at hV
  have n_o_t : o ≠ t := fun h => hq_t (by rw [← h]; exact i_o)
  have m_o : M_10 o = _ := (congrFun eM_10 o).trans ((va_up_ne _ _ n_o_t).trans m_o)
  have i_o : o ∈ L_9 := by rw [eL_9]; exact List.mem_append_left _ i_o
  have n_ru_t : ru ≠ t := fun h => hq_t (by rw [← h]; exact i_ru)
  have m_ru : M_10 ru = _ := (congrFun eM_10 ru).trans ((va_up_ne _ _ n_ru_t).trans m_ru)
  have i_ru : ru ∈ L_9 := by rw [eL_9]; exact List.mem_append_left _ i_ru
  have n_nr_t : nr ≠ t := fun h => hq_t (by rw [← h]; exact i_nr)
  have m_nr : M_10 nr = _ := (congrFun eM_10 nr).trans ((va_up_ne _ _ n_nr_t).trans m_nr)
  have i_nr : nr ∈ L_9 := by rw [eL_9]; exact List.mem_append_left _ i_nr
  have n_bh_t : bh ≠ t := fun h => hq_t (by rw [← h]; exact i_bh)
  have m_bh : M_10 bh = _ := (congrFun eM_10 bh).trans ((va_up_ne _ _ n_bh_t).trans m_bh)
  have i_bh : bh ∈ L_9 := by rw [eL_9]; exact List.mem_append_left _ i_bh
  have n_la_t : la ≠ t := fun h => hq_t (by rw [← h]; exact i_la)
  have m_la : M_10 la = _ := (congrFun eM_10 la).trans ((va_up_ne _ _ n_la_t).trans m_la)
  have i_la : la ∈ L_9 := by rw [eL_9]; exact List.mem_append_left _ i_la
  have o_t : t ∉ L := fun h => hq_t (hsub t h)
  have hsub : ∀ x, x ∈ L → x ∈ L_9 := fun x h => by rw [eL_9]; exact List.mem_append_left _ (hsub x h)
  have i_t : t ∈ L_9 := by rw [eL_9]; exact List.mem_append_right _ (List.mem_singleton.mpr rfl)
  have m_t : M_10 t = .inr (1, [.null, .int 0]) := by rw [eM_10]; exact va_up_self _ _ _
  have fE : ∀ q : Nat, q ∈ L → q ≠ o → M_10 q = M q := fun q h0 h1 => (congrFun eM_10 q).trans ((va_up_ne _ _ (fun h => o_t (by rw [← h]; exact h0))).trans (fE q h0 h1))
  refine lv_dup hx hb dX4_init_38 rfl ?_
  refine mm_INv (mc := 1) (ms := 72) (host := RX4) (As := []) (rest := [.ref t, .ref o]) ⟨hx, hb, hml, hown, hts⟩ hK hV (c_X1_init l D dA i_t m_t) ⟨va_cnB 0 hts gX4_init_X1_init_n32 rfl rfl rfl hK.2.2.2.1 (hts (.initialized RX1) (by decide +kernel)) (by decide +kernel) (mm_levR hR (by omega) (by decide)), rfl, hts (.instanceMethod yX1_init) (by decide +kernel)⟩ rfl hl.1 rfl (Nat.le_of_ble_eq_true rfl) dX4_init_39 (by rw [hR]; exact ⟨Nat.le_of_ble_eq_true rfl, Nat.le_of_ble_eq_true rfl⟩) (fun L9 M9 H locs hp hV => ?_)
  obtain ⟨pk, hq_pk, eL8, eM8⟩ := hp
  rw [eL8, eM8] at hV
  refine W.widen (k := 6) (n := 321) (Nat.le_refl _) (Nat.le_refl _) ?_
  obtain ⟨L_11, eL_11⟩ : ∃ z, z = L_9 ++ [pk] := ⟨_, rfl⟩
  obtain ⟨M_12, eM_12⟩ : ∃ z, z = va_up (va_up M_10 pk (.inl (dA 0, 72, .inl (fun _ => 0)))) t (oL pk 0) := ⟨_, rfl⟩
  rw [← eL_11, ← eM_12] at hV
  have n_o_pk : o ≠ pk := fun h => hq_pk (by rw [← h]; exact i_o)
  have n_ru_pk : ru ≠ pk := fun h => hq_pk (by rw [← h]; exact i_ru)
  have n_nr_pk : nr ≠ pk := fun h => hq_pk (by rw [← h]; exact i_nr)
  have n_bh_pk : bh ≠ pk := fun h => hq_pk (by rw [← h]; exact i_bh)
  have n_la_pk : la ≠ pk := fun h => hq_pk (by rw [← h]; exact i_la)
  have n_t_pk : t ≠ pk := fun h => hq_pk (by rw [← h]; exact i_t)
  have m_o : M_12 o = _ := (congrFun eM_12 o).trans ((va_up_ne _ _ n_o_t).trans ((va_up_ne _ _ n_o_pk).trans m_o))
  have m_ru : M_12 ru = _ := (congrFun eM_12 ru).trans ((va_up_ne _ _ n_ru_t).trans ((va_up_ne _ _ n_ru_pk).trans m_ru))
  have m_nr : M_12 nr = _ := (congrFun eM_12 nr).trans ((va_up_ne _ _ n_nr_t).trans ((va_up_ne _ _ n_nr_pk).trans m_nr))
  have m_bh : M_12 bh = _ := (congrFun eM_12 bh).trans ((va_up_ne _ _ n_bh_t).trans ((va_up_ne _ _ n_bh_pk).trans m_bh))
  have m_la : M_12 la = _ := (congrFun eM_12 la).trans ((va_up_ne _ _ n_la_t).trans ((va_up_ne _ _ n_la_pk).trans m_la))
  have i_o : o ∈ L_11 := by rw [eL_11]; exact List.mem_append_left _ i_o
  have i_ru : ru ∈ L_11 := by rw [eL_11]; exact List.mem_append_left _ i_ru
  have i_nr : nr ∈ L_11 := by rw [eL_11]; exact List.mem_append_left _ i_nr
  have i_bh : bh ∈ L_11 := by rw [eL_11]; exact List.mem_append_left _ i_bh
  have i_la : la ∈ L_11 := by rw [eL_11]; exact List.mem_append_left _ i_la
  have i_t : t ∈ L_11 := by rw [eL_11]; exact List.mem_append_left _ i_t
  have m_t : M_12 t = .inr (1, [.ref pk, .int (nI 0)]) := (congrFun eM_12 t).trans (va_up_self _ _ _)
  have o_pk : pk ∉ L := fun h => hq_pk (hsub pk h)
  have hsub : ∀ x, x ∈ L → x ∈ L_11 := fun x h => by rw [eL_11]; exact List.mem_append_left _ (hsub x h)
  have i_pk : pk ∈ L_11 := by rw [eL_11]; exact List.mem_append_right _ (List.mem_singleton.mpr rfl)
  have m_pk : M_12 pk = .inl (dA 0, 72, .inl (fun _ => 0)) := (congrFun eM_12 pk).trans ((va_up_ne _ _ (Ne.symm n_t_pk)).trans (va_up_self _ _ _))
  have fE : ∀ q : Nat, q ∈ L → q ≠ o → M_12 q = M q := fun q h0 h1 => (congrFun eM_12 q).trans ((va_up_ne _ _ (fun h => o_t (by rw [← h]; exact h0))).trans ((va_up_ne _ _ (fun h => o_pk (by rw [← h]; exact h0))).trans (fE q h0 h1)))
  refine mm_putF (ci := 4) (v := .ref t) (fs' := [.ref ru, .null, .ref la, .int 0, .ref t, .null, .null, .null]) (ty := .object "JumpBoard$MoveList") (C := RX4) (T := TX4) (N := 8) hx hb hts in_X4 tyX4 tyX4_ok nmX4 hown hK hV i_o m_o rfl 4 (by decide) f_33 (fun _ h => h) rfl hin rfl (by decide +kernel) rfl rfl (Nat.le_of_ble_eq_true rfl) rfl dX4_init_42 (fun M_13 H locs eM_13 hV => ?_)
  have m_ru : M_13 ru = _ := (congrFun eM_13 ru).trans ((va_up_ne _ _ (Ne.symm n_o_ru)).trans m_ru)
  have m_nr : M_13 nr = _ := (congrFun eM_13 nr).trans ((va_up_ne _ _ (Ne.symm n_o_nr)).trans m_nr)
  have m_bh : M_13 bh = _ := (congrFun eM_13 bh).trans ((va_up_ne _ _ (Ne.symm n_o_bh)).trans m_bh)
  have m_la : M_13 la = _ := (congrFun eM_13 la).trans ((va_up_ne _ _ (Ne.symm n_o_la)).trans m_la)
  have m_t : M_13 t = _ := (congrFun eM_13 t).trans ((va_up_ne _ _ (Ne.symm n_o_t)).trans m_t)
  have m_pk : M_13 pk = _ := (congrFun eM_13 pk).trans ((va_up_ne _ _ (Ne.symm n_o_pk)).trans m_pk)
  have m_o : M_13 o = .inr (4, [.ref ru, .null, .ref la, .int 0, .ref t, .null, .null, .null]) := by rw [eM_13]; exact va_up_self _ _ _
  have fE : ∀ q : Nat, q ∈ L → q ≠ o → M_13 q = M q := fun q h0 h1 => (congrFun eM_13 q).trans ((va_up_ne _ _ h1).trans (fE q h0 h1))
  refine lv_aload_n hx hb dX4_init_45 rfl (lv_at hl 0 rfl) ?_
  refine mm_new (ci := 2) (fs := [.int 0, .int 0, .int 0, .int 0, .int 0]) (C := RX2) (T := TX2) (N := 5) hx hb hts in_X2 tyX2 tyX2_ok hown (hts (.classLink RX4 20 RX2) (by decide +kernel)) (hts (.instantiable RX2 5) (by decide +kernel)) (hts (.initialized RX2) (by decide +kernel)) hK hV rfl (fun j hj => by rcases (show j = 0 ∨ j = 1 ∨ j = 2 ∨ j = 3 ∨ j = 4 by omega) with rfl | rfl | rfl | rfl | rfl <;> rfl) (by rw [hR]; exact Nat.le_of_ble_eq_true rfl) (by rw [hR]; exact Nat.le_of_ble_eq_true rfl) dX4_init_46 (fun af H hq_af hV => ?_)
  refine W.widen (k := 7) (n := 326) (Nat.le_refl _) (Nat.le_refl _) ?_
  obtain ⟨L_14, eL_14⟩ : ∃ z, z = L_11 ++ [af] := ⟨_, rfl⟩
  obtain ⟨M_15, eM_15⟩ : ∃ z, z = va_up M_13 af (.inr (2, [.int 0, .int 0, .int 0, .int 0, .int 0])) := ⟨_, rfl⟩
  rw [← eL_14, ← eM_15] at hV
  have n_o_af : o ≠ af := fun h => hq_af (by rw [← h]; exact i_o)
  have m_o : M_15 o = _ := (congrFun eM_15 o).trans ((va_up_ne _ _ n_o_af).trans m_o)
  have i_o : o ∈ L_14 := by rw [eL_14]; exact List.mem_append_left _ i_o
  have n_ru_af : ru ≠ af := fun h => hq_af (by rw [← h]; exact i_ru)
  have m_ru : M_15 ru = _ := (congrFun eM_15 ru).trans ((va_up_ne _ _ n_ru_af).trans m_ru)
  have i_ru : ru ∈ L_14 := by rw [eL_14]; exact List.mem_append_left _ i_ru
  have n_nr_af : nr ≠ af := fun h => hq_af (by rw [← h]; exact i_nr)
  have m_nr : M_15 nr = _ := (congrFun eM_15 nr).trans ((va_up_ne _ _ n_nr_af).trans m_nr)
  have i_nr : nr ∈ L_14 := by rw [eL_14]; exact List.mem_append_left _ i_nr
  have n_bh_af : bh ≠ af := fun h => hq_af (by rw [← h]; exact i_bh)
  have m_bh : M_15 bh = _ := (congrFun eM_15 bh).trans ((va_up_ne _ _ n_bh_af).trans m_bh)
  have i_bh : bh ∈ L_14 := by rw [eL_14]; exact List.mem_append_left _ i_bh
  have n_la_af : la ≠ af := fun h => hq_af (by rw [← h]; exact i_la)
  have m_la : M_15 la = _ := (congrFun eM_15 la).trans ((va_up_ne _ _ n_la_af).trans m_la)
  have i_la : la ∈ L_14 := by rw [eL_14]; exact List.mem_append_left _ i_la
  have n_t_af : t ≠ af := fun h => hq_af (by rw [← h]; exact i_t)
  have m_t : M_15 t = _ := (congrFun eM_15 t).trans ((va_up_ne _ _ n_t_af).trans m_t)
  have i_t : t ∈ L_14 := by rw [eL_14]; exact List.mem_append_left _ i_t
  have n_pk_af : pk ≠ af := fun h => hq_af (by rw [← h]; exact i_pk)
  have m_pk : M_15 pk = _ := (congrFun eM_15 pk).trans ((va_up_ne _ _ n_pk_af).trans m_pk)
  have i_pk : pk ∈ L_14 := by rw [eL_14]; exact List.mem_append_left _ i_pk
  have o_af : af ∉ L := fun h => hq_af (hsub af h)
  have hsub : ∀ x, x ∈ L → x ∈ L_14 := fun x h => by rw [eL_14]; exact List.mem_append_left _ (hsub x h)
  have i_af : af ∈ L_14 := by rw [eL_14]; exact List.mem_append_right _ (List.mem_singleton.mpr rfl)
  have m_af : M_15 af = .inr (2, [.int 0, .int 0, .int 0, .int 0, .int 0]) := by rw [eM_15]; exact va_up_self _ _ _
  have fE : ∀ q : Nat, q ∈ L → q ≠ o → M_15 q = M q := fun q h0 h1 => (congrFun eM_15 q).trans ((va_up_ne _ _ (fun h => o_af (by rw [← h]; exact h0))).trans (fE q h0 h1))
  refine lv_dup hx hb dX4_init_49 rfl ?_
  refine mm_INv (mc := 0) (ms := 0) (host := RX4) (As := []) (rest := [.ref af, .ref o]) ⟨hx, hb, hml, hown, hts⟩ hK hV (c_X2_init l D dA af) ⟨va_cnB 0 hts gX4_init_X2_init_n37 rfl rfl rfl hK.2.2.2.2.1 (hts (.initialized RX2) (by decide +kernel)) (by decide +kernel) (mm_levR hR (by omega) (by decide)), rfl, hts (.instanceMethod yX2_init) (by decide +kernel)⟩ rfl hl.1 rfl (Nat.le_of_ble_eq_true rfl) dX4_init_50 (by rw [hR]; exact ⟨Nat.le_of_ble_eq_true rfl, Nat.le_of_ble_eq_true rfl⟩) (fun L9 M9 H locs hp hV => ?_)
  rw [hp.1, hp.2] at hV
  refine mm_putF (ci := 4) (v := .ref af) (fs' := [.ref ru, .null, .ref la, .int 0, .ref t, .ref af, .null, .null]) (ty := .object "JumpBoard$Position") (C := RX4) (T := TX4) (N := 8) hx hb hts in_X4 tyX4 tyX4_ok nmX4 hown hK hV i_o m_o rfl 5 (by decide) f_38 (fun _ h => h) rfl hin rfl (by decide +kernel) rfl rfl (Nat.le_of_ble_eq_true rfl) rfl dX4_init_53 (fun M_16 H locs eM_16 hV => ?_)
  have m_ru : M_16 ru = _ := (congrFun eM_16 ru).trans ((va_up_ne _ _ (Ne.symm n_o_ru)).trans m_ru)
  have m_nr : M_16 nr = _ := (congrFun eM_16 nr).trans ((va_up_ne _ _ (Ne.symm n_o_nr)).trans m_nr)
  have m_bh : M_16 bh = _ := (congrFun eM_16 bh).trans ((va_up_ne _ _ (Ne.symm n_o_bh)).trans m_bh)
  have m_la : M_16 la = _ := (congrFun eM_16 la).trans ((va_up_ne _ _ (Ne.symm n_o_la)).trans m_la)
  have m_t : M_16 t = _ := (congrFun eM_16 t).trans ((va_up_ne _ _ (Ne.symm n_o_t)).trans m_t)
  have m_pk : M_16 pk = _ := (congrFun eM_16 pk).trans ((va_up_ne _ _ (Ne.symm n_o_pk)).trans m_pk)
  have m_af : M_16 af = _ := (congrFun eM_16 af).trans ((va_up_ne _ _ (Ne.symm n_o_af)).trans m_af)
  have m_o : M_16 o = .inr (4, [.ref ru, .null, .ref la, .int 0, .ref t, .ref af, .null, .null]) := by rw [eM_16]; exact va_up_self _ _ _
  have fE : ∀ q : Nat, q ∈ L → q ≠ o → M_16 q = M q := fun q h0 h1 => (congrFun eM_16 q).trans ((va_up_ne _ _ h1).trans (fE q h0 h1))
  refine lv_aload_n hx hb dX4_init_56 rfl (lv_at hl 0 rfl) ?_
  refine lv_iconst (v := 5) hx hb dX4_init_57 (by decide) ?_
  refine mm_newq (C := "JumpBoard$MoveList") (N' := 5) hx hb hown (hts (.classLink RX4 30 "JumpBoard$MoveList") (by decide +kernel)) hK.2.2.2.2.2.2 5 rfl hK hV (by decide) (by decide +kernel) (by decide +kernel) (by rw [hR]; exact Nat.le_of_ble_eq_true rfl) (by rw [hR]; exact Nat.le_of_ble_eq_true rfl) dX4_init_58 (fun lsa H hq_lsa hV => ?_)
  refine W.widen (k := 8) (n := 331) (Nat.le_refl _) (Nat.le_refl _) ?_
  obtain ⟨L_17, eL_17⟩ : ∃ z, z = L_14 ++ [lsa] := ⟨_, rfl⟩
  obtain ⟨M_18, eM_18⟩ : ∃ z, z = va_up M_16 lsa (.inl (dA 5, 5, .inr (.inr (.inr (.inr (fun _ => none)))))) := ⟨_, rfl⟩
  rw [← eL_17, ← eM_18] at hV
  have n_o_lsa : o ≠ lsa := fun h => hq_lsa (by rw [← h]; exact i_o)
  have m_o : M_18 o = _ := (congrFun eM_18 o).trans ((va_up_ne _ _ n_o_lsa).trans m_o)
  have i_o : o ∈ L_17 := by rw [eL_17]; exact List.mem_append_left _ i_o
  have n_ru_lsa : ru ≠ lsa := fun h => hq_lsa (by rw [← h]; exact i_ru)
  have m_ru : M_18 ru = _ := (congrFun eM_18 ru).trans ((va_up_ne _ _ n_ru_lsa).trans m_ru)
  have i_ru : ru ∈ L_17 := by rw [eL_17]; exact List.mem_append_left _ i_ru
  have n_nr_lsa : nr ≠ lsa := fun h => hq_lsa (by rw [← h]; exact i_nr)
  have m_nr : M_18 nr = _ := (congrFun eM_18 nr).trans ((va_up_ne _ _ n_nr_lsa).trans m_nr)
  have i_nr : nr ∈ L_17 := by rw [eL_17]; exact List.mem_append_left _ i_nr
  have n_bh_lsa : bh ≠ lsa := fun h => hq_lsa (by rw [← h]; exact i_bh)
  have m_bh : M_18 bh = _ := (congrFun eM_18 bh).trans ((va_up_ne _ _ n_bh_lsa).trans m_bh)
  have i_bh : bh ∈ L_17 := by rw [eL_17]; exact List.mem_append_left _ i_bh
  have n_la_lsa : la ≠ lsa := fun h => hq_lsa (by rw [← h]; exact i_la)
  have m_la : M_18 la = _ := (congrFun eM_18 la).trans ((va_up_ne _ _ n_la_lsa).trans m_la)
  have i_la : la ∈ L_17 := by rw [eL_17]; exact List.mem_append_left _ i_la
  have n_t_lsa : t ≠ lsa := fun h => hq_lsa (by rw [← h]; exact i_t)
  have m_t : M_18 t = _ := (congrFun eM_18 t).trans ((va_up_ne _ _ n_t_lsa).trans m_t)
  have i_t : t ∈ L_17 := by rw [eL_17]; exact List.mem_append_left _ i_t
  have n_pk_lsa : pk ≠ lsa := fun h => hq_lsa (by rw [← h]; exact i_pk)
  have m_pk : M_18 pk = _ := (congrFun eM_18 pk).trans ((va_up_ne _ _ n_pk_lsa).trans m_pk)
  have i_pk : pk ∈ L_17 := by rw [eL_17]; exact List.mem_append_left _ i_pk
  have n_af_lsa : af ≠ lsa := fun h => hq_lsa (by rw [← h]; exact i_af)
  have m_af : M_18 af = _ := (congrFun eM_18 af).trans ((va_up_ne _ _ n_af_lsa).trans m_af)
  have i_af : af ∈ L_17 := by rw [eL_17]; exact List.mem_append_left _ i_af
  have o_lsa : lsa ∉ L := fun h => hq_lsa (hsub lsa h)
  have hsub : ∀ x, x ∈ L → x ∈ L_17 := fun x h => by rw [eL_17]; exact List.mem_append_left _ (hsub x h)
  have i_lsa : lsa ∈ L_17 := by rw [eL_17]; exact List.mem_append_right _ (List.mem_singleton.mpr rfl)
  have m_lsa : M_18 lsa = .inl (dA 5, 5, .inr (.inr (.inr (.inr (fun _ => none))))) := by rw [eM_18]; exact va_up_self _ _ _
  have fE : ∀ q : Nat, q ∈ L → q ≠ o → M_18 q = M q := fun q h0 h1 => (congrFun eM_18 q).trans ((va_up_ne _ _ (fun h => o_lsa (by rw [← h]; exact h0))).trans (fE q h0 h1))
  refine mm_putF (ci := 4) (v := .ref lsa) (fs' := [.ref ru, .null, .ref la, .int 0, .ref t, .ref af, .ref lsa, .null]) (ty := .array (.object "JumpBoard$MoveList")) (C := RX4) (T := TX4) (N := 8) hx hb hts in_X4 tyX4 tyX4_ok nmX4 hown hK hV i_o m_o rfl 6 (by decide) f_42 (fun _ h => h) rfl hin rfl (by decide +kernel) rfl rfl (Nat.le_of_ble_eq_true rfl) rfl dX4_init_61 (fun M_19 H locs eM_19 hV => ?_)
  have m_ru : M_19 ru = _ := (congrFun eM_19 ru).trans ((va_up_ne _ _ (Ne.symm n_o_ru)).trans m_ru)
  have m_nr : M_19 nr = _ := (congrFun eM_19 nr).trans ((va_up_ne _ _ (Ne.symm n_o_nr)).trans m_nr)
  have m_bh : M_19 bh = _ := (congrFun eM_19 bh).trans ((va_up_ne _ _ (Ne.symm n_o_bh)).trans m_bh)
  have m_la : M_19 la = _ := (congrFun eM_19 la).trans ((va_up_ne _ _ (Ne.symm n_o_la)).trans m_la)
  have m_t : M_19 t = _ := (congrFun eM_19 t).trans ((va_up_ne _ _ (Ne.symm n_o_t)).trans m_t)
  have m_pk : M_19 pk = _ := (congrFun eM_19 pk).trans ((va_up_ne _ _ (Ne.symm n_o_pk)).trans m_pk)
  have m_af : M_19 af = _ := (congrFun eM_19 af).trans ((va_up_ne _ _ (Ne.symm n_o_af)).trans m_af)
  have m_lsa : M_19 lsa = _ := (congrFun eM_19 lsa).trans ((va_up_ne _ _ (Ne.symm n_o_lsa)).trans m_lsa)
  have m_o : M_19 o = .inr (4, [.ref ru, .null, .ref la, .int 0, .ref t, .ref af, .ref lsa, .null]) := by rw [eM_19]; exact va_up_self _ _ _
  have fE : ∀ q : Nat, q ∈ L → q ≠ o → M_19 q = M q := fun q h0 h1 => (congrFun eM_19 q).trans ((va_up_ne _ _ h1).trans (fE q h0 h1))
  refine lv_aload_n hx hb dX4_init_64 rfl (lv_at hl 0 rfl) ?_
  refine lv_iconst (v := 5) hx hb dX4_init_65 (by decide) ?_
  refine mm_newq (C := "JumpBoard$Position") (N' := 5) hx hb hown (hts (.classLink RX4 20 "JumpBoard$Position") (by decide +kernel)) hK.2.2.2.2.2.1 4 rfl hK hV (by decide) (by decide +kernel) (by decide +kernel) (by rw [hR]; exact Nat.le_of_ble_eq_true rfl) (by rw [hR]; exact Nat.le_of_ble_eq_true rfl) dX4_init_66 (fun spa H hq_spa hV => ?_)
  refine W.widen (k := 9) (n := 336) (Nat.le_refl _) (Nat.le_refl _) ?_
  obtain ⟨L_20, eL_20⟩ : ∃ z, z = L_17 ++ [spa] := ⟨_, rfl⟩
  obtain ⟨M_21, eM_21⟩ : ∃ z, z = va_up M_19 spa (.inl (dA 4, 5, .inr (.inr (.inr (.inr (fun _ => none)))))) := ⟨_, rfl⟩
  rw [← eL_20, ← eM_21] at hV
  have n_o_spa : o ≠ spa := fun h => hq_spa (by rw [← h]; exact i_o)
  have m_o : M_21 o = _ := (congrFun eM_21 o).trans ((va_up_ne _ _ n_o_spa).trans m_o)
  have i_o : o ∈ L_20 := by rw [eL_20]; exact List.mem_append_left _ i_o
  have n_ru_spa : ru ≠ spa := fun h => hq_spa (by rw [← h]; exact i_ru)
  have m_ru : M_21 ru = _ := (congrFun eM_21 ru).trans ((va_up_ne _ _ n_ru_spa).trans m_ru)
  have i_ru : ru ∈ L_20 := by rw [eL_20]; exact List.mem_append_left _ i_ru
  have n_nr_spa : nr ≠ spa := fun h => hq_spa (by rw [← h]; exact i_nr)
  have m_nr : M_21 nr = _ := (congrFun eM_21 nr).trans ((va_up_ne _ _ n_nr_spa).trans m_nr)
  have i_nr : nr ∈ L_20 := by rw [eL_20]; exact List.mem_append_left _ i_nr
  have n_bh_spa : bh ≠ spa := fun h => hq_spa (by rw [← h]; exact i_bh)
  have m_bh : M_21 bh = _ := (congrFun eM_21 bh).trans ((va_up_ne _ _ n_bh_spa).trans m_bh)
  have i_bh : bh ∈ L_20 := by rw [eL_20]; exact List.mem_append_left _ i_bh
  have n_la_spa : la ≠ spa := fun h => hq_spa (by rw [← h]; exact i_la)
  have m_la : M_21 la = _ := (congrFun eM_21 la).trans ((va_up_ne _ _ n_la_spa).trans m_la)
  have i_la : la ∈ L_20 := by rw [eL_20]; exact List.mem_append_left _ i_la
  have n_t_spa : t ≠ spa := fun h => hq_spa (by rw [← h]; exact i_t)
  have m_t : M_21 t = _ := (congrFun eM_21 t).trans ((va_up_ne _ _ n_t_spa).trans m_t)
  have i_t : t ∈ L_20 := by rw [eL_20]; exact List.mem_append_left _ i_t
  have n_pk_spa : pk ≠ spa := fun h => hq_spa (by rw [← h]; exact i_pk)
  have m_pk : M_21 pk = _ := (congrFun eM_21 pk).trans ((va_up_ne _ _ n_pk_spa).trans m_pk)
  have i_pk : pk ∈ L_20 := by rw [eL_20]; exact List.mem_append_left _ i_pk
  have n_af_spa : af ≠ spa := fun h => hq_spa (by rw [← h]; exact i_af)
  have m_af : M_21 af = _ := (congrFun eM_21 af).trans ((va_up_ne _ _ n_af_spa).trans m_af)
  have i_af : af ∈ L_20 := by rw [eL_20]; exact List.mem_append_left _ i_af
  have n_lsa_spa : lsa ≠ spa := fun h => hq_spa (by rw [← h]; exact i_lsa)
  have m_lsa : M_21 lsa = _ := (congrFun eM_21 lsa).trans ((va_up_ne _ _ n_lsa_spa).trans m_lsa)
  have i_lsa : lsa ∈ L_20 := by rw [eL_20]; exact List.mem_append_left _ i_lsa
  have o_spa : spa ∉ L := fun h => hq_spa (hsub spa h)
  have hsub : ∀ x, x ∈ L → x ∈ L_20 := fun x h => by rw [eL_20]; exact List.mem_append_left _ (hsub x h)
  have i_spa : spa ∈ L_20 := by rw [eL_20]; exact List.mem_append_right _ (List.mem_singleton.mpr rfl)
  have m_spa : M_21 spa = .inl (dA 4, 5, .inr (.inr (.inr (.inr (fun _ => none))))) := by rw [eM_21]; exact va_up_self _ _ _
  have fE : ∀ q : Nat, q ∈ L → q ≠ o → M_21 q = M q := fun q h0 h1 => (congrFun eM_21 q).trans ((va_up_ne _ _ (fun h => o_spa (by rw [← h]; exact h0))).trans (fE q h0 h1))
  refine mm_putF (ci := 4) (v := .ref spa) (fs' := [.ref ru, .null, .ref la, .int 0, .ref t, .ref af, .ref lsa, .ref spa]) (ty := .array (.object "JumpBoard$Position")) (C := RX4) (T := TX4) (N := 8) hx hb hts in_X4 tyX4 tyX4_ok nmX4 hown hK hV i_o m_o rfl 7 (by decide) f_46 (fun _ h => h) rfl hin rfl (by decide +kernel) rfl rfl (Nat.le_of_ble_eq_true rfl) rfl dX4_init_69 (fun M_22 H locs eM_22 hV => ?_)
  have m_ru : M_22 ru = _ := (congrFun eM_22 ru).trans ((va_up_ne _ _ (Ne.symm n_o_ru)).trans m_ru)
  have m_nr : M_22 nr = _ := (congrFun eM_22 nr).trans ((va_up_ne _ _ (Ne.symm n_o_nr)).trans m_nr)
  have m_bh : M_22 bh = _ := (congrFun eM_22 bh).trans ((va_up_ne _ _ (Ne.symm n_o_bh)).trans m_bh)
  have m_la : M_22 la = _ := (congrFun eM_22 la).trans ((va_up_ne _ _ (Ne.symm n_o_la)).trans m_la)
  have m_t : M_22 t = _ := (congrFun eM_22 t).trans ((va_up_ne _ _ (Ne.symm n_o_t)).trans m_t)
  have m_pk : M_22 pk = _ := (congrFun eM_22 pk).trans ((va_up_ne _ _ (Ne.symm n_o_pk)).trans m_pk)
  have m_af : M_22 af = _ := (congrFun eM_22 af).trans ((va_up_ne _ _ (Ne.symm n_o_af)).trans m_af)
  have m_lsa : M_22 lsa = _ := (congrFun eM_22 lsa).trans ((va_up_ne _ _ (Ne.symm n_o_lsa)).trans m_lsa)
  have m_spa : M_22 spa = _ := (congrFun eM_22 spa).trans ((va_up_ne _ _ (Ne.symm n_o_spa)).trans m_spa)
  have m_o : M_22 o = .inr (4, [.ref ru, .null, .ref la, .int 0, .ref t, .ref af, .ref lsa, .ref spa]) := by rw [eM_22]; exact va_up_self _ _ _
  have fE : ∀ q : Nat, q ∈ L → q ≠ o → M_22 q = M q := fun q h0 h1 => (congrFun eM_22 q).trans ((va_up_ne _ _ h1).trans (fE q h0 h1))
  refine lv_iconst (v := 0) hx hb dX4_init_72 (by decide) ?_
  refine lv_topi (fun x1 ex1 => ?_)
  refine lv_istore_n (lv' := [(1, .int x1), (0, .ref o)]) hx hb dX4_init_73 rfl hl (by decide) rfl (fun ls hl => ?_)
  have hLc : L_20 = L ++ ([ru, nr, bh, la, t, pk, af, lsa, spa] ++ []) := by rw [eL_20, eL_17, eL_14, eL_11, eL_9, eL_5, eL9, eL_1]; simp only [List.append_assoc, List.cons_append, List.nil_append, List.append_nil]
  have m_la : M_22 la = .inl (dA 4, 101, .inr (.inr (.inr (.inr (gN [] 0))))) := m_la.trans (congrArg (fun z => Sum.inl (dA 4, 101, Sum.inr (Sum.inr (Sum.inr (Sum.inr z))))) (gN_0 []))
  have LP : ∀ (k i : Nat) (x1 : Int32) (N1 Lc : List Nat) (M1 : mm_M) (H : Heap) (locs : List Loc) (ls : Array Slot), i + k = 101 → x1 = nI i → N1.length = i → Lc = L ++ ([ru, nr, bh, la, t, pk, af, lsa, spa] ++ N1) → (∀ x, x ∈ L_20 → x ∈ Lc) → mm_V A D Lc M1 s H locs → M1 o = .inr (4, [.ref ru, .null, .ref la, .int 0, .ref t, .ref af, .ref lsa, .ref spa]) → M1 ru = .inr (3, [.ref nr, .ref bh]) → M1 nr = .inl (dA 0, 72, .inl nearT) → M1 bh = .inl (dA 0, 72, .inl behT) → M1 la = .inl (dA 4, 101, .inr (.inr (.inr (.inr (gN N1 i))))) → M1 t = .inr (1, [.ref pk, .int (nI 0)]) → M1 pk = .inl (dA 0, 72, .inl (fun _ => 0)) → M1 af = .inr (2, [.int 0, .int 0, .int 0, .int 0, .int 0]) → M1 lsa = .inl (dA 5, 5, .inr (.inr (.inr (.inr (fun _ => none))))) → M1 spa = .inl (dA 4, 5, .inr (.inr (.inr (.inr (fun _ => none))))) → (∀ j, j < i → N1.getD j 0 ∈ Lc) → (∀ j, j < i → N1.getD j 0 ∉ L_20) → (∀ j, j < i → M1 (N1.getD j 0) = oP (0, 0, 0, 0, 0)) → (∀ q : Nat, q ∈ L → q ≠ o → M1 q = M q) → lv_has ls 2 [(0, .ref o), (1, .int x1)] → W p l e R s m args below meth c H locs (9 + i) (336 + 5 * i) Q (F0 m 74 ls []) := by
    intro k
    induction k with
    | zero =>
      intro i x1 N1 Lc M1 H locs ls hik hx1 hN1 hLc hin2 hV m_o m_ru m_nr m_bh m_la m_t m_pk m_af m_lsa m_spa hNi hNo hNc fE hl
      have j_o := i_o
      have j_ru := i_ru
      have j_nr := i_nr
      have j_bh := i_bh
      have j_la := i_la
      have j_t := i_t
      have j_pk := i_pk
      have j_af := i_af
      have j_lsa := i_lsa
      have j_spa := i_spa
      have i_o := hin2 _ i_o
      have i_ru := hin2 _ i_ru
      have i_nr := hin2 _ i_nr
      have i_bh := hin2 _ i_bh
      have i_la := hin2 _ i_la
      have i_t := hin2 _ i_t
      have i_pk := hin2 _ i_pk
      have i_af := hin2 _ i_af
      have i_lsa := hin2 _ i_lsa
      have i_spa := hin2 _ i_spa
      have hsub : ∀ x, x ∈ L → x ∈ Lc := fun x h => hin2 x (hsub x h)
      refine lv_iload_n hx hb dX4_init_74 rfl (lv_at hl 1 rfl) ?_
      refine lv_bipush (v := 100) hx hb dX4_init_75 (by decide) ?_
      refine lv_icmp_gt (tgt := 99) hx hb dX4_init_77 (by decide) (fun c77 => ?_) (fun c77 => ?_)
      · have hi : i = 101 := by omega
        subst hi
        refine lv_iconst (v := 0) hx hb dX4_init_99 (by decide) ?_
        refine lv_topi (fun y1 ey1 => ?_)
        refine lv_istore_n (lv' := [(1, .int y1), (0, .ref o)]) hx hb dX4_init_100 rfl hl (by decide) rfl (fun ls hl => ?_)
        have m_lsa : M1 lsa = .inl (dA 5, 5, .inr (.inr (.inr (.inr (gM [] 0 0))))) := m_lsa.trans (congrArg (fun z => Sum.inl (dA 5, 5, Sum.inr (Sum.inr (Sum.inr (Sum.inr z))))) (gM_0 [] 0))
        have m_spa : M1 spa = .inl (dA 4, 5, .inr (.inr (.inr (.inr (gM [] 2 0))))) := m_spa.trans (congrArg (fun z => Sum.inl (dA 4, 5, Sum.inr (Sum.inr (Sum.inr (Sum.inr z))))) (gM_0 [] 2))
        have LQ : ∀ (k i : Nat) (x1 : Int32) (N2 Ld : List Nat) (M2 : mm_M) (H : Heap) (locs : List Loc) (ls : Array Slot), i + k = 5 → x1 = nI i → N2.length = 3 * i → Ld = Lc ++ N2 → mm_V A D Ld M2 s H locs → M2 o = .inr (4, [.ref ru, .null, .ref la, .int 0, .ref t, .ref af, .ref lsa, .ref spa]) → M2 ru = .inr (3, [.ref nr, .ref bh]) → M2 nr = .inl (dA 0, 72, .inl nearT) → M2 bh = .inl (dA 0, 72, .inl behT) → M2 la = .inl (dA 4, 101, .inr (.inr (.inr (.inr (gN N1 101))))) → M2 t = .inr (1, [.ref pk, .int (nI 0)]) → M2 pk = .inl (dA 0, 72, .inl (fun _ => 0)) → M2 af = .inr (2, [.int 0, .int 0, .int 0, .int 0, .int 0]) → M2 lsa = .inl (dA 5, 5, .inr (.inr (.inr (.inr (gM N2 0 i))))) → M2 spa = .inl (dA 4, 5, .inr (.inr (.inr (.inr (gM N2 2 i))))) → (∀ j, j < 3 * i → N2.getD j 0 ∈ Ld) → (∀ j, j < 3 * i → N2.getD j 0 ∉ Lc) → (∀ j, j < 3 * i → M2 (N2.getD j 0) = cN dA N2 j) → (∀ j, j < 101 → M2 (N1.getD j 0) = oP (0, 0, 0, 0, 0)) → (∀ q : Nat, q ∈ L → q ≠ o → M2 q = M q) → lv_has ls 2 [(0, .ref o), (1, .int x1)] → W p l e R s m args below meth c H locs (110 + 3 * i) (841 + 79 * i) Q (F0 m 101 ls []) := by
          intro k
          induction k with
          | zero =>
            intro i x1 N2 Ld M2 H locs ls hik hx1 hN2 hLd hV m_o m_ru m_nr m_bh m_la m_t m_pk m_af m_lsa m_spa hPi hPo hPc hNc fE hl
            have hin3 : ∀ x, x ∈ Lc → x ∈ Ld := fun x h => by rw [hLd]; exact List.mem_append_left _ h
            have k_o := i_o
            have k_ru := i_ru
            have k_nr := i_nr
            have k_bh := i_bh
            have k_la := i_la
            have k_t := i_t
            have k_pk := i_pk
            have k_af := i_af
            have k_lsa := i_lsa
            have k_spa := i_spa
            have i_o := hin3 _ i_o
            have i_ru := hin3 _ i_ru
            have i_nr := hin3 _ i_nr
            have i_bh := hin3 _ i_bh
            have i_la := hin3 _ i_la
            have i_t := hin3 _ i_t
            have i_pk := hin3 _ i_pk
            have i_af := hin3 _ i_af
            have i_lsa := hin3 _ i_lsa
            have i_spa := hin3 _ i_spa
            have hsub : ∀ x, x ∈ L → x ∈ Ld := fun x h => hin3 x (hsub x h)
            refine lv_iload_n hx hb dX4_init_101 rfl (lv_at hl 1 rfl) ?_
            refine lv_iconst (v := 4) hx hb dX4_init_102 (by decide) ?_
            refine lv_icmp_gt (tgt := 138) hx hb dX4_init_103 (by decide) (fun c103 => ?_) (fun c103 => ?_)
            · have hi : i = 5 := by omega
              subst hi
              have i_p0 : N1.getD 0 0 ∈ Ld := hin3 _ (hNi 0 (by omega))
              have m_p0 := hNc 0 (by omega)
              have m_p0 : M2 (N1.getD 0 0) = .inr (2, [.int 0, .int 0, .int 0, .int 0, .int 0]) := m_p0
              refine lv_aload_n hx hb dX4_init_138 rfl (lv_at hl 0 rfl) ?_
              refine mm_get (ci := 4) (C := RX4) (T := TX4) (N := 8) hx hb hts in_X4 hown hK hV i_o m_o rfl 2 (by decide) f_22 (fun _ h => h) rfl dX4_init_139 ?_
              refine lv_iconst (v := 0) hx hb dX4_init_142 (by decide) ?_
              refine mm_aaldN (j := 0) (b := (N1.getD 0 0)) hx hb hK hV 4 i_la m_la rfl rfl (by decide) (by decide) (by unfold gN; rw [if_pos (by decide)]) dX4_init_143 ?_
              refine mm_Vm (ci := 2) (As := []) (rest := []) ⟨hx, hb, hml, hown, hts⟩ hK hV (c_setUp l D dA (P := (0, 0, 0, 0, 0)) i_p0 m_p0) (cwV 0 hts gX4_init_X2_setUp rfl rfl rfl (by decide +kernel) (mm_levR hR (by omega) (by decide))) i_p0 m_p0 rfl rfl hl.1 rfl (Nat.le_of_ble_eq_true rfl) dX4_init_144 (by rw [hR]; exact ⟨by show 110 + 3 * 5 ≤ 125; omega, by show 841 + 79 * 5 ≤ 1236; omega⟩) (fun M9 H locs eM9 hV => ?_)
              exact hret dX4_init_147 hV (by decide) (by decide) (bi_fin (N1 := N1) (N2 := N2) i_oo (by rw [hLd, hLc]; simp only [List.append_assoc]) hN1 hN2 hV.2.1 m_o m_ru m_nr m_bh m_la m_t m_pk m_af m_lsa m_spa hPc hNc fE eM9)
            · exact absurd (by rw [hx1]; exact nI_lt (a := 4) (by omega) (by omega)) c103
          | succ k ih2 =>
            intro i x1 N2 Ld M2 H locs ls hik hx1 hN2 hLd hV m_o m_ru m_nr m_bh m_la m_t m_pk m_af m_lsa m_spa hPi hPo hPc hNc fE hl
            have hin3 : ∀ x, x ∈ Lc → x ∈ Ld := fun x h => by rw [hLd]; exact List.mem_append_left _ h
            have k_o := i_o
            have k_ru := i_ru
            have k_nr := i_nr
            have k_bh := i_bh
            have k_la := i_la
            have k_t := i_t
            have k_pk := i_pk
            have k_af := i_af
            have k_lsa := i_lsa
            have k_spa := i_spa
            have i_o := hin3 _ i_o
            have i_ru := hin3 _ i_ru
            have i_nr := hin3 _ i_nr
            have i_bh := hin3 _ i_bh
            have i_la := hin3 _ i_la
            have i_t := hin3 _ i_t
            have i_pk := hin3 _ i_pk
            have i_af := hin3 _ i_af
            have i_lsa := hin3 _ i_lsa
            have i_spa := hin3 _ i_spa
            have hsub : ∀ x, x ∈ L → x ∈ Ld := fun x h => hin3 x (hsub x h)
            have hin4 : ∀ x, x ∈ Ld → x ∈ Ld := fun _ h => h
            refine lv_iload_n hx hb dX4_init_101 rfl (lv_at hl 1 rfl) ?_
            refine lv_iconst (v := 4) hx hb dX4_init_102 (by decide) ?_
            refine lv_icmp_gt (tgt := 138) hx hb dX4_init_103 (by decide) (fun c103 => ?_) (fun c103 => ?_)
            · exact absurd c103 (by rw [hx1]; exact nI_nlt (b := i) (a := 4) (by omega) (by decide))
            · refine lv_aload_n hx hb dX4_init_106 rfl (lv_at hl 0 rfl) ?_
              refine mm_get (ci := 4) (C := RX4) (T := TX4) (N := 8) hx hb hts in_X4 hown hK hV i_o m_o rfl 6 (by decide) f_42 (fun _ h => h) rfl dX4_init_107 ?_
              refine lv_iload_n hx hb dX4_init_110 rfl (lv_at hl 1 rfl) ?_
              refine mm_new (ci := 1) (fs := [.null, .int 0]) (C := RX1) (T := TX1) (N := 2) hx hb hts in_X1 tyX1 tyX1_ok hown (hts (.classLink RX4 30 RX1) (by decide +kernel)) (hts (.instantiable RX1 2) (by decide +kernel)) (hts (.initialized RX1) (by decide +kernel)) hK hV rfl (fun j hj => by rcases (show j = 0 ∨ j = 1 by omega) with rfl | rfl <;> rfl) (by rw [hR]; show 110 + 3 * i + 1 ≤ 125; omega) (by rw [hR]; show 841 + 79 * i + 2 ≤ 1236; omega) dX4_init_111 (fun ll H hq_ll hV => ?_)
              obtain ⟨L_24, eL_24⟩ : ∃ z, z = Ld ++ [ll] := ⟨_, rfl⟩
              obtain ⟨M_25, eM_25⟩ : ∃ z, z = va_up M2 ll (.inr (1, [.null, .int 0])) := ⟨_, rfl⟩
              rw [← eL_24, ← eM_25] at hV
              have n_o_ll : o ≠ ll := fun h => hq_ll (by rw [← h]; exact i_o)
              have m_o : M_25 o = _ := (congrFun eM_25 o).trans ((va_up_ne _ _ n_o_ll).trans m_o)
              have i_o : o ∈ L_24 := by rw [eL_24]; exact List.mem_append_left _ i_o
              have n_ru_ll : ru ≠ ll := fun h => hq_ll (by rw [← h]; exact i_ru)
              have m_ru : M_25 ru = _ := (congrFun eM_25 ru).trans ((va_up_ne _ _ n_ru_ll).trans m_ru)
              have i_ru : ru ∈ L_24 := by rw [eL_24]; exact List.mem_append_left _ i_ru
              have n_nr_ll : nr ≠ ll := fun h => hq_ll (by rw [← h]; exact i_nr)
              have m_nr : M_25 nr = _ := (congrFun eM_25 nr).trans ((va_up_ne _ _ n_nr_ll).trans m_nr)
              have i_nr : nr ∈ L_24 := by rw [eL_24]; exact List.mem_append_left _ i_nr
              have n_bh_ll : bh ≠ ll := fun h => hq_ll (by rw [← h]; exact i_bh)
              have m_bh : M_25 bh = _ := (congrFun eM_25 bh).trans ((va_up_ne _ _ n_bh_ll).trans m_bh)
              have i_bh : bh ∈ L_24 := by rw [eL_24]; exact List.mem_append_left _ i_bh
              have n_la_ll : la ≠ ll := fun h => hq_ll (by rw [← h]; exact i_la)
              have m_la : M_25 la = _ := (congrFun eM_25 la).trans ((va_up_ne _ _ n_la_ll).trans m_la)
              have i_la : la ∈ L_24 := by rw [eL_24]; exact List.mem_append_left _ i_la
              have n_t_ll : t ≠ ll := fun h => hq_ll (by rw [← h]; exact i_t)
              have m_t : M_25 t = _ := (congrFun eM_25 t).trans ((va_up_ne _ _ n_t_ll).trans m_t)
              have i_t : t ∈ L_24 := by rw [eL_24]; exact List.mem_append_left _ i_t
              have n_pk_ll : pk ≠ ll := fun h => hq_ll (by rw [← h]; exact i_pk)
              have m_pk : M_25 pk = _ := (congrFun eM_25 pk).trans ((va_up_ne _ _ n_pk_ll).trans m_pk)
              have i_pk : pk ∈ L_24 := by rw [eL_24]; exact List.mem_append_left _ i_pk
              have n_af_ll : af ≠ ll := fun h => hq_ll (by rw [← h]; exact i_af)
              have m_af : M_25 af = _ := (congrFun eM_25 af).trans ((va_up_ne _ _ n_af_ll).trans m_af)
              have i_af : af ∈ L_24 := by rw [eL_24]; exact List.mem_append_left _ i_af
              have n_lsa_ll : lsa ≠ ll := fun h => hq_ll (by rw [← h]; exact i_lsa)
              have m_lsa : M_25 lsa = _ := (congrFun eM_25 lsa).trans ((va_up_ne _ _ n_lsa_ll).trans m_lsa)
              have i_lsa : lsa ∈ L_24 := by rw [eL_24]; exact List.mem_append_left _ i_lsa
              have n_spa_ll : spa ≠ ll := fun h => hq_ll (by rw [← h]; exact i_spa)
              have m_spa : M_25 spa = _ := (congrFun eM_25 spa).trans ((va_up_ne _ _ n_spa_ll).trans m_spa)
              have i_spa : spa ∈ L_24 := by rw [eL_24]; exact List.mem_append_left _ i_spa
              have o_ll : ll ∉ L := fun h => hq_ll (hsub ll h)
              have c_ll : ll ∉ Lc := fun h => hq_ll (hin4 ll (hin3 ll h))
              have d_ll : ll ∉ Ld := fun h => hq_ll (hin4 ll h)
              have hsub : ∀ x, x ∈ L → x ∈ L_24 := fun x h => by rw [eL_24]; exact List.mem_append_left _ (hsub x h)
              have hin4 : ∀ x, x ∈ Ld → x ∈ L_24 := fun x h => by rw [eL_24]; exact List.mem_append_left _ (hin4 x h)
              have eL_ll := eL_24
              have hPc : ∀ j, j < 3 * i → M_25 (N2.getD j 0) = cN dA N2 j := fun j hj => (congrFun eM_25 _).trans ((va_up_ne _ _ (fun h => d_ll (by rw [← h]; exact hPi j hj))).trans (hPc j hj))
              have hNc : ∀ j, j < 101 → M_25 (N1.getD j 0) = oP (0, 0, 0, 0, 0) := fun j hj => (congrFun eM_25 _).trans ((va_up_ne _ _ (fun h => c_ll (by rw [← h]; exact hNi j hj))).trans (hNc j hj))
              have i_ll : ll ∈ L_24 := by rw [eL_24]; exact List.mem_append_right _ (List.mem_singleton.mpr rfl)
              have m_ll : M_25 ll = .inr (1, [.null, .int 0]) := by rw [eM_25]; exact va_up_self _ _ _
              have fE : ∀ q : Nat, q ∈ L → q ≠ o → M_25 q = M q := fun q h0 h1 => (congrFun eM_25 q).trans ((va_up_ne _ _ (fun h => o_ll (by rw [← h]; exact h0))).trans (fE q h0 h1))
              refine lv_dup hx hb dX4_init_114 rfl ?_
              refine mm_INv (mc := 1) (ms := 72) (host := RX4) (As := []) (rest := [.ref ll, .int x1, .ref lsa]) ⟨hx, hb, hml, hown, hts⟩ hK hV (c_X1_init l D dA i_ll m_ll) ⟨va_cnB 0 hts gX4_init_X1_init_n32 rfl rfl rfl hK.2.2.2.1 (hts (.initialized RX1) (by decide +kernel)) (by decide +kernel) (mm_levR hR (by omega) (by decide)), rfl, hts (.instanceMethod yX1_init) (by decide +kernel)⟩ rfl hl.1 rfl (Nat.le_of_ble_eq_true rfl) dX4_init_115 (by rw [hR]; exact ⟨by show 110 + 3 * i + 1 + 1 ≤ 125; omega, by show 841 + 79 * i + 2 + 72 ≤ 1236; omega⟩) (fun L9 M9 H locs hp hV => ?_)
              obtain ⟨lk, hq_lk, eL8, eM8⟩ := hp
              rw [eL8, eM8] at hV
              obtain ⟨L_26, eL_26⟩ : ∃ z, z = L_24 ++ [lk] := ⟨_, rfl⟩
              obtain ⟨M_27, eM_27⟩ : ∃ z, z = va_up (va_up M_25 lk (.inl (dA 0, 72, .inl (fun _ => 0)))) ll (oL lk 0) := ⟨_, rfl⟩
              rw [← eL_26, ← eM_27] at hV
              have n_o_lk : o ≠ lk := fun h => hq_lk (by rw [← h]; exact i_o)
              have n_ru_lk : ru ≠ lk := fun h => hq_lk (by rw [← h]; exact i_ru)
              have n_nr_lk : nr ≠ lk := fun h => hq_lk (by rw [← h]; exact i_nr)
              have n_bh_lk : bh ≠ lk := fun h => hq_lk (by rw [← h]; exact i_bh)
              have n_la_lk : la ≠ lk := fun h => hq_lk (by rw [← h]; exact i_la)
              have n_t_lk : t ≠ lk := fun h => hq_lk (by rw [← h]; exact i_t)
              have n_pk_lk : pk ≠ lk := fun h => hq_lk (by rw [← h]; exact i_pk)
              have n_af_lk : af ≠ lk := fun h => hq_lk (by rw [← h]; exact i_af)
              have n_lsa_lk : lsa ≠ lk := fun h => hq_lk (by rw [← h]; exact i_lsa)
              have n_spa_lk : spa ≠ lk := fun h => hq_lk (by rw [← h]; exact i_spa)
              have n_ll_lk : ll ≠ lk := fun h => hq_lk (by rw [← h]; exact i_ll)
              have m_o : M_27 o = _ := (congrFun eM_27 o).trans ((va_up_ne _ _ n_o_ll).trans ((va_up_ne _ _ n_o_lk).trans m_o))
              have m_ru : M_27 ru = _ := (congrFun eM_27 ru).trans ((va_up_ne _ _ n_ru_ll).trans ((va_up_ne _ _ n_ru_lk).trans m_ru))
              have m_nr : M_27 nr = _ := (congrFun eM_27 nr).trans ((va_up_ne _ _ n_nr_ll).trans ((va_up_ne _ _ n_nr_lk).trans m_nr))
              have m_bh : M_27 bh = _ := (congrFun eM_27 bh).trans ((va_up_ne _ _ n_bh_ll).trans ((va_up_ne _ _ n_bh_lk).trans m_bh))
              have m_la : M_27 la = _ := (congrFun eM_27 la).trans ((va_up_ne _ _ n_la_ll).trans ((va_up_ne _ _ n_la_lk).trans m_la))
              have m_t : M_27 t = _ := (congrFun eM_27 t).trans ((va_up_ne _ _ n_t_ll).trans ((va_up_ne _ _ n_t_lk).trans m_t))
              have m_pk : M_27 pk = _ := (congrFun eM_27 pk).trans ((va_up_ne _ _ n_pk_ll).trans ((va_up_ne _ _ n_pk_lk).trans m_pk))
              have m_af : M_27 af = _ := (congrFun eM_27 af).trans ((va_up_ne _ _ n_af_ll).trans ((va_up_ne _ _ n_af_lk).trans m_af))
              have m_lsa : M_27 lsa = _ := (congrFun eM_27 lsa).trans ((va_up_ne _ _ n_lsa_ll).trans ((va_up_ne _ _ n_lsa_lk).trans m_lsa))
              have m_spa : M_27 spa = _ := (congrFun eM_27 spa).trans ((va_up_ne _ _ n_spa_ll).trans ((va_up_ne _ _ n_spa_lk).trans m_spa))
              have i_o : o ∈ L_26 := by rw [eL_26]; exact List.mem_append_left _ i_o
              have i_ru : ru ∈ L_26 := by rw [eL_26]; exact List.mem_append_left _ i_ru
              have i_nr : nr ∈ L_26 := by rw [eL_26]; exact List.mem_append_left _ i_nr
              have i_bh : bh ∈ L_26 := by rw [eL_26]; exact List.mem_append_left _ i_bh
              have i_la : la ∈ L_26 := by rw [eL_26]; exact List.mem_append_left _ i_la
              have i_t : t ∈ L_26 := by rw [eL_26]; exact List.mem_append_left _ i_t
              have i_pk : pk ∈ L_26 := by rw [eL_26]; exact List.mem_append_left _ i_pk
              have i_af : af ∈ L_26 := by rw [eL_26]; exact List.mem_append_left _ i_af
              have i_lsa : lsa ∈ L_26 := by rw [eL_26]; exact List.mem_append_left _ i_lsa
              have i_spa : spa ∈ L_26 := by rw [eL_26]; exact List.mem_append_left _ i_spa
              have i_ll : ll ∈ L_26 := by rw [eL_26]; exact List.mem_append_left _ i_ll
              have m_ll : M_27 ll = .inr (1, [.ref lk, .int (nI 0)]) := (congrFun eM_27 ll).trans (va_up_self _ _ _)
              have o_lk : lk ∉ L := fun h => hq_lk (hsub lk h)
              have c_lk : lk ∉ Lc := fun h => hq_lk (hin4 lk (hin3 lk h))
              have d_lk : lk ∉ Ld := fun h => hq_lk (hin4 lk h)
              have hsub : ∀ x, x ∈ L → x ∈ L_26 := fun x h => by rw [eL_26]; exact List.mem_append_left _ (hsub x h)
              have hin4 : ∀ x, x ∈ Ld → x ∈ L_26 := fun x h => by rw [eL_26]; exact List.mem_append_left _ (hin4 x h)
              have eL_lk := eL_26
              have hPc : ∀ j, j < 3 * i → M_27 (N2.getD j 0) = cN dA N2 j := fun j hj => (congrFun eM_27 _).trans ((va_up_ne _ _ (fun h => d_ll (by rw [← h]; exact hPi j hj))).trans ((va_up_ne _ _ (fun h => d_lk (by rw [← h]; exact hPi j hj))).trans (hPc j hj)))
              have hNc : ∀ j, j < 101 → M_27 (N1.getD j 0) = oP (0, 0, 0, 0, 0) := fun j hj => (congrFun eM_27 _).trans ((va_up_ne _ _ (fun h => c_ll (by rw [← h]; exact hNi j hj))).trans ((va_up_ne _ _ (fun h => c_lk (by rw [← h]; exact hNi j hj))).trans (hNc j hj)))
              have i_lk : lk ∈ L_26 := by rw [eL_26]; exact List.mem_append_right _ (List.mem_singleton.mpr rfl)
              have m_lk : M_27 lk = .inl (dA 0, 72, .inl (fun _ => 0)) := (congrFun eM_27 lk).trans ((va_up_ne _ _ (Ne.symm n_ll_lk)).trans (va_up_self _ _ _))
              have fE : ∀ q : Nat, q ∈ L → q ≠ o → M_27 q = M q := fun q h0 h1 => (congrFun eM_27 q).trans ((va_up_ne _ _ (fun h => o_ll (by rw [← h]; exact h0))).trans ((va_up_ne _ _ (fun h => o_lk (by rw [← h]; exact h0))).trans (fE q h0 h1)))
              refine mm_aastN (j := i) (ci := 1) (r := (RX1, TX1, 2)) hx hb hK hV 5 i_lsa m_lsa rfl i_ll m_ll rfl hx1 (by omega) (by decide) dX4_init_118 (fun M_28 H locs eM_28 hV => ?_)
              have m_o : M_28 o = _ := (congrFun eM_28 o).trans ((va_up_ne _ _ n_o_lsa).trans m_o)
              have m_ru : M_28 ru = _ := (congrFun eM_28 ru).trans ((va_up_ne _ _ n_ru_lsa).trans m_ru)
              have m_nr : M_28 nr = _ := (congrFun eM_28 nr).trans ((va_up_ne _ _ n_nr_lsa).trans m_nr)
              have m_bh : M_28 bh = _ := (congrFun eM_28 bh).trans ((va_up_ne _ _ n_bh_lsa).trans m_bh)
              have m_la : M_28 la = _ := (congrFun eM_28 la).trans ((va_up_ne _ _ n_la_lsa).trans m_la)
              have m_t : M_28 t = _ := (congrFun eM_28 t).trans ((va_up_ne _ _ n_t_lsa).trans m_t)
              have m_pk : M_28 pk = _ := (congrFun eM_28 pk).trans ((va_up_ne _ _ n_pk_lsa).trans m_pk)
              have m_af : M_28 af = _ := (congrFun eM_28 af).trans ((va_up_ne _ _ n_af_lsa).trans m_af)
              have m_spa : M_28 spa = _ := (congrFun eM_28 spa).trans ((va_up_ne _ _ (Ne.symm n_lsa_spa)).trans m_spa)
              have m_ll : M_28 ll = _ := (congrFun eM_28 ll).trans ((va_up_ne _ _ (Ne.symm n_lsa_ll)).trans m_ll)
              have m_lk : M_28 lk = _ := (congrFun eM_28 lk).trans ((va_up_ne _ _ (Ne.symm n_lsa_lk)).trans m_lk)
              have m_lsa : M_28 lsa = .inl (dA 5, 5, .inr (.inr (.inr (.inr (va_up (gM N2 0 i) i (some ll)))))) := by rw [eM_28]; exact va_up_self _ _ _
              have fE : ∀ q : Nat, q ∈ L → q ≠ o → M_28 q = M q := fun q h0 h1 => (congrFun eM_28 q).trans ((va_up_ne _ _ (fun h => o_lsa (by rw [← h]; exact h0))).trans (fE q h0 h1))
              have hPc : ∀ j, j < 3 * i → M_28 (N2.getD j 0) = cN dA N2 j := fun j hj => (congrFun eM_28 _).trans ((va_up_ne _ _ (fun h => hPo j hj (by rw [h]; exact k_lsa))).trans (hPc j hj))
              have hNc : ∀ j, j < 101 → M_28 (N1.getD j 0) = oP (0, 0, 0, 0, 0) := fun j hj => (congrFun eM_28 _).trans ((va_up_ne _ _ (fun h => hNo j hj (by rw [h]; exact j_lsa))).trans (hNc j hj))
              refine lv_aload_n hx hb dX4_init_119 rfl (lv_at hl 0 rfl) ?_
              refine mm_get (ci := 4) (C := RX4) (T := TX4) (N := 8) hx hb hts in_X4 hown hK hV i_o m_o rfl 7 (by decide) f_46 (fun _ h => h) rfl dX4_init_120 ?_
              refine lv_iload_n hx hb dX4_init_123 rfl (lv_at hl 1 rfl) ?_
              refine mm_new (ci := 2) (fs := [.int 0, .int 0, .int 0, .int 0, .int 0]) (C := RX2) (T := TX2) (N := 5) hx hb hts in_X2 tyX2 tyX2_ok hown (hts (.classLink RX4 20 RX2) (by decide +kernel)) (hts (.instantiable RX2 5) (by decide +kernel)) (hts (.initialized RX2) (by decide +kernel)) hK hV rfl (fun j hj => by rcases (show j = 0 ∨ j = 1 ∨ j = 2 ∨ j = 3 ∨ j = 4 by omega) with rfl | rfl | rfl | rfl | rfl <;> rfl) (by rw [hR]; show 110 + 3 * i + 1 + 1 + 1 ≤ 125; omega) (by rw [hR]; show 841 + 79 * i + 2 + 72 + 5 ≤ 1236; omega) dX4_init_124 (fun sp H hq_sp hV => ?_)
              obtain ⟨L_29, eL_29⟩ : ∃ z, z = L_26 ++ [sp] := ⟨_, rfl⟩
              obtain ⟨M_30, eM_30⟩ : ∃ z, z = va_up M_28 sp (.inr (2, [.int 0, .int 0, .int 0, .int 0, .int 0])) := ⟨_, rfl⟩
              rw [← eL_29, ← eM_30] at hV
              have n_o_sp : o ≠ sp := fun h => hq_sp (by rw [← h]; exact i_o)
              have m_o : M_30 o = _ := (congrFun eM_30 o).trans ((va_up_ne _ _ n_o_sp).trans m_o)
              have i_o : o ∈ L_29 := by rw [eL_29]; exact List.mem_append_left _ i_o
              have n_ru_sp : ru ≠ sp := fun h => hq_sp (by rw [← h]; exact i_ru)
              have m_ru : M_30 ru = _ := (congrFun eM_30 ru).trans ((va_up_ne _ _ n_ru_sp).trans m_ru)
              have i_ru : ru ∈ L_29 := by rw [eL_29]; exact List.mem_append_left _ i_ru
              have n_nr_sp : nr ≠ sp := fun h => hq_sp (by rw [← h]; exact i_nr)
              have m_nr : M_30 nr = _ := (congrFun eM_30 nr).trans ((va_up_ne _ _ n_nr_sp).trans m_nr)
              have i_nr : nr ∈ L_29 := by rw [eL_29]; exact List.mem_append_left _ i_nr
              have n_bh_sp : bh ≠ sp := fun h => hq_sp (by rw [← h]; exact i_bh)
              have m_bh : M_30 bh = _ := (congrFun eM_30 bh).trans ((va_up_ne _ _ n_bh_sp).trans m_bh)
              have i_bh : bh ∈ L_29 := by rw [eL_29]; exact List.mem_append_left _ i_bh
              have n_la_sp : la ≠ sp := fun h => hq_sp (by rw [← h]; exact i_la)
              have m_la : M_30 la = _ := (congrFun eM_30 la).trans ((va_up_ne _ _ n_la_sp).trans m_la)
              have i_la : la ∈ L_29 := by rw [eL_29]; exact List.mem_append_left _ i_la
              have n_t_sp : t ≠ sp := fun h => hq_sp (by rw [← h]; exact i_t)
              have m_t : M_30 t = _ := (congrFun eM_30 t).trans ((va_up_ne _ _ n_t_sp).trans m_t)
              have i_t : t ∈ L_29 := by rw [eL_29]; exact List.mem_append_left _ i_t
              have n_pk_sp : pk ≠ sp := fun h => hq_sp (by rw [← h]; exact i_pk)
              have m_pk : M_30 pk = _ := (congrFun eM_30 pk).trans ((va_up_ne _ _ n_pk_sp).trans m_pk)
              have i_pk : pk ∈ L_29 := by rw [eL_29]; exact List.mem_append_left _ i_pk
              have n_af_sp : af ≠ sp := fun h => hq_sp (by rw [← h]; exact i_af)
              have m_af : M_30 af = _ := (congrFun eM_30 af).trans ((va_up_ne _ _ n_af_sp).trans m_af)
              have i_af : af ∈ L_29 := by rw [eL_29]; exact List.mem_append_left _ i_af
              have n_lsa_sp : lsa ≠ sp := fun h => hq_sp (by rw [← h]; exact i_lsa)
              have m_lsa : M_30 lsa = _ := (congrFun eM_30 lsa).trans ((va_up_ne _ _ n_lsa_sp).trans m_lsa)
              have i_lsa : lsa ∈ L_29 := by rw [eL_29]; exact List.mem_append_left _ i_lsa
              have n_spa_sp : spa ≠ sp := fun h => hq_sp (by rw [← h]; exact i_spa)
              have m_spa : M_30 spa = _ := (congrFun eM_30 spa).trans ((va_up_ne _ _ n_spa_sp).trans m_spa)
              have i_spa : spa ∈ L_29 := by rw [eL_29]; exact List.mem_append_left _ i_spa
              have n_ll_sp : ll ≠ sp := fun h => hq_sp (by rw [← h]; exact i_ll)
              have m_ll : M_30 ll = _ := (congrFun eM_30 ll).trans ((va_up_ne _ _ n_ll_sp).trans m_ll)
              have i_ll : ll ∈ L_29 := by rw [eL_29]; exact List.mem_append_left _ i_ll
              have n_lk_sp : lk ≠ sp := fun h => hq_sp (by rw [← h]; exact i_lk)
              have m_lk : M_30 lk = _ := (congrFun eM_30 lk).trans ((va_up_ne _ _ n_lk_sp).trans m_lk)
              have i_lk : lk ∈ L_29 := by rw [eL_29]; exact List.mem_append_left _ i_lk
              have o_sp : sp ∉ L := fun h => hq_sp (hsub sp h)
              have c_sp : sp ∉ Lc := fun h => hq_sp (hin4 sp (hin3 sp h))
              have d_sp : sp ∉ Ld := fun h => hq_sp (hin4 sp h)
              have hsub : ∀ x, x ∈ L → x ∈ L_29 := fun x h => by rw [eL_29]; exact List.mem_append_left _ (hsub x h)
              have hin4 : ∀ x, x ∈ Ld → x ∈ L_29 := fun x h => by rw [eL_29]; exact List.mem_append_left _ (hin4 x h)
              have eL_sp := eL_29
              have hPc : ∀ j, j < 3 * i → M_30 (N2.getD j 0) = cN dA N2 j := fun j hj => (congrFun eM_30 _).trans ((va_up_ne _ _ (fun h => d_sp (by rw [← h]; exact hPi j hj))).trans (hPc j hj))
              have hNc : ∀ j, j < 101 → M_30 (N1.getD j 0) = oP (0, 0, 0, 0, 0) := fun j hj => (congrFun eM_30 _).trans ((va_up_ne _ _ (fun h => c_sp (by rw [← h]; exact hNi j hj))).trans (hNc j hj))
              have i_sp : sp ∈ L_29 := by rw [eL_29]; exact List.mem_append_right _ (List.mem_singleton.mpr rfl)
              have m_sp : M_30 sp = .inr (2, [.int 0, .int 0, .int 0, .int 0, .int 0]) := by rw [eM_30]; exact va_up_self _ _ _
              have fE : ∀ q : Nat, q ∈ L → q ≠ o → M_30 q = M q := fun q h0 h1 => (congrFun eM_30 q).trans ((va_up_ne _ _ (fun h => o_sp (by rw [← h]; exact h0))).trans (fE q h0 h1))
              refine lv_dup hx hb dX4_init_127 rfl ?_
              refine mm_INv (mc := 0) (ms := 0) (host := RX4) (As := []) (rest := [.ref sp, .int x1, .ref spa]) ⟨hx, hb, hml, hown, hts⟩ hK hV (c_X2_init l D dA sp) ⟨va_cnB 0 hts gX4_init_X2_init_n37 rfl rfl rfl hK.2.2.2.2.1 (hts (.initialized RX2) (by decide +kernel)) (by decide +kernel) (mm_levR hR (by omega) (by decide)), rfl, hts (.instanceMethod yX2_init) (by decide +kernel)⟩ rfl hl.1 rfl (Nat.le_of_ble_eq_true rfl) dX4_init_128 (by rw [hR]; exact ⟨by show 110 + 3 * i + 1 + 1 + 1 + 0 ≤ 125; omega, by show 841 + 79 * i + 2 + 72 + 5 + 0 ≤ 1236; omega⟩) (fun L9 M9 H locs hp hV => ?_)
              rw [hp.1, hp.2] at hV
              refine mm_aastN (j := i) (ci := 2) (r := (RX2, TX2, 5)) hx hb hK hV 4 i_spa m_spa rfl i_sp m_sp rfl hx1 (by omega) (by decide) dX4_init_131 (fun M_31 H locs eM_31 hV => ?_)
              have m_o : M_31 o = _ := (congrFun eM_31 o).trans ((va_up_ne _ _ n_o_spa).trans m_o)
              have m_ru : M_31 ru = _ := (congrFun eM_31 ru).trans ((va_up_ne _ _ n_ru_spa).trans m_ru)
              have m_nr : M_31 nr = _ := (congrFun eM_31 nr).trans ((va_up_ne _ _ n_nr_spa).trans m_nr)
              have m_bh : M_31 bh = _ := (congrFun eM_31 bh).trans ((va_up_ne _ _ n_bh_spa).trans m_bh)
              have m_la : M_31 la = _ := (congrFun eM_31 la).trans ((va_up_ne _ _ n_la_spa).trans m_la)
              have m_t : M_31 t = _ := (congrFun eM_31 t).trans ((va_up_ne _ _ n_t_spa).trans m_t)
              have m_pk : M_31 pk = _ := (congrFun eM_31 pk).trans ((va_up_ne _ _ n_pk_spa).trans m_pk)
              have m_af : M_31 af = _ := (congrFun eM_31 af).trans ((va_up_ne _ _ n_af_spa).trans m_af)
              have m_lsa : M_31 lsa = _ := (congrFun eM_31 lsa).trans ((va_up_ne _ _ n_lsa_spa).trans m_lsa)
              have m_ll : M_31 ll = _ := (congrFun eM_31 ll).trans ((va_up_ne _ _ (Ne.symm n_spa_ll)).trans m_ll)
              have m_lk : M_31 lk = _ := (congrFun eM_31 lk).trans ((va_up_ne _ _ (Ne.symm n_spa_lk)).trans m_lk)
              have m_sp : M_31 sp = _ := (congrFun eM_31 sp).trans ((va_up_ne _ _ (Ne.symm n_spa_sp)).trans m_sp)
              have m_spa : M_31 spa = .inl (dA 4, 5, .inr (.inr (.inr (.inr (va_up (gM N2 2 i) i (some sp)))))) := by rw [eM_31]; exact va_up_self _ _ _
              have fE : ∀ q : Nat, q ∈ L → q ≠ o → M_31 q = M q := fun q h0 h1 => (congrFun eM_31 q).trans ((va_up_ne _ _ (fun h => o_spa (by rw [← h]; exact h0))).trans (fE q h0 h1))
              have hPc : ∀ j, j < 3 * i → M_31 (N2.getD j 0) = cN dA N2 j := fun j hj => (congrFun eM_31 _).trans ((va_up_ne _ _ (fun h => hPo j hj (by rw [h]; exact k_spa))).trans (hPc j hj))
              have hNc : ∀ j, j < 101 → M_31 (N1.getD j 0) = oP (0, 0, 0, 0, 0) := fun j hj => (congrFun eM_31 _).trans ((va_up_ne _ _ (fun h => hNo j hj (by rw [h]; exact j_spa))).trans (hNc j hj))
              obtain ⟨x1_n, ex1_n⟩ : ∃ y : Int32, y = x1 + 1 := ⟨_, rfl⟩
              refine lv_iinc (v := x1_n) (lv' := [(1, .int x1_n), (0, .ref o)]) hx hb dX4_init_132 hl (k := 1) rfl (by rw [ex1_n]; rfl) (by decide) rfl (fun ls hl => ?_)
              refine lv_goto (tgt := 101) hx hb dX4_init_135 (by decide) ?_
              refine W.cs (show _ = 110 + 3 * (i + 1) by omega) (show _ = 841 + 79 * (i + 1) by omega) ?_
              have g0 : (N2 ++ [ll, lk, sp]).getD (3 * i + 0) 0 = ll := gd_r (A := N2) (B := [ll, lk, sp]) (k := 0) hN2
              have g1 : (N2 ++ [ll, lk, sp]).getD (3 * i + 1) 0 = lk := gd_r (A := N2) (B := [ll, lk, sp]) (k := 1) hN2
              have g2 : (N2 ++ [ll, lk, sp]).getD (3 * i + 2) 0 = sp := gd_r (A := N2) (B := [ll, lk, sp]) (k := 2) hN2
              have eAll : L_29 = Ld ++ [ll, lk, sp] := by rw [eL_sp, eL_lk, eL_ll]; simp only [List.append_assoc, List.cons_append, List.nil_append]
              exact ih2 (i + 1) x1_n (N2 ++ [ll, lk, sp]) L_29 M_31 _ _ ls (by omega) (by rw [ex1_n, hx1]; exact nI_1 i) (by rw [List.length_append, hN2]; rfl) (by rw [eAll, hLd]; simp only [List.append_assoc]) hV m_o m_ru m_nr m_bh m_la m_t m_pk m_af (by rw [m_lsa, gM_s hN2 g0 (by decide)]) (by rw [m_spa, gM_s hN2 g2 (by decide)]) (n3_in hN2 g0 g1 g2 (fun j hj => by rw [eAll]; exact List.mem_append_left _ (hPi j hj)) (by rw [eAll]; simp) (by rw [eAll]; simp) (by rw [eAll]; simp)) (n3_in (S := fun x => x ∉ Lc) hN2 g0 g1 g2 hPo c_ll c_lk c_sp) (n3_c hN2 g0 g1 g2 hPc m_ll m_lk m_sp) hNc fE (lv_sub hl [1, 0] rfl)
        exact LQ 5 0 y1 [] Lc M1 H locs ls rfl (by rw [ey1]; rfl) rfl (List.append_nil Lc).symm hV m_o m_ru m_nr m_bh m_la m_t m_pk m_af m_lsa m_spa (fun j hj => absurd hj (Nat.not_lt_zero j)) (fun j hj => absurd hj (Nat.not_lt_zero j)) (fun j hj => absurd hj (Nat.not_lt_zero j)) hNc fE (lv_sub hl [1, 0] rfl)
      · exact absurd (by rw [hx1]; exact nI_lt (a := 100) (by omega) (by omega)) c77
    | succ k ih =>
      intro i x1 N1 Lc M1 H locs ls hik hx1 hN1 hLc hin2 hV m_o m_ru m_nr m_bh m_la m_t m_pk m_af m_lsa m_spa hNi hNo hNc fE hl
      have j_o := i_o
      have j_ru := i_ru
      have j_nr := i_nr
      have j_bh := i_bh
      have j_la := i_la
      have j_t := i_t
      have j_pk := i_pk
      have j_af := i_af
      have j_lsa := i_lsa
      have j_spa := i_spa
      have i_o := hin2 _ i_o
      have i_ru := hin2 _ i_ru
      have i_nr := hin2 _ i_nr
      have i_bh := hin2 _ i_bh
      have i_la := hin2 _ i_la
      have i_t := hin2 _ i_t
      have i_pk := hin2 _ i_pk
      have i_af := hin2 _ i_af
      have i_lsa := hin2 _ i_lsa
      have i_spa := hin2 _ i_spa
      have hsub : ∀ x, x ∈ L → x ∈ Lc := fun x h => hin2 x (hsub x h)
      refine lv_iload_n hx hb dX4_init_74 rfl (lv_at hl 1 rfl) ?_
      refine lv_bipush (v := 100) hx hb dX4_init_75 (by decide) ?_
      refine lv_icmp_gt (tgt := 99) hx hb dX4_init_77 (by decide) (fun c77 => ?_) (fun c77 => ?_)
      · exact absurd c77 (by rw [hx1]; exact nI_nlt (b := i) (a := 100) (by omega) (by decide))
      · refine lv_aload_n hx hb dX4_init_80 rfl (lv_at hl 0 rfl) ?_
        refine mm_get (ci := 4) (C := RX4) (T := TX4) (N := 8) hx hb hts in_X4 hown hK hV i_o m_o rfl 2 (by decide) f_22 (fun _ h => h) rfl dX4_init_81 ?_
        refine lv_iload_n hx hb dX4_init_84 rfl (lv_at hl 1 rfl) ?_
        refine mm_new (ci := 2) (fs := [.int 0, .int 0, .int 0, .int 0, .int 0]) (C := RX2) (T := TX2) (N := 5) hx hb hts in_X2 tyX2 tyX2_ok hown (hts (.classLink RX4 20 RX2) (by decide +kernel)) (hts (.instantiable RX2 5) (by decide +kernel)) (hts (.initialized RX2) (by decide +kernel)) hK hV rfl (fun j hj => by rcases (show j = 0 ∨ j = 1 ∨ j = 2 ∨ j = 3 ∨ j = 4 by omega) with rfl | rfl | rfl | rfl | rfl <;> rfl) (by rw [hR]; show 9 + i + 1 ≤ 125; omega) (by rw [hR]; show 336 + 5 * i + 5 ≤ 1236; omega) dX4_init_85 (fun q H hq_q hV => ?_)
        obtain ⟨L_32, eL_32⟩ : ∃ z, z = Lc ++ [q] := ⟨_, rfl⟩
        obtain ⟨M_33, eM_33⟩ : ∃ z, z = va_up M1 q (.inr (2, [.int 0, .int 0, .int 0, .int 0, .int 0])) := ⟨_, rfl⟩
        rw [← eL_32, ← eM_33] at hV
        have n_o_q : o ≠ q := fun h => hq_q (by rw [← h]; exact i_o)
        have m_o : M_33 o = _ := (congrFun eM_33 o).trans ((va_up_ne _ _ n_o_q).trans m_o)
        have i_o : o ∈ L_32 := by rw [eL_32]; exact List.mem_append_left _ i_o
        have n_ru_q : ru ≠ q := fun h => hq_q (by rw [← h]; exact i_ru)
        have m_ru : M_33 ru = _ := (congrFun eM_33 ru).trans ((va_up_ne _ _ n_ru_q).trans m_ru)
        have i_ru : ru ∈ L_32 := by rw [eL_32]; exact List.mem_append_left _ i_ru
        have n_nr_q : nr ≠ q := fun h => hq_q (by rw [← h]; exact i_nr)
        have m_nr : M_33 nr = _ := (congrFun eM_33 nr).trans ((va_up_ne _ _ n_nr_q).trans m_nr)
        have i_nr : nr ∈ L_32 := by rw [eL_32]; exact List.mem_append_left _ i_nr
        have n_bh_q : bh ≠ q := fun h => hq_q (by rw [← h]; exact i_bh)
        have m_bh : M_33 bh = _ := (congrFun eM_33 bh).trans ((va_up_ne _ _ n_bh_q).trans m_bh)
        have i_bh : bh ∈ L_32 := by rw [eL_32]; exact List.mem_append_left _ i_bh
        have n_la_q : la ≠ q := fun h => hq_q (by rw [← h]; exact i_la)
        have m_la : M_33 la = _ := (congrFun eM_33 la).trans ((va_up_ne _ _ n_la_q).trans m_la)
        have i_la : la ∈ L_32 := by rw [eL_32]; exact List.mem_append_left _ i_la
        have n_t_q : t ≠ q := fun h => hq_q (by rw [← h]; exact i_t)
        have m_t : M_33 t = _ := (congrFun eM_33 t).trans ((va_up_ne _ _ n_t_q).trans m_t)
        have i_t : t ∈ L_32 := by rw [eL_32]; exact List.mem_append_left _ i_t
        have n_pk_q : pk ≠ q := fun h => hq_q (by rw [← h]; exact i_pk)
        have m_pk : M_33 pk = _ := (congrFun eM_33 pk).trans ((va_up_ne _ _ n_pk_q).trans m_pk)
        have i_pk : pk ∈ L_32 := by rw [eL_32]; exact List.mem_append_left _ i_pk
        have n_af_q : af ≠ q := fun h => hq_q (by rw [← h]; exact i_af)
        have m_af : M_33 af = _ := (congrFun eM_33 af).trans ((va_up_ne _ _ n_af_q).trans m_af)
        have i_af : af ∈ L_32 := by rw [eL_32]; exact List.mem_append_left _ i_af
        have n_lsa_q : lsa ≠ q := fun h => hq_q (by rw [← h]; exact i_lsa)
        have m_lsa : M_33 lsa = _ := (congrFun eM_33 lsa).trans ((va_up_ne _ _ n_lsa_q).trans m_lsa)
        have i_lsa : lsa ∈ L_32 := by rw [eL_32]; exact List.mem_append_left _ i_lsa
        have n_spa_q : spa ≠ q := fun h => hq_q (by rw [← h]; exact i_spa)
        have m_spa : M_33 spa = _ := (congrFun eM_33 spa).trans ((va_up_ne _ _ n_spa_q).trans m_spa)
        have i_spa : spa ∈ L_32 := by rw [eL_32]; exact List.mem_append_left _ i_spa
        have o_q : q ∉ L := fun h => hq_q (hsub q h)
        have hsub : ∀ x, x ∈ L → x ∈ L_32 := fun x h => by rw [eL_32]; exact List.mem_append_left _ (hsub x h)
        have hNc : ∀ j, j < i → M_33 (N1.getD j 0) = oP (0, 0, 0, 0, 0) := fun j hj => (congrFun eM_33 _).trans ((va_up_ne _ _ (fun h => hq_q (by rw [← h]; exact hNi j hj))).trans (hNc j hj))
        have eLq := eL_32
        have i_q : q ∈ L_32 := by rw [eL_32]; exact List.mem_append_right _ (List.mem_singleton.mpr rfl)
        have m_q : M_33 q = .inr (2, [.int 0, .int 0, .int 0, .int 0, .int 0]) := by rw [eM_33]; exact va_up_self _ _ _
        have fE : ∀ q : Nat, q ∈ L → q ≠ o → M_33 q = M q := fun q h0 h1 => (congrFun eM_33 q).trans ((va_up_ne _ _ (fun h => o_q (by rw [← h]; exact h0))).trans (fE q h0 h1))
        refine lv_dup hx hb dX4_init_88 rfl ?_
        refine mm_INv (mc := 0) (ms := 0) (host := RX4) (As := []) (rest := [.ref q, .int x1, .ref la]) ⟨hx, hb, hml, hown, hts⟩ hK hV (c_X2_init l D dA q) ⟨va_cnB 0 hts gX4_init_X2_init_n37 rfl rfl rfl hK.2.2.2.2.1 (hts (.initialized RX2) (by decide +kernel)) (by decide +kernel) (mm_levR hR (by omega) (by decide)), rfl, hts (.instanceMethod yX2_init) (by decide +kernel)⟩ rfl hl.1 rfl (Nat.le_of_ble_eq_true rfl) dX4_init_89 (by rw [hR]; exact ⟨by show 9 + i + 1 + 0 ≤ 125; omega, by show 336 + 5 * i + 5 + 0 ≤ 1236; omega⟩) (fun L9 M9 H locs hp hV => ?_)
        rw [hp.1, hp.2] at hV
        refine mm_aastN (j := i) (ci := 2) (r := (RX2, TX2, 5)) hx hb hK hV 4 i_la m_la rfl i_q m_q rfl hx1 (by omega) (by decide) dX4_init_92 (fun M_34 H locs eM_34 hV => ?_)
        have m_o : M_34 o = _ := (congrFun eM_34 o).trans ((va_up_ne _ _ n_o_la).trans m_o)
        have m_ru : M_34 ru = _ := (congrFun eM_34 ru).trans ((va_up_ne _ _ n_ru_la).trans m_ru)
        have m_nr : M_34 nr = _ := (congrFun eM_34 nr).trans ((va_up_ne _ _ n_nr_la).trans m_nr)
        have m_bh : M_34 bh = _ := (congrFun eM_34 bh).trans ((va_up_ne _ _ n_bh_la).trans m_bh)
        have m_t : M_34 t = _ := (congrFun eM_34 t).trans ((va_up_ne _ _ (Ne.symm n_la_t)).trans m_t)
        have m_pk : M_34 pk = _ := (congrFun eM_34 pk).trans ((va_up_ne _ _ (Ne.symm n_la_pk)).trans m_pk)
        have m_af : M_34 af = _ := (congrFun eM_34 af).trans ((va_up_ne _ _ (Ne.symm n_la_af)).trans m_af)
        have m_lsa : M_34 lsa = _ := (congrFun eM_34 lsa).trans ((va_up_ne _ _ (Ne.symm n_la_lsa)).trans m_lsa)
        have m_spa : M_34 spa = _ := (congrFun eM_34 spa).trans ((va_up_ne _ _ (Ne.symm n_la_spa)).trans m_spa)
        have m_q : M_34 q = _ := (congrFun eM_34 q).trans ((va_up_ne _ _ (Ne.symm n_la_q)).trans m_q)
        have m_la : M_34 la = .inl (dA 4, 101, .inr (.inr (.inr (.inr (va_up (gN N1 i) i (some q)))))) := by rw [eM_34]; exact va_up_self _ _ _
        have fE : ∀ q : Nat, q ∈ L → q ≠ o → M_34 q = M q := fun q h0 h1 => (congrFun eM_34 q).trans ((va_up_ne _ _ (fun h => o_la (by rw [← h]; exact h0))).trans (fE q h0 h1))
        have hNc : ∀ j, j < i → M_34 (N1.getD j 0) = oP (0, 0, 0, 0, 0) := fun j hj => (congrFun eM_34 _).trans ((va_up_ne _ _ (fun h => hNo j hj (by rw [h]; exact j_la))).trans (hNc j hj))
        obtain ⟨x1_n, ex1_n⟩ : ∃ y : Int32, y = x1 + 1 := ⟨_, rfl⟩
        refine lv_iinc (v := x1_n) (lv' := [(1, .int x1_n), (0, .ref o)]) hx hb dX4_init_93 hl (k := 1) rfl (by rw [ex1_n]; rfl) (by decide) rfl (fun ls hl => ?_)
        refine lv_goto (tgt := 74) hx hb dX4_init_96 (by decide) ?_
        refine W.cs (show _ = 9 + (i + 1) by omega) (show _ = 336 + 5 * (i + 1) by omega) ?_
        exact ih (i + 1) x1_n (N1 ++ [q]) L_32 M_34 _ _ ls (by omega) (by rw [ex1_n, hx1]; exact nI_1 i) (by rw [List.length_append, hN1]; rfl) (by rw [eLq, hLc]; simp only [List.append_assoc]) (fun x h => by rw [eLq]; exact List.mem_append_left _ (hin2 x h)) hV m_o m_ru m_nr m_bh (by rw [m_la, gN_s hN1]) m_t m_pk m_af m_lsa m_spa (fun j hj => by rw [eLq]; by_cases h : j < i; rw [gd_l (by omega)]; exact List.mem_append_left _ (hNi j h); rw [show j = i by omega, gd_n hN1]; exact List.mem_append_right _ (List.mem_singleton.mpr rfl)) (fun j hj => by by_cases h : j < i; rw [gd_l (by omega)]; exact hNo j h; rw [show j = i by omega, gd_n hN1]; exact fun h2 => hq_q (hin2 _ h2)) (fun j hj => by by_cases h : j < i; rw [gd_l (by omega)]; exact hNc j h; rw [show j = i by omega, gd_n hN1]; exact m_q) fE (lv_sub hl [1, 0] rfl)
  refine W.cs (show _ = 9 + 0 by omega) (show _ = 336 + 5 * 0 by omega) ?_
  exact LP 101 0 x1 [] L_20 M_22 H locs ls rfl (by rw [ex1]; rfl) rfl hLc (fun _ h => h) hV m_o m_ru m_nr m_bh m_la m_t m_pk m_af m_lsa m_spa (fun j hj => absurd hj (Nat.not_lt_zero j)) (fun j hj => absurd hj (Nat.not_lt_zero j)) (fun j hj => absurd hj (Nat.not_lt_zero j)) fE (lv_sub hl [1, 0] rfl)
