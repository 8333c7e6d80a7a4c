/-! jumps: a walk through the tree of leaps; none stands for a stack of eight or a list of eighty that is passed -/
def EqL (S T : Nat → Nat → Int32) : Prop := ∀ k, k ≠ 9 → k ≠ 10 → k ≠ 11 → k ≠ 12 → S k = T k
def noteO (p : Nat) (S : Nat → Nat → Int32) (v : Int32) : Option (Nat → Nat → Int32) := if S 3 p = nI (cntR S p) ∧ cntR S p < 80 then some (noteR S p (cntR S p) v) else none
def dfL (p f : Nat) (pc : Int32) (rc : Nat → Int32 → (Nat → Nat → Int32) → Option (Nat → Nat → Int32)) (u : Nat) (T : Int32) : Nat → Nat → Bool → (Nat → Nat → Int32) → Option ((Nat → Nat → Int32) × Bool)
  | 0, _, c, S => some (S, c)
  | m + 1, w, c, S => if goesR pc (nI w) = 0 then dfL p f pc rc u T m (w + 1) c S else if leapR S p (nI f) u w T = 0 then dfL p f pc rc u T m (w + 1) c S else
    if kingR pc = 0 ∧ rowR (farR (4 * u + w)) = crownR (sideR pc) then (noteO p S (keyR (nI f) (farR (4 * u + w)) (T + ((1 : Int32) <<< (nearR (4 * u + w) &&& 31))))).bind (dfL p f pc rc u T m (w + 1) true)
    else (rc (frN (4 * u + w)) (T + ((1 : Int32) <<< (nearR (4 * u + w) &&& 31))) S).bind (dfL p f pc rc u T m (w + 1) true)
def dfE (p f u : Nat) (T : Int32) (root : Bool) (r : (Nat → Nat → Int32) × Bool) : Option (Nat → Nat → Int32) := if root = true then some r.1 else if r.2 = true then some r.1 else noteO p r.1 (keyR (nI f) (nI u) T)
def dfN (p f : Nat) (pc : Int32) : Nat → Bool → Nat → Int32 → (Nat → Nat → Int32) → Option (Nat → Nat → Int32)
  | 0, _, _, _, _ => none
  | k + 1, root, u, T, S => (dfL p f pc (dfN p f pc k false) u T 4 0 false S).bind (dfE p f u T root)
def jmpR (p f : Nat) (S : Nat → Nat → Int32) : Option (Nat → Nat → Int32) := dfN p f (S 0 (18 * p + f)) 8 true f 0 S
theorem EqL.up {S T : Nat → Nat → Int32} {k : Nat} {x : Nat → Int32} (h : EqL S T) (hk : k = 9 ∨ k = 10 ∨ k = 11 ∨ k = 12) : EqL (va_up S k x) T := fun j a b c d => by rw [va_up_ne _ _ (by omega)]; exact h j a b c d
theorem EqL.note {S T : Nat → Nat → Int32} {p n : Nat} {v : Int32} (h : EqL S T) : EqL (noteR S p n v) (noteR T p n v) := by
  intro j a b c d
  unfold noteR
  rw [h 2 (by decide) (by decide) (by decide) (by decide), h 3 (by decide) (by decide) (by decide) (by decide)]
  split
  · exact h j a b c d
  · by_cases h3 : j = 3
    · subst h3; rw [va_up_self, va_up_self]
    · rw [va_up_ne _ _ h3, va_up_ne _ _ h3]
      by_cases h2 : j = 2
      · subst h2; rw [va_up_self, va_up_self]
      · rw [va_up_ne _ _ h2, va_up_ne _ _ h2]; exact h j a b c d
theorem EqL.leap {S T : Nat → Nat → Int32} {p u w : Nat} {fm t : Int32} (h : EqL S T) : leapR S p fm u w t = leapR T p fm u w t := by
  unfold leapR
  rw [h 0 (by decide) (by decide) (by decide) (by decide), h 1 (by decide) (by decide) (by decide) (by decide)]
theorem noteO_some {p : Nat} {S R : Nat → Nat → Int32} {v : Int32} (h : noteO p S v = some R) : ∃ n, S 3 p = nI n ∧ n < 80 ∧ R = noteR S p n v := by
  unfold noteO at h
  by_cases hc : S 3 p = nI (cntR S p) ∧ cntR S p < 80
  · rw [if_pos hc] at h; exact ⟨_, hc.1, hc.2, (Option.some.inj h).symm⟩
  · rw [if_neg hc] at h; cases h

theorem ob_bind {α β γ : Type} {x : Option α} {f : α → Option β} {h : β → Option γ} {r : γ} (e : (x.bind f).bind h = some r) : ∃ q, x = some q ∧ (f q).bind h = some r := by
  cases x with
  | none => cases e
  | some q => exact ⟨q, rfl, e⟩
theorem ol_tr {A B C : Nat → Nat → Int32} {n m : Nat} (h1 : ∀ i, i < m → A 9 i = B 9 i ∧ A 10 i = B 10 i ∧ A 11 i = B 11 i ∧ A 12 i = B 12 i) (h2 : ∀ i, i < n → B 9 i = C 9 i ∧ B 10 i = C 10 i ∧ B 11 i = C 11 i ∧ B 12 i = C 12 i) (hnm : n ≤ m := by omega) : ∀ i, i < n → A 9 i = C 9 i ∧ A 10 i = C 10 i ∧ A 11 i = C 11 i ∧ A 12 i = C 12 i :=
  fun i hi => ⟨(h1 i (by omega)).1.trans (h2 i hi).1, (h1 i (by omega)).2.1.trans (h2 i hi).2.1, (h1 i (by omega)).2.2.1.trans (h2 i hi).2.2.1, (h1 i (by omega)).2.2.2.trans (h2 i hi).2.2.2⟩
theorem noteO_ne {p : Nat} {S R : Nat → Nat → Int32} {v : Int32} (h : noteO p S v = some R) (k : Nat) (h2 : k ≠ 2) (h3 : k ≠ 3) : R k = S k := by
  obtain ⟨n, -, -, e⟩ := noteO_some h
  rw [e]; exact noteR_ne h2 h3
theorem dfL_ne {p f : Nat} {pc : Int32} {rc : Nat → Int32 → (Nat → Nat → Int32) → Option (Nat → Nat → Int32)} {u : Nat} {T : Int32} (k : Nat) (h2 : k ≠ 2) (h3 : k ≠ 3) (hrc : ∀ u T S R, rc u T S = some R → R k = S k) : ∀ (m w : Nat) (c : Bool) (S : Nat → Nat → Int32) (r : (Nat → Nat → Int32) × Bool), dfL p f pc rc u T m w c S = some r → r.1 k = S k
  | 0, w, c, S, r, h => by rw [dfL] at h; rw [← Option.some.inj h]
  | m + 1, w, c, S, r, h => by
    rw [dfL] at h
    split at h
    · exact dfL_ne k h2 h3 hrc m _ _ _ _ h
    · split at h
      · exact dfL_ne k h2 h3 hrc m _ _ _ _ h
      · split at h
        · obtain ⟨q, h4, h5⟩ := Option.bind_eq_some_iff.mp h
          exact (dfL_ne k h2 h3 hrc m _ _ _ _ h5).trans (noteO_ne h4 k h2 h3)
        · obtain ⟨q, h4, h5⟩ := Option.bind_eq_some_iff.mp h
          exact (dfL_ne k h2 h3 hrc m _ _ _ _ h5).trans (hrc _ _ _ _ h4)
theorem dfE_ne {p f u : Nat} {T : Int32} {root : Bool} {r : (Nat → Nat → Int32) × Bool} {R : Nat → Nat → Int32} (h : dfE p f u T root r = some R) (k : Nat) (h2 : k ≠ 2) (h3 : k ≠ 3) : R k = r.1 k := by
  unfold dfE at h
  split at h
  · rw [← Option.some.inj h]
  · split at h
    · rw [← Option.some.inj h]
    · exact noteO_ne h k h2 h3
theorem dfN_ne {p f : Nat} {pc : Int32} {d : Nat} {root : Bool} {u : Nat} {T : Int32} {S R : Nat → Nat → Int32} (h : dfN p f pc d root u T S = some R) (k : Nat) (h2 : k ≠ 2) (h3 : k ≠ 3) : R k = S k := by
  induction d generalizing root u T S R with
  | zero => rw [dfN] at h; cases h
  | succ d ih =>
    rw [dfN] at h
    obtain ⟨q, h4, h5⟩ := Option.bind_eq_some_iff.mp h
    exact (dfE_ne h5 k h2 h3).trans (dfL_ne k h2 h3 (fun u T S R e => ih e) _ _ _ _ _ h4)

set_option maxHeartbeats 1000000 in
set_option maxRecDepth 100000 in
theorem c_jumpsR (l : Launch) (D : va_G) (dA : Nat → ClassId) {L : List Nat} {M : mm_M} {ob : Nat} {ad : Nat → Nat} {S : Nat → Nat → Int32} {pl qu so : Int32} {p0 f0 : Nat} {RS : Nat → Nat → Int32} (x1 x2 : Int32) (i_ob : ob ∈ L) (m_ob : M ob = rO ad pl qu so) (hA : rA dA L M ad S) (h7 : S 7 = nearR) (h8 : S 8 = farR) (hp : x1 = nI p0) (hp6 : p0 < 6) (hf : x2 = nI f0) (hf18 : f0 < 18) (hjm : jmpR p0 f0 S = some RS) : mm_Cm l D dA yX5_jumps wsX5_jumps 2 [.ref ob, .int x1, .int x2] L M (fun M1 => ∃ S1, EqL S1 RS ∧ rA dA L M1 ad S1 ∧ M1 ob = rO ad pl qu so ∧ rF L ad ob M M1) := by
  have hA0 := hA
  have m_ob0 := m_ob
  have fR : rF L ad ob M M := rF.rf
  refine mm_enter_v (cc := cX5_jumps) (maxL := 9) (by decide) rfl (Nat.le_of_ble_eq_true rfl) ?_
  intro p e R s m args below meth c A ls H locs Q hR hx hb hml hin hown hts hK hV hl hret
  have hl : lv_has ls 9 [(0, .ref ob), (1, .int x1), (2, .int x2)] := hl
  have hown : s.vm.findClass RX5 = some m.cls := hown
  have f_7 := hts (.fieldLink RX5 7 "JumpBoardModel" "board" "[I") (by decide +kernel)
  have in_X5 : ∀ w ∈ wsX50, w ∈ wsX5_jumps := by decide +kernel
  have f_37 := hts (.fieldLink RX5 37 "JumpBoardModel" "stand" "[I") (by decide +kernel)
  have f_40 := hts (.fieldLink RX5 40 "JumpBoardModel" "gone" "[I") (by decide +kernel)
  have f_43 := hts (.fieldLink RX5 43 "JumpBoardModel" "way" "[I") (by decide +kernel)
  have f_46 := hts (.fieldLink RX5 46 "JumpBoardModel" "could" "[Z") (by decide +kernel)
  have f_31 := hts (.fieldLink RX5 31 "JumpBoardModel" "near" "[I") (by decide +kernel)
  have f_34 := hts (.fieldLink RX5 34 "JumpBoardModel" "far" "[I") (by decide +kernel)
  refine lv_aload_n hx hb dX5_jumps_0 rfl (lv_at hl 0 rfl) ?_
  refine mm_get (ci := 5) (C := RX5) (T := TX5) (N := 20) hx hb hts in_X5 hown hK hV i_ob m_ob rfl 0 (by decide) f_7 (fun _ h => h) rfl dX5_jumps_1 ?_
  refine lv_bipush (v := 18) hx hb dX5_jumps_4 (by decide) ?_
  refine lv_iload_n hx hb dX5_jumps_6 rfl (lv_at hl 1 rfl) ?_
  refine lv_imul hx hb dX5_jumps_7 ?_
  refine lv_iload_n hx hb dX5_jumps_8 rfl (lv_at hl 2 rfl) ?_
  refine lv_iadd hx hb dX5_jumps_9 ?_
  refine mm_ialdN (j := (18 * p0 + f0)) hx hb hK hV (hA.i 0 rfl) (show M (ad 0) = .inl (dA 0, 108, .inl (S 0)) from hA.m 0 rfl) (ixR (c := 18) rfl hp hf) (by omega) (by decide) dX5_jumps_10 ?_
  refine lv_topi (fun x3 ex3 => ?_)
  refine lv_istore_n (lv' := [(3, .int x3), (0, .ref ob), (1, .int x1), (2, .int x2)]) hx hb dX5_jumps_11 rfl hl (by decide) rfl (fun ls hl => ?_)
  refine lv_iconst (v := 0) hx hb dX5_jumps_12 (by decide) ?_
  refine lv_topi (fun x4 ex4 => ?_)
  refine lv_istore (lv' := [(4, .int x4), (3, .int x3), (0, .ref ob), (1, .int x1), (2, .int x2)]) hx hb dX5_jumps_13 hl (by decide) rfl (fun ls hl => ?_)
  refine lv_aload_n hx hb dX5_jumps_15 rfl (lv_at hl 2 rfl) ?_
  refine mm_get (ci := 5) (C := RX5) (T := TX5) (N := 20) hx hb hts in_X5 hown hK hV i_ob m_ob rfl 9 (by decide) f_37 (fun _ h => h) rfl dX5_jumps_16 ?_
  refine lv_iconst (v := 0) hx hb dX5_jumps_19 (by decide) ?_
  refine lv_iload_n hx hb dX5_jumps_20 rfl (lv_at hl 4 rfl) ?_
  refine mm_iastN (j := 0) (x := x2) hx hb hK hV (hA.i 9 rfl) (show M (ad 9) = .inl (dA 0, 8, .inl (S 9)) from hA.m 9 rfl) rfl (by decide) (by decide) dX5_jumps_21 (fun M_1 H locs eM_1 hV => ?_)
  obtain ⟨S1a, eS1a⟩ : ∃ z, z = va_up S 9 (upd (S 9) 0 x2) := ⟨_, rfl⟩
  have hA : rA dA L M_1 ad S1a := by rw [eS1a]; exact hA.up 9 rfl eM_1
  have m_ob : M_1 ob = rO ad pl qu so := (congrFun eM_1 ob).trans ((va_up_ne _ _ (fun h => hA0.nob 9 rfl m_ob0 h)).trans m_ob)
  have fR : rF L ad ob M M_1 := fR.up 9 rfl eM_1
  refine lv_aload_n hx hb dX5_jumps_22 rfl (lv_at hl 2 rfl) ?_
  refine mm_get (ci := 5) (C := RX5) (T := TX5) (N := 20) hx hb hts in_X5 hown hK hV i_ob m_ob rfl 10 (by decide) f_40 (fun _ h => h) rfl dX5_jumps_23 ?_
  refine lv_iconst (v := 0) hx hb dX5_jumps_26 (by decide) ?_
  refine lv_iconst (v := 0) hx hb dX5_jumps_27 (by decide) ?_
  refine mm_iastN (j := 0) (x := 0) hx hb hK hV (hA.i 10 rfl) (show M_1 (ad 10) = .inl (dA 0, 8, .inl (S1a 10)) from hA.m 10 rfl) rfl (by decide) (by decide) dX5_jumps_28 (fun M_2 H locs eM_2 hV => ?_)
  obtain ⟨S2, eS2⟩ : ∃ z, z = va_up S1a 10 (upd (S1a 10) 0 0) := ⟨_, rfl⟩
  have hA : rA dA L M_2 ad S2 := by rw [eS2]; exact hA.up 10 rfl eM_2
  have m_ob : M_2 ob = rO ad pl qu so := (congrFun eM_2 ob).trans ((va_up_ne _ _ (fun h => hA0.nob 10 rfl m_ob0 h)).trans m_ob)
  have fR : rF L ad ob M M_2 := fR.up 10 rfl eM_2
  refine lv_aload_n hx hb dX5_jumps_29 rfl (lv_at hl 2 rfl) ?_
  refine mm_get (ci := 5) (C := RX5) (T := TX5) (N := 20) hx hb hts in_X5 hown hK hV i_ob m_ob rfl 11 (by decide) f_43 (fun _ h => h) rfl dX5_jumps_30 ?_
  refine lv_iconst (v := 0) hx hb dX5_jumps_33 (by decide) ?_
  refine lv_iconst (v := 0) hx hb dX5_jumps_34 (by decide) ?_
  refine mm_iastN (j := 0) (x := 0) hx hb hK hV (hA.i 11 rfl) (show M_2 (ad 11) = .inl (dA 0, 8, .inl (S2 11)) from hA.m 11 rfl) rfl (by decide) (by decide) dX5_jumps_35 (fun M_3 H locs eM_3 hV => ?_)
  obtain ⟨S3, eS3⟩ : ∃ z, z = va_up S2 11 (upd (S2 11) 0 0) := ⟨_, rfl⟩
  have hA : rA dA L M_3 ad S3 := by rw [eS3]; exact hA.up 11 rfl eM_3
  have m_ob : M_3 ob = rO ad pl qu so := (congrFun eM_3 ob).trans ((va_up_ne _ _ (fun h => hA0.nob 11 rfl m_ob0 h)).trans m_ob)
  have fR : rF L ad ob M M_3 := fR.up 11 rfl eM_3
  refine lv_aload_n hx hb dX5_jumps_36 rfl (lv_at hl 2 rfl) ?_
  refine mm_get (ci := 5) (C := RX5) (T := TX5) (N := 20) hx hb hts in_X5 hown hK hV i_ob m_ob rfl 12 (by decide) f_46 (fun _ h => h) rfl dX5_jumps_37 ?_
  refine lv_iconst (v := 0) hx hb dX5_jumps_40 (by decide) ?_
  refine lv_iconst (v := 0) hx hb dX5_jumps_41 (by decide) ?_
  refine mm_zastN (j := 0) (x := 0) hx hb hK hV (hA.i 12 rfl) (show M_3 (ad 12) = .inl (dA 3, 8, .inl (S3 12)) from hA.m 12 rfl) rfl (by decide) (by decide) dX5_jumps_42 (fun M_4 H locs eM_4 hV => ?_)
  obtain ⟨S4, eS4⟩ : ∃ z, z = va_up S3 12 (upd (S3 12) 0 (vp_nar .boolean 0)) := ⟨_, rfl⟩
  have hA : rA dA L M_4 ad S4 := by rw [eS4]; exact hA.up 12 rfl eM_4
  have m_ob : M_4 ob = rO ad pl qu so := (congrFun eM_4 ob).trans ((va_up_ne _ _ (fun h => hA0.nob 12 rfl m_ob0 h)).trans m_ob)
  have fR : rF L ad ob M M_4 := fR.up 12 rfl eM_4
  have ND : ∀ (k mn dp u w : Nat) (T : Int32) (cB : Bool) (Sp RS S1 : Nat → Nat → Int32) (x4 : Int32) (M1 : mm_M) (H : Heap) (locs : List Loc) (ls : Array Slot), dp + (k + 1) = 8 → w + mn = 4 → x4 = nI dp → S1 9 dp = nI u → u < 18 → S1 10 dp = T → S1 11 dp = nI w → S1 12 dp = (if cB = true then 1 else 0) → EqL S1 Sp → Sp 7 = nearR → Sp 8 = farR → (dfL p0 f0 x3 (dfN p0 f0 x3 k false) u T mn w cB Sp).bind (dfE p0 f0 u T (decide (dp = 0))) = some RS → mm_V A D L M1 s H locs → rA dA L M1 ad S1 → M1 ob = rO ad pl qu so → rF L ad ob M M1 → lv_has ls 9 [(0, .ref ob), (1, .int x1), (2, .int x2), (3, .int x3), (4, .int x4)] → (∀ (S2 : Nat → Nat → Int32) (M2 : mm_M) (H : Heap) (locs : List Loc) (ls : Array Slot) (y4 : Int32), y4 = nI dp + (-1) → EqL S2 RS → (∀ i, i < dp → S2 9 i = S1 9 i ∧ S2 10 i = S1 10 i ∧ S2 11 i = S1 11 i ∧ S2 12 i = S1 12 i) → mm_V A D L M2 s H locs → rA dA L M2 ad S2 → M2 ob = rO ad pl qu so → rF L ad ob M M2 → lv_has ls 9 [(0, .ref ob), (1, .int x1), (2, .int x2), (3, .int x3), (4, .int y4)] → W p l e R s m args below meth c H locs 0 0 Q (F0 m 43 ls [])) → W p l e R s m args below meth c H locs 0 0 Q (F0 m 43 ls []) := by
    intro k
    induction k with
    | zero =>
      intro mn
      induction mn with
      | zero =>
        intro dp u w T cB Sp RS S1 x4 M1 H locs ls hdk hwm hx4 hu hu18 hT hw hcd hEq h7 h8 hres hV hA m_ob fR hl kont
        have h71 : S1 7 = nearR := (hEq 7 (by decide) (by decide) (by decide) (by decide)).trans h7
        have h81 : S1 8 = farR := (hEq 8 (by decide) (by decide) (by decide) (by decide)).trans h8
        refine lv_iload hx hb dX5_jumps_43 (lv_at hl 4 rfl) ?_
        refine lv_if_lt (tgt := 284) hx hb dX5_jumps_45 (by decide) (fun c45 => ?_) (fun c45 => ?_)
        · exact absurd c45 (by rw [hx4]; exact nI_pos (by omega))
        · refine lv_aload_n hx hb dX5_jumps_48 rfl (lv_at hl 0 rfl) ?_
          refine mm_get (ci := 5) (C := RX5) (T := TX5) (N := 20) hx hb hts in_X5 hown hK hV i_ob m_ob rfl 11 (by decide) f_43 (fun _ h => h) rfl dX5_jumps_49 ?_
          refine lv_iload hx hb dX5_jumps_52 (lv_at hl 4 rfl) ?_
          refine mm_ialdN (j := dp) hx hb hK hV (hA.i 11 rfl) (show M1 (ad 11) = .inl (dA 0, 8, .inl (S1 11)) from hA.m 11 rfl) hx4 (by omega) (by decide) dX5_jumps_54 ?_
          refine lv_topi (fun x5 ex5 => ?_)
          refine lv_istore (lv' := [(5, .int x5), (0, .ref ob), (1, .int x1), (2, .int x2), (3, .int x3), (4, .int x4)]) hx hb dX5_jumps_55 hl (by decide) rfl (fun ls hl => ?_)
          have hx5 : x5 = nI w := by rw [ex5]; exact hw
          refine lv_aload_n hx hb dX5_jumps_57 rfl (lv_at hl 1 rfl) ?_
          refine mm_get (ci := 5) (C := RX5) (T := TX5) (N := 20) hx hb hts in_X5 hown hK hV i_ob m_ob rfl 11 (by decide) f_43 (fun _ h => h) rfl dX5_jumps_58 ?_
          refine lv_iload hx hb dX5_jumps_61 (lv_at hl 5 rfl) ?_
          refine lv_dup2_11 hx hb dX5_jumps_63 rfl rfl ?_
          refine mm_ialdN (j := dp) hx hb hK hV (hA.i 11 rfl) (show M1 (ad 11) = .inl (dA 0, 8, .inl (S1 11)) from hA.m 11 rfl) hx4 (by omega) (by decide) dX5_jumps_64 ?_
          refine lv_iconst (v := 1) hx hb dX5_jumps_65 (by decide) ?_
          refine lv_iadd hx hb dX5_jumps_66 ?_
          refine lv_topi (fun va eva => ?_)
          refine mm_iastN (j := dp) (x := va) hx hb hK hV (hA.i 11 rfl) (show M1 (ad 11) = .inl (dA 0, 8, .inl (S1 11)) from hA.m 11 rfl) hx4 (by omega) (by decide) dX5_jumps_67 (fun M_5 H locs eM_5 hV => ?_)
          obtain ⟨Sa, eSa⟩ : ∃ z, z = va_up S1 11 (upd (S1 11) dp va) := ⟨_, rfl⟩
          have hA : rA dA L M_5 ad Sa := by rw [eSa]; exact hA.up 11 rfl eM_5
          have m_ob : M_5 ob = rO ad pl qu so := (congrFun eM_5 ob).trans ((va_up_ne _ _ (fun h => hA0.nob 11 rfl m_ob0 h)).trans m_ob)
          have fR : rF L ad ob M M_5 := fR.up 11 rfl eM_5
          have hqE : EqL Sa Sp := by rw [eSa]; exact hEq.up (by omega)
          have hu2 : Sa 9 dp = nI u := by rw [eSa, va_up_ne _ _ (by decide)]; exact hu
          have hT2 : Sa 10 dp = T := by rw [eSa, va_up_ne _ _ (by decide)]; exact hT
          have hc2 : Sa 12 dp = (if cB = true then 1 else 0) := by rw [eSa, va_up_ne _ _ (by decide)]; exact hcd
          have hw2 : Sa 11 dp = nI (w + 1) := by rw [eSa, va_up_self, pk_us, eva, hw]; exact nI_1 w
          have ho2 : (∀ i, i < dp → Sa 9 i = S1 9 i ∧ Sa 10 i = S1 10 i ∧ Sa 11 i = S1 11 i ∧ Sa 12 i = S1 12 i) := fun i hi => by rw [eSa]; exact ⟨by rw [va_up_ne _ _ (by decide)], by rw [va_up_ne _ _ (by decide)], by rw [va_up_self, pk_un (by omega)], by rw [va_up_ne _ _ (by decide)]⟩
          have h72 : Sa 7 = nearR := by rw [eSa, va_up_ne _ _ (by decide)]; exact h71
          have h82 : Sa 8 = farR := by rw [eSa, va_up_ne _ _ (by decide)]; exact h81
          refine lv_iload hx hb dX5_jumps_68 (lv_at hl 0 rfl) ?_
          refine lv_iconst (v := 4) hx hb dX5_jumps_70 (by decide) ?_
          refine lv_icmp_ne (tgt := 115) hx hb dX5_jumps_71 (by decide) (fun c71 => ?_) (fun c71 => ?_)
          · exact absurd (by rw [hx5, show w = 4 by omega]; rfl) c71
          · have hr0 : dfE p0 f0 u T (decide (dp = 0)) (Sp, cB) = some RS := hres
            refine lv_iload hx hb dX5_jumps_74 (lv_at hl 5 rfl) ?_
            refine lv_if_le (tgt := 109) hx hb dX5_jumps_76 (by decide) (fun c76 => ?_) (fun c76 => ?_)
            · have hd0 : dp = 0 := mm_zero (by omega) (by rw [← hx4]; exact c76)
              have hRS : RS = Sp := by rw [dfE, if_pos (by rw [hd0]; rfl)] at hr0; exact (Option.some.inj hr0).symm
              obtain ⟨y4, ey4⟩ : ∃ y : Int32, y = x4 + (-1) := ⟨_, rfl⟩
              refine lv_iinc (v := y4) (lv' := [(4, .int y4), (5, .int x5), (0, .ref ob), (1, .int x1), (2, .int x2), (3, .int x3)]) hx hb dX5_jumps_109 hl (k := 5) rfl (by rw [ey4]; rfl) (by decide) rfl (fun ls hl => ?_)
              refine lv_goto (tgt := 281) hx hb dX5_jumps_112 (by decide) ?_
              refine lv_goto (tgt := 43) hx hb dX5_jumps_281 (by decide) ?_
              exact kont Sa M_5 _ _ ls y4 (by rw [ey4, hx4]) (by rw [hRS]; exact hqE) ho2 hV hA m_ob fR (lv_sub hl [2, 3, 4, 5, 0] rfl)
            · have hd0 : 0 < dp := mm_pos (by omega) (by rw [← hx4]; exact c76)
              have hr1 : (if cB = true then some Sp else noteO p0 Sp (keyR (nI f0) (nI u) T)) = some RS := by rw [dfE, if_neg (by rw [decide_eq_true_eq]; omega)] at hr0; exact hr0
              refine lv_aload_n hx hb dX5_jumps_79 rfl (lv_at hl 1 rfl) ?_
              refine mm_get (ci := 5) (C := RX5) (T := TX5) (N := 20) hx hb hts in_X5 hown hK hV i_ob m_ob rfl 12 (by decide) f_46 (fun _ h => h) rfl dX5_jumps_80 ?_
              refine lv_iload hx hb dX5_jumps_83 (lv_at hl 5 rfl) ?_
              refine mm_zaldN (j := dp) hx hb hK hV (hA.i 12 rfl) (show M_5 (ad 12) = .inl (dA 3, 8, .inl (Sa 12)) from hA.m 12 rfl) hx4 (by omega) (by decide) dX5_jumps_85 ?_
              refine lv_if_ne (tgt := 109) hx hb dX5_jumps_86 (by decide) (fun c86 => ?_) (fun c86 => ?_)
              · have hct : cB = true := by cases cB with | false => exact absurd hc2 c86 | true => rfl
                have hRS : RS = Sp := by rw [if_pos hct] at hr1; exact (Option.some.inj hr1).symm
                obtain ⟨y4, ey4⟩ : ∃ y : Int32, y = x4 + (-1) := ⟨_, rfl⟩
                refine lv_iinc (v := y4) (lv' := [(4, .int y4), (5, .int x5), (0, .ref ob), (1, .int x1), (2, .int x2), (3, .int x3)]) hx hb dX5_jumps_109 hl (k := 5) rfl (by rw [ey4]; rfl) (by decide) rfl (fun ls hl => ?_)
                refine lv_goto (tgt := 281) hx hb dX5_jumps_112 (by decide) ?_
                refine lv_goto (tgt := 43) hx hb dX5_jumps_281 (by decide) ?_
                exact kont Sa M_5 _ _ ls y4 (by rw [ey4, hx4]) (by rw [hRS]; exact hqE) ho2 hV hA m_ob fR (lv_sub hl [2, 3, 4, 5, 0] rfl)
              · have hcf : ¬ cB = true := fun h => by rw [hc2, if_pos h] at c86; exact absurd c86 (by decide)
                rw [if_neg hcf] at hr1
                obtain ⟨n9, hc8, hn9, hRS⟩ := noteO_some hr1
                have hc9 : Sa 3 p0 = nI n9 := by rw [hqE 3 (by decide) (by decide) (by decide) (by decide)]; exact hc8
                refine lv_aload_n hx hb dX5_jumps_89 rfl (lv_at hl 1 rfl) ?_
                refine lv_iload_n hx hb dX5_jumps_90 rfl (lv_at hl 2 rfl) ?_
                refine lv_iload_n hx hb dX5_jumps_91 rfl (lv_at hl 3 rfl) ?_
                refine lv_aload_n hx hb dX5_jumps_92 rfl (lv_at hl 1 rfl) ?_
                refine mm_get (ci := 5) (C := RX5) (T := TX5) (N := 20) hx hb hts in_X5 hown hK hV i_ob m_ob rfl 9 (by decide) f_37 (fun _ h => h) rfl dX5_jumps_93 ?_
                refine lv_iload hx hb dX5_jumps_96 (lv_at hl 5 rfl) ?_
                refine mm_ialdN (j := dp) hx hb hK hV (hA.i 9 rfl) (show M_5 (ad 9) = .inl (dA 0, 8, .inl (Sa 9)) from hA.m 9 rfl) hx4 (by omega) (by decide) dX5_jumps_98 ?_
                refine lv_aload_n hx hb dX5_jumps_99 rfl (lv_at hl 1 rfl) ?_
                refine mm_get (ci := 5) (C := RX5) (T := TX5) (N := 20) hx hb hts in_X5 hown hK hV i_ob m_ob rfl 10 (by decide) f_40 (fun _ h => h) rfl dX5_jumps_100 ?_
                refine lv_iload hx hb dX5_jumps_103 (lv_at hl 5 rfl) ?_
                refine mm_ialdN (j := dp) hx hb hK hV (hA.i 10 rfl) (show M_5 (ad 10) = .inl (dA 0, 8, .inl (Sa 10)) from hA.m 10 rfl) hx4 (by omega) (by decide) dX5_jumps_105 ?_
                refine mm_Vm (ci := 5) (As := [.int x1, .int x2, .int ((Sa 9) dp), .int ((Sa 10) dp)]) (rest := []) ⟨hx, hb, hml, hown, hts⟩ hK hV (c_noteR l D dA (p0 := p0) (n := n9) x1 x2 ((Sa 9) dp) ((Sa 10) dp) i_ob m_ob hA hp hp6 hc9 hn9) (cwV 4 hts gX5_jumps_X5_note rfl rfl rfl (by decide +kernel) (mm_levR hR (by omega) (by decide))) i_ob m_ob rfl rfl hl.1 rfl (Nat.le_of_ble_eq_true rfl) dX5_jumps_106 ⟨Nat.zero_le _, Nat.zero_le _⟩ (fun M_6 H locs hp hV => ?_)
                obtain ⟨hA, m_ob, fR9⟩ := hp
                have fR : rF L ad ob M M_6 := fR.tr fR9
                obtain ⟨S_7, eS_7⟩ : ∃ z, z = noteR Sa p0 n9 (keyR x2 ((Sa 9) dp) ((Sa 10) dp)) := ⟨_, rfl⟩
                rw [← eS_7] at hA
                obtain ⟨y4, ey4⟩ : ∃ y : Int32, y = x4 + (-1) := ⟨_, rfl⟩
                refine lv_iinc (v := y4) (lv' := [(4, .int y4), (5, .int x5), (0, .ref ob), (1, .int x1), (2, .int x2), (3, .int x3)]) hx hb dX5_jumps_109 hl (k := 5) rfl (by rw [ey4]; rfl) (by decide) rfl (fun ls hl => ?_)
                refine lv_goto (tgt := 281) hx hb dX5_jumps_112 (by decide) ?_
                refine lv_goto (tgt := 43) hx hb dX5_jumps_281 (by decide) ?_
                exact kont S_7 M_6 _ _ ls y4 (by rw [ey4, hx4]) (by rw [eS_7, hRS, hT2, hu2, hf]; exact hqE.note) (fun i hi => by rw [eS_7, noteR_ne (by decide) (by decide), noteR_ne (by decide) (by decide), noteR_ne (by decide) (by decide), noteR_ne (by decide) (by decide)]; exact ho2 i hi) hV hA m_ob fR (lv_sub hl [2, 3, 4, 5, 0] rfl)
      | succ mn ihm =>
        intro dp u w T cB Sp RS S1 x4 M1 H locs ls hdk hwm hx4 hu hu18 hT hw hcd hEq h7 h8 hres hV hA m_ob fR hl kont
        have h71 : S1 7 = nearR := (hEq 7 (by decide) (by decide) (by decide) (by decide)).trans h7
        have h81 : S1 8 = farR := (hEq 8 (by decide) (by decide) (by decide) (by decide)).trans h8
        refine lv_iload hx hb dX5_jumps_43 (lv_at hl 4 rfl) ?_
        refine lv_if_lt (tgt := 284) hx hb dX5_jumps_45 (by decide) (fun c45 => ?_) (fun c45 => ?_)
        · exact absurd c45 (by rw [hx4]; exact nI_pos (by omega))
        · refine lv_aload_n hx hb dX5_jumps_48 rfl (lv_at hl 0 rfl) ?_
          refine mm_get (ci := 5) (C := RX5) (T := TX5) (N := 20) hx hb hts in_X5 hown hK hV i_ob m_ob rfl 11 (by decide) f_43 (fun _ h => h) rfl dX5_jumps_49 ?_
          refine lv_iload hx hb dX5_jumps_52 (lv_at hl 4 rfl) ?_
          refine mm_ialdN (j := dp) hx hb hK hV (hA.i 11 rfl) (show M1 (ad 11) = .inl (dA 0, 8, .inl (S1 11)) from hA.m 11 rfl) hx4 (by omega) (by decide) dX5_jumps_54 ?_
          refine lv_topi (fun x5 ex5 => ?_)
          refine lv_istore (lv' := [(5, .int x5), (0, .ref ob), (1, .int x1), (2, .int x2), (3, .int x3), (4, .int x4)]) hx hb dX5_jumps_55 hl (by decide) rfl (fun ls hl => ?_)
          have hx5 : x5 = nI w := by rw [ex5]; exact hw
          refine lv_aload_n hx hb dX5_jumps_57 rfl (lv_at hl 1 rfl) ?_
          refine mm_get (ci := 5) (C := RX5) (T := TX5) (N := 20) hx hb hts in_X5 hown hK hV i_ob m_ob rfl 11 (by decide) f_43 (fun _ h => h) rfl dX5_jumps_58 ?_
          refine lv_iload hx hb dX5_jumps_61 (lv_at hl 5 rfl) ?_
          refine lv_dup2_11 hx hb dX5_jumps_63 rfl rfl ?_
          refine mm_ialdN (j := dp) hx hb hK hV (hA.i 11 rfl) (show M1 (ad 11) = .inl (dA 0, 8, .inl (S1 11)) from hA.m 11 rfl) hx4 (by omega) (by decide) dX5_jumps_64 ?_
          refine lv_iconst (v := 1) hx hb dX5_jumps_65 (by decide) ?_
          refine lv_iadd hx hb dX5_jumps_66 ?_
          refine lv_topi (fun va eva => ?_)
          refine mm_iastN (j := dp) (x := va) hx hb hK hV (hA.i 11 rfl) (show M1 (ad 11) = .inl (dA 0, 8, .inl (S1 11)) from hA.m 11 rfl) hx4 (by omega) (by decide) dX5_jumps_67 (fun M_8 H locs eM_8 hV => ?_)
          obtain ⟨Sa, eSa⟩ : ∃ z, z = va_up S1 11 (upd (S1 11) dp va) := ⟨_, rfl⟩
          have hA : rA dA L M_8 ad Sa := by rw [eSa]; exact hA.up 11 rfl eM_8
          have m_ob : M_8 ob = rO ad pl qu so := (congrFun eM_8 ob).trans ((va_up_ne _ _ (fun h => hA0.nob 11 rfl m_ob0 h)).trans m_ob)
          have fR : rF L ad ob M M_8 := fR.up 11 rfl eM_8
          have hqE : EqL Sa Sp := by rw [eSa]; exact hEq.up (by omega)
          have hu2 : Sa 9 dp = nI u := by rw [eSa, va_up_ne _ _ (by decide)]; exact hu
          have hT2 : Sa 10 dp = T := by rw [eSa, va_up_ne _ _ (by decide)]; exact hT
          have hc2 : Sa 12 dp = (if cB = true then 1 else 0) := by rw [eSa, va_up_ne _ _ (by decide)]; exact hcd
          have hw2 : Sa 11 dp = nI (w + 1) := by rw [eSa, va_up_self, pk_us, eva, hw]; exact nI_1 w
          have ho2 : (∀ i, i < dp → Sa 9 i = S1 9 i ∧ Sa 10 i = S1 10 i ∧ Sa 11 i = S1 11 i ∧ Sa 12 i = S1 12 i) := fun i hi => by rw [eSa]; exact ⟨by rw [va_up_ne _ _ (by decide)], by rw [va_up_ne _ _ (by decide)], by rw [va_up_self, pk_un (by omega)], by rw [va_up_ne _ _ (by decide)]⟩
          have h72 : Sa 7 = nearR := by rw [eSa, va_up_ne _ _ (by decide)]; exact h71
          have h82 : Sa 8 = farR := by rw [eSa, va_up_ne _ _ (by decide)]; exact h81
          refine lv_iload hx hb dX5_jumps_68 (lv_at hl 0 rfl) ?_
          refine lv_iconst (v := 4) hx hb dX5_jumps_70 (by decide) ?_
          refine lv_icmp_ne (tgt := 115) hx hb dX5_jumps_71 (by decide) (fun c71 => ?_) (fun c71 => ?_)
          · have hw4 : w < 4 := by omega
            refine lv_iload_n hx hb dX5_jumps_115 rfl (lv_at hl 4 rfl) ?_
            refine lv_iload hx hb dX5_jumps_116 (lv_at hl 0 rfl) ?_
            refine mm_Sp (v := (goesR x3 x5)) (As := [.int x3, .int x5]) (rest := []) ⟨hx, hb, hml, hown, hts⟩ hK hV (c_goesR l D dA x3 x5) (va_cwS 2 hts gX5_jumps_X5_goes rfl rfl rfl (by decide +kernel) (mm_levR hR (by omega) (by decide))) rfl hl.1 rfl (Nat.le_of_ble_eq_true rfl) dX5_jumps_118 ⟨Nat.zero_le _, Nat.zero_le _⟩ (fun H locs hV => ?_)
            refine lv_if_eq (tgt := 281) hx hb dX5_jumps_121 (by decide) (fun c121 => ?_) (fun c121 => ?_)
            · have hg0 : goesR x3 (nI w) = 0 := by rw [← hx5]; exact c121
              refine lv_goto (tgt := 43) hx hb dX5_jumps_281 (by decide) ?_
              rw [dfL, if_pos hg0] at hres
              exact ihm dp u (w + 1) T cB Sp RS Sa x4 M_8 _ _ ls hdk (by omega) hx4 hu2 hu18 hT2 hw2 hc2 hqE h7 h8 hres hV hA m_ob fR (lv_sub hl [1, 2, 3, 4, 5] rfl) (fun S2 M2 H locs ls y4 e1 e2 e3 => kont S2 M2 H locs ls y4 e1 e2 (ol_tr e3 ho2))
            · have hg0 : ¬ goesR x3 (nI w) = 0 := by rw [← hx5]; exact c121
              refine lv_aload_n hx hb dX5_jumps_124 rfl (lv_at hl 1 rfl) ?_
              refine lv_iload_n hx hb dX5_jumps_125 rfl (lv_at hl 2 rfl) ?_
              refine lv_iload_n hx hb dX5_jumps_126 rfl (lv_at hl 3 rfl) ?_
              refine lv_aload_n hx hb dX5_jumps_127 rfl (lv_at hl 1 rfl) ?_
              refine mm_get (ci := 5) (C := RX5) (T := TX5) (N := 20) hx hb hts in_X5 hown hK hV i_ob m_ob rfl 9 (by decide) f_37 (fun _ h => h) rfl dX5_jumps_128 ?_
              refine lv_iload hx hb dX5_jumps_131 (lv_at hl 5 rfl) ?_
              refine mm_ialdN (j := dp) hx hb hK hV (hA.i 9 rfl) (show M_8 (ad 9) = .inl (dA 0, 8, .inl (Sa 9)) from hA.m 9 rfl) hx4 (by omega) (by decide) dX5_jumps_133 ?_
              refine lv_aload_n hx hb dX5_jumps_134 rfl (lv_at hl 1 rfl) ?_
              refine mm_get (ci := 5) (C := RX5) (T := TX5) (N := 20) hx hb hts in_X5 hown hK hV i_ob m_ob rfl 10 (by decide) f_40 (fun _ h => h) rfl dX5_jumps_135 ?_
              refine lv_iload hx hb dX5_jumps_138 (lv_at hl 5 rfl) ?_
              refine mm_ialdN (j := dp) hx hb hK hV (hA.i 10 rfl) (show M_8 (ad 10) = .inl (dA 0, 8, .inl (Sa 10)) from hA.m 10 rfl) hx4 (by omega) (by decide) dX5_jumps_140 ?_
              refine lv_iload hx hb dX5_jumps_141 (lv_at hl 0 rfl) ?_
              refine mm_Vp (v := (leapR Sa p0 x2 u w ((Sa 10) dp))) (ci := 5) (As := [.int x1, .int x2, .int ((Sa 9) dp), .int ((Sa 10) dp), .int x5]) (rest := []) ⟨hx, hb, hml, hown, hts⟩ hK hV (c_leapR l D dA (p0 := p0) (u0 := u) (w0 := w) x1 x2 ((Sa 9) dp) ((Sa 10) dp) x5 i_ob m_ob hA h72 h82 hp hp6 hu2 hu18 hx5 hw4) (cwV 5 hts gX5_jumps_X5_leap rfl rfl rfl (by decide +kernel) (mm_levR hR (by omega) (by decide))) i_ob m_ob rfl rfl hl.1 rfl (Nat.le_of_ble_eq_true rfl) dX5_jumps_143 ⟨Nat.zero_le _, Nat.zero_le _⟩ (fun H locs hV => ?_)
              refine lv_if_eq (tgt := 281) hx hb dX5_jumps_146 (by decide) (fun c146 => ?_) (fun c146 => ?_)
              · have hl0 : leapR Sp p0 (nI f0) u w T = 0 := by rw [← hqE.leap, ← hT2, ← hf]; exact c146
                refine lv_goto (tgt := 43) hx hb dX5_jumps_281 (by decide) ?_
                rw [dfL, if_neg hg0, if_pos hl0] at hres
                exact ihm dp u (w + 1) T cB Sp RS Sa x4 M_8 _ _ ls hdk (by omega) hx4 hu2 hu18 hT2 hw2 hc2 hqE h7 h8 hres hV hA m_ob fR (lv_sub hl [1, 2, 3, 4, 5] rfl) (fun S2 M2 H locs ls y4 e1 e2 e3 => kont S2 M2 H locs ls y4 e1 e2 (ol_tr e3 ho2))
              · have hl0 : ¬ leapR Sp p0 (nI f0) u w T = 0 := by rw [← hqE.leap, ← hT2, ← hf]; exact c146
                have hff : ¬ farR (4 * u + w) < 0 := fun h => hl0 (by unfold leapR; rw [if_pos h])
                have hf9 := (fr_ok (4 * u + w) (by omega)).resolve_left hff
                refine lv_aload_n hx hb dX5_jumps_149 rfl (lv_at hl 1 rfl) ?_
                refine mm_get (ci := 5) (C := RX5) (T := TX5) (N := 20) hx hb hts in_X5 hown hK hV i_ob m_ob rfl 12 (by decide) f_46 (fun _ h => h) rfl dX5_jumps_150 ?_
                refine lv_iload hx hb dX5_jumps_153 (lv_at hl 5 rfl) ?_
                refine lv_iconst (v := 1) hx hb dX5_jumps_155 (by decide) ?_
                refine mm_zastN (j := dp) (x := 1) hx hb hK hV (hA.i 12 rfl) (show M_8 (ad 12) = .inl (dA 3, 8, .inl (Sa 12)) from hA.m 12 rfl) hx4 (by omega) (by decide) dX5_jumps_156 (fun M_9 H locs eM_9 hV => ?_)
                obtain ⟨Sb, eSb⟩ : ∃ z, z = va_up Sa 12 (upd (Sa 12) dp (vp_nar .boolean 1)) := ⟨_, rfl⟩
                have hA : rA dA L M_9 ad Sb := by rw [eSb]; exact hA.up 12 rfl eM_9
                have m_ob : M_9 ob = rO ad pl qu so := (congrFun eM_9 ob).trans ((va_up_ne _ _ (fun h => hA0.nob 12 rfl m_ob0 h)).trans m_ob)
                have fR : rF L ad ob M M_9 := fR.up 12 rfl eM_9
                have hbE : EqL Sb Sp := by rw [eSb]; exact hqE.up (by omega)
                have hu3 : Sb 9 dp = nI u := by rw [eSb, va_up_ne _ _ (by decide)]; exact hu2
                have hT3 : Sb 10 dp = T := by rw [eSb, va_up_ne _ _ (by decide)]; exact hT2
                have hw3 : Sb 11 dp = nI (w + 1) := by rw [eSb, va_up_ne _ _ (by decide)]; exact hw2
                have hc3 : Sb 12 dp = (if true = true then 1 else 0) := by rw [eSb, va_up_self, pk_us]; rfl
                have ho3 : (∀ i, i < dp → Sb 9 i = S1 9 i ∧ Sb 10 i = S1 10 i ∧ Sb 11 i = S1 11 i ∧ Sb 12 i = S1 12 i) := fun i hi => by rw [eSb]; exact ⟨by rw [va_up_ne _ _ (by decide)]; exact (ho2 i hi).1, by rw [va_up_ne _ _ (by decide)]; exact (ho2 i hi).2.1, by rw [va_up_ne _ _ (by decide)]; exact (ho2 i hi).2.2.1, by rw [va_up_self, pk_un (by omega)]; exact (ho2 i hi).2.2.2⟩
                have h73 : Sb 7 = nearR := by rw [eSb, va_up_ne _ _ (by decide)]; exact h72
                have h83 : Sb 8 = farR := by rw [eSb, va_up_ne _ _ (by decide)]; exact h82
                refine lv_aload_n hx hb dX5_jumps_157 rfl (lv_at hl 1 rfl) ?_
                refine mm_get (ci := 5) (C := RX5) (T := TX5) (N := 20) hx hb hts in_X5 hown hK hV i_ob m_ob rfl 7 (by decide) f_31 (fun _ h => h) rfl dX5_jumps_158 ?_
                refine lv_iconst (v := 4) hx hb dX5_jumps_161 (by decide) ?_
                refine lv_aload_n hx hb dX5_jumps_162 rfl (lv_at hl 1 rfl) ?_
                refine mm_get (ci := 5) (C := RX5) (T := TX5) (N := 20) hx hb hts in_X5 hown hK hV i_ob m_ob rfl 9 (by decide) f_37 (fun _ h => h) rfl dX5_jumps_163 ?_
                refine lv_iload hx hb dX5_jumps_166 (lv_at hl 5 rfl) ?_
                refine mm_ialdN (j := dp) hx hb hK hV (hA.i 9 rfl) (show M_9 (ad 9) = .inl (dA 0, 8, .inl (Sb 9)) from hA.m 9 rfl) hx4 (by omega) (by decide) dX5_jumps_168 ?_
                refine lv_imul hx hb dX5_jumps_169 ?_
                refine lv_iload hx hb dX5_jumps_170 (lv_at hl 0 rfl) ?_
                refine lv_iadd hx hb dX5_jumps_172 ?_
                refine mm_ialdN (j := (4 * u + w)) hx hb hK hV (hA.i 7 rfl) (show M_9 (ad 7) = .inl (dA 0, 72, .inl (Sb 7)) from hA.m 7 rfl) (ixR (c := 4) rfl hu3 hx5) (by omega) (by decide) dX5_jumps_173 ?_
                refine lv_topi (fun x6 ex6 => ?_)
                refine lv_istore (lv' := [(6, .int x6), (5, .int x5), (0, .ref ob), (1, .int x1), (2, .int x2), (3, .int x3), (4, .int x4)]) hx hb dX5_jumps_174 hl (by decide) rfl (fun ls hl => ?_)
                have hx6 : x6 = nearR (4 * u + w) := by rw [ex6, h73]
                refine lv_aload_n hx hb dX5_jumps_176 rfl (lv_at hl 2 rfl) ?_
                refine mm_get (ci := 5) (C := RX5) (T := TX5) (N := 20) hx hb hts in_X5 hown hK hV i_ob m_ob rfl 8 (by decide) f_34 (fun _ h => h) rfl dX5_jumps_177 ?_
                refine lv_iconst (v := 4) hx hb dX5_jumps_180 (by decide) ?_
                refine lv_aload_n hx hb dX5_jumps_181 rfl (lv_at hl 2 rfl) ?_
                refine mm_get (ci := 5) (C := RX5) (T := TX5) (N := 20) hx hb hts in_X5 hown hK hV i_ob m_ob rfl 9 (by decide) f_37 (fun _ h => h) rfl dX5_jumps_182 ?_
                refine lv_iload hx hb dX5_jumps_185 (lv_at hl 6 rfl) ?_
                refine mm_ialdN (j := dp) hx hb hK hV (hA.i 9 rfl) (show M_9 (ad 9) = .inl (dA 0, 8, .inl (Sb 9)) from hA.m 9 rfl) hx4 (by omega) (by decide) dX5_jumps_187 ?_
                refine lv_imul hx hb dX5_jumps_188 ?_
                refine lv_iload hx hb dX5_jumps_189 (lv_at hl 1 rfl) ?_
                refine lv_iadd hx hb dX5_jumps_191 ?_
                refine mm_ialdN (j := (4 * u + w)) hx hb hK hV (hA.i 8 rfl) (show M_9 (ad 8) = .inl (dA 0, 72, .inl (Sb 8)) from hA.m 8 rfl) (ixR (c := 4) rfl hu3 hx5) (by omega) (by decide) dX5_jumps_192 ?_
                refine lv_topi (fun x7 ex7 => ?_)
                refine lv_istore (lv' := [(7, .int x7), (6, .int x6), (5, .int x5), (0, .ref ob), (1, .int x1), (2, .int x2), (3, .int x3), (4, .int x4)]) hx hb dX5_jumps_193 hl (by decide) rfl (fun ls hl => ?_)
                have hx7 : x7 = farR (4 * u + w) := by rw [ex7, h83]
                have hy7 : x7 = nI (frN (4 * u + w)) := by rw [hx7]; exact hf9.2.1
                have hf18 : frN (4 * u + w) < 18 := hf9.1
                refine lv_aload_n hx hb dX5_jumps_195 rfl (lv_at hl 3 rfl) ?_
                refine mm_get (ci := 5) (C := RX5) (T := TX5) (N := 20) hx hb hts in_X5 hown hK hV i_ob m_ob rfl 10 (by decide) f_40 (fun _ h => h) rfl dX5_jumps_196 ?_
                refine lv_iload hx hb dX5_jumps_199 (lv_at hl 7 rfl) ?_
                refine mm_ialdN (j := dp) hx hb hK hV (hA.i 10 rfl) (show M_9 (ad 10) = .inl (dA 0, 8, .inl (Sb 10)) from hA.m 10 rfl) hx4 (by omega) (by decide) dX5_jumps_201 ?_
                refine lv_iconst (v := 1) hx hb dX5_jumps_202 (by decide) ?_
                refine lv_iload hx hb dX5_jumps_203 (lv_at hl 1 rfl) ?_
                refine lv_ishl hx hb dX5_jumps_205 ?_
                refine lv_iadd hx hb dX5_jumps_206 ?_
                refine lv_topi (fun x8 ex8 => ?_)
                refine lv_istore (lv' := [(8, .int x8), (7, .int x7), (6, .int x6), (5, .int x5), (0, .ref ob), (1, .int x1), (2, .int x2), (3, .int x3), (4, .int x4)]) hx hb dX5_jumps_207 hl (by decide) rfl (fun ls hl => ?_)
                have hx8 : x8 = T + ((1 : Int32) <<< (nearR (4 * u + w) &&& 31)) := by rw [ex8, hT3, hx6]
                refine lv_iload_n hx hb dX5_jumps_209 rfl (lv_at hl 7 rfl) ?_
                refine mm_Sp (v := (kingR x3)) (As := [.int x3]) (rest := []) ⟨hx, hb, hml, hown, hts⟩ hK hV (c_kingR l D dA x3) (va_cwS 1 hts gX5_jumps_X5_isKing rfl rfl rfl (by decide +kernel) (mm_levR hR (by omega) (by decide))) rfl hl.1 rfl (Nat.le_of_ble_eq_true rfl) dX5_jumps_210 ⟨Nat.zero_le _, Nat.zero_le _⟩ (fun H locs hV => ?_)
                refine lv_if_ne (tgt := 244) hx hb dX5_jumps_213 (by decide) (fun c213 => ?_) (fun c213 => ?_)
                · have hnc : ¬ (kingR x3 = 0 ∧ rowR (farR (4 * u + w)) = crownR (sideR x3)) := (fun h => c213 h.1)
                  exact absurd hres (by rw [dfL, if_neg hg0, if_neg hl0, if_neg hnc, dfN]; exact fun h => by cases h)
                · refine lv_iload hx hb dX5_jumps_216 (lv_at hl 1 rfl) ?_
                  refine mm_Sp (v := (rowR x7)) (As := [.int x7]) (rest := []) ⟨hx, hb, hml, hown, hts⟩ hK hV (c_rowR l D dA x7) (va_cwS 1 hts gX5_jumps_X5_rowOf rfl rfl rfl (by decide +kernel) (mm_levR hR (by omega) (by decide))) rfl hl.1 rfl (Nat.le_of_ble_eq_true rfl) dX5_jumps_218 ⟨Nat.zero_le _, Nat.zero_le _⟩ (fun H locs hV => ?_)
                  refine lv_iload_n hx hb dX5_jumps_221 rfl (lv_at hl 7 rfl) ?_
                  refine mm_Sp (v := (sideR x3)) (As := [.int x3]) (rest := [.int (rowR x7)]) ⟨hx, hb, hml, hown, hts⟩ hK hV (c_sideR l D dA x3) (va_cwS 1 hts gX5_jumps_X5_sideOf rfl rfl rfl (by decide +kernel) (mm_levR hR (by omega) (by decide))) rfl hl.1 rfl (Nat.le_of_ble_eq_true rfl) dX5_jumps_222 ⟨Nat.zero_le _, Nat.zero_le _⟩ (fun H locs hV => ?_)
                  refine mm_Sp (v := (crownR (sideR x3))) (As := [.int (sideR x3)]) (rest := [.int (rowR x7)]) ⟨hx, hb, hml, hown, hts⟩ hK hV (c_crownR l D dA (sideR x3)) (va_cwS 1 hts gX5_jumps_X5_crowning rfl rfl rfl (by decide +kernel) (mm_levR hR (by omega) (by decide))) rfl hl.1 rfl (Nat.le_of_ble_eq_true rfl) dX5_jumps_225 ⟨Nat.zero_le _, Nat.zero_le _⟩ (fun H locs hV => ?_)
                  refine lv_icmp_ne (tgt := 244) hx hb dX5_jumps_228 (by decide) (fun c228 => ?_) (fun c228 => ?_)
                  · have hnc : ¬ (kingR x3 = 0 ∧ rowR (farR (4 * u + w)) = crownR (sideR x3)) := (fun h => c228 (by rw [hx7]; exact h.2))
                    exact absurd hres (by rw [dfL, if_neg hg0, if_neg hl0, if_neg hnc, dfN]; exact fun h => by cases h)
                  · have hcr : kingR x3 = 0 ∧ rowR (farR (4 * u + w)) = crownR (sideR x3) := ⟨c213, by rw [← hx7]; exact c228⟩
                    rw [dfL, if_neg hg0, if_neg hl0, if_pos hcr] at hres
                    obtain ⟨Sn, hSn, hres⟩ : ∃ q, noteO p0 Sp (keyR (nI f0) (farR (4 * u + w)) (T + ((1 : Int32) <<< (nearR (4 * u + w) &&& 31)))) = some q ∧ (dfL p0 f0 x3 (dfN p0 f0 x3 (0) false) u T mn (w + 1) true q).bind (dfE p0 f0 u T (decide (dp = 0))) = some RS := ob_bind hres
                    obtain ⟨n9, hc8, hn9, hSn⟩ := noteO_some hSn
                    have hc9 : Sb 3 p0 = nI n9 := by rw [hbE 3 (by decide) (by decide) (by decide) (by decide)]; exact hc8
                    refine lv_aload_n hx hb dX5_jumps_231 rfl (lv_at hl 4 rfl) ?_
                    refine lv_iload_n hx hb dX5_jumps_232 rfl (lv_at hl 5 rfl) ?_
                    refine lv_iload_n hx hb dX5_jumps_233 rfl (lv_at hl 6 rfl) ?_
                    refine lv_iload hx hb dX5_jumps_234 (lv_at hl 1 rfl) ?_
                    refine lv_iload hx hb dX5_jumps_236 (lv_at hl 0 rfl) ?_
                    refine mm_Vm (ci := 5) (As := [.int x1, .int x2, .int x7, .int x8]) (rest := []) ⟨hx, hb, hml, hown, hts⟩ hK hV (c_noteR l D dA (p0 := p0) (n := n9) x1 x2 x7 x8 i_ob m_ob hA hp hp6 hc9 hn9) (cwV 4 hts gX5_jumps_X5_note rfl rfl rfl (by decide +kernel) (mm_levR hR (by omega) (by decide))) i_ob m_ob rfl rfl hl.1 rfl (Nat.le_of_ble_eq_true rfl) dX5_jumps_238 ⟨Nat.zero_le _, Nat.zero_le _⟩ (fun M_10 H locs hp hV => ?_)
                    obtain ⟨hA, m_ob, fR9⟩ := hp
                    have fR : rF L ad ob M M_10 := fR.tr fR9
                    obtain ⟨S_11, eS_11⟩ : ∃ z, z = noteR Sb p0 n9 (keyR x2 x7 x8) := ⟨_, rfl⟩
                    rw [← eS_11] at hA
                    refine lv_goto (tgt := 281) hx hb dX5_jumps_241 (by decide) ?_
                    refine lv_goto (tgt := 43) hx hb dX5_jumps_281 (by decide) ?_
                    have hE9 : EqL S_11 Sn := by rw [eS_11, hSn, hx8, hx7, hf]; exact hbE.note
                    have k9 : ∀ k, k ≠ 2 → k ≠ 3 → S_11 k = Sb k := fun k a b => by rw [eS_11]; exact noteR_ne a b
                    exact ihm dp u (w + 1) T true Sn RS S_11 x4 M_10 _ _ ls hdk (by omega) hx4 (by rw [k9 9 (by decide) (by decide)]; exact hu3) hu18 (by rw [k9 10 (by decide) (by decide)]; exact hT3) (by rw [k9 11 (by decide) (by decide)]; exact hw3) (by rw [k9 12 (by decide) (by decide)]; exact hc3) hE9 (by rw [hSn, noteR_ne (by decide) (by decide)]; exact h7) (by rw [hSn, noteR_ne (by decide) (by decide)]; exact h8) hres hV hA m_ob fR (lv_sub hl [4, 5, 6, 7, 8] rfl) (fun S2 M2 H locs ls y4 e1 e2 e3 => kont S2 M2 H locs ls y4 e1 e2 (ol_tr e3 (fun i hi => by rw [k9 9 (by decide) (by decide), k9 10 (by decide) (by decide), k9 11 (by decide) (by decide), k9 12 (by decide) (by decide)]; exact ho3 i hi)))
          · exact absurd (show nI w = 4 by rw [← hx5]; exact c71) (fun h => by have := (nI_eq (a := w) (b := 4) (by omega) (by decide)).mp h; omega)
    | succ k ihk =>
      intro mn
      induction mn with
      | zero =>
        intro dp u w T cB Sp RS S1 x4 M1 H locs ls hdk hwm hx4 hu hu18 hT hw hcd hEq h7 h8 hres hV hA m_ob fR hl kont
        have h71 : S1 7 = nearR := (hEq 7 (by decide) (by decide) (by decide) (by decide)).trans h7
        have h81 : S1 8 = farR := (hEq 8 (by decide) (by decide) (by decide) (by decide)).trans h8
        refine lv_iload hx hb dX5_jumps_43 (lv_at hl 4 rfl) ?_
        refine lv_if_lt (tgt := 284) hx hb dX5_jumps_45 (by decide) (fun c45 => ?_) (fun c45 => ?_)
        · exact absurd c45 (by rw [hx4]; exact nI_pos (by omega))
        · refine lv_aload_n hx hb dX5_jumps_48 rfl (lv_at hl 0 rfl) ?_
          refine mm_get (ci := 5) (C := RX5) (T := TX5) (N := 20) hx hb hts in_X5 hown hK hV i_ob m_ob rfl 11 (by decide) f_43 (fun _ h => h) rfl dX5_jumps_49 ?_
          refine lv_iload hx hb dX5_jumps_52 (lv_at hl 4 rfl) ?_
          refine mm_ialdN (j := dp) hx hb hK hV (hA.i 11 rfl) (show M1 (ad 11) = .inl (dA 0, 8, .inl (S1 11)) from hA.m 11 rfl) hx4 (by omega) (by decide) dX5_jumps_54 ?_
          refine lv_topi (fun x5 ex5 => ?_)
          refine lv_istore (lv' := [(5, .int x5), (0, .ref ob), (1, .int x1), (2, .int x2), (3, .int x3), (4, .int x4)]) hx hb dX5_jumps_55 hl (by decide) rfl (fun ls hl => ?_)
          have hx5 : x5 = nI w := by rw [ex5]; exact hw
          refine lv_aload_n hx hb dX5_jumps_57 rfl (lv_at hl 1 rfl) ?_
          refine mm_get (ci := 5) (C := RX5) (T := TX5) (N := 20) hx hb hts in_X5 hown hK hV i_ob m_ob rfl 11 (by decide) f_43 (fun _ h => h) rfl dX5_jumps_58 ?_
          refine lv_iload hx hb dX5_jumps_61 (lv_at hl 5 rfl) ?_
          refine lv_dup2_11 hx hb dX5_jumps_63 rfl rfl ?_
          refine mm_ialdN (j := dp) hx hb hK hV (hA.i 11 rfl) (show M1 (ad 11) = .inl (dA 0, 8, .inl (S1 11)) from hA.m 11 rfl) hx4 (by omega) (by decide) dX5_jumps_64 ?_
          refine lv_iconst (v := 1) hx hb dX5_jumps_65 (by decide) ?_
          refine lv_iadd hx hb dX5_jumps_66 ?_
          refine lv_topi (fun va eva => ?_)
          refine mm_iastN (j := dp) (x := va) hx hb hK hV (hA.i 11 rfl) (show M1 (ad 11) = .inl (dA 0, 8, .inl (S1 11)) from hA.m 11 rfl) hx4 (by omega) (by decide) dX5_jumps_67 (fun M_12 H locs eM_12 hV => ?_)
          obtain ⟨Sa, eSa⟩ : ∃ z, z = va_up S1 11 (upd (S1 11) dp va) := ⟨_, rfl⟩
          have hA : rA dA L M_12 ad Sa := by rw [eSa]; exact hA.up 11 rfl eM_12
          have m_ob : M_12 ob = rO ad pl qu so := (congrFun eM_12 ob).trans ((va_up_ne _ _ (fun h => hA0.nob 11 rfl m_ob0 h)).trans m_ob)
          have fR : rF L ad ob M M_12 := fR.up 11 rfl eM_12
          have hqE : EqL Sa Sp := by rw [eSa]; exact hEq.up (by omega)
          have hu2 : Sa 9 dp = nI u := by rw [eSa, va_up_ne _ _ (by decide)]; exact hu
          have hT2 : Sa 10 dp = T := by rw [eSa, va_up_ne _ _ (by decide)]; exact hT
          have hc2 : Sa 12 dp = (if cB = true then 1 else 0) := by rw [eSa, va_up_ne _ _ (by decide)]; exact hcd
          have hw2 : Sa 11 dp = nI (w + 1) := by rw [eSa, va_up_self, pk_us, eva, hw]; exact nI_1 w
          have ho2 : (∀ i, i < dp → Sa 9 i = S1 9 i ∧ Sa 10 i = S1 10 i ∧ Sa 11 i = S1 11 i ∧ Sa 12 i = S1 12 i) := fun i hi => by rw [eSa]; exact ⟨by rw [va_up_ne _ _ (by decide)], by rw [va_up_ne _ _ (by decide)], by rw [va_up_self, pk_un (by omega)], by rw [va_up_ne _ _ (by decide)]⟩
          have h72 : Sa 7 = nearR := by rw [eSa, va_up_ne _ _ (by decide)]; exact h71
          have h82 : Sa 8 = farR := by rw [eSa, va_up_ne _ _ (by decide)]; exact h81
          refine lv_iload hx hb dX5_jumps_68 (lv_at hl 0 rfl) ?_
          refine lv_iconst (v := 4) hx hb dX5_jumps_70 (by decide) ?_
          refine lv_icmp_ne (tgt := 115) hx hb dX5_jumps_71 (by decide) (fun c71 => ?_) (fun c71 => ?_)
          · exact absurd (by rw [hx5, show w = 4 by omega]; rfl) c71
          · have hr0 : dfE p0 f0 u T (decide (dp = 0)) (Sp, cB) = some RS := hres
            refine lv_iload hx hb dX5_jumps_74 (lv_at hl 5 rfl) ?_
            refine lv_if_le (tgt := 109) hx hb dX5_jumps_76 (by decide) (fun c76 => ?_) (fun c76 => ?_)
            · have hd0 : dp = 0 := mm_zero (by omega) (by rw [← hx4]; exact c76)
              have hRS : RS = Sp := by rw [dfE, if_pos (by rw [hd0]; rfl)] at hr0; exact (Option.some.inj hr0).symm
              obtain ⟨y4, ey4⟩ : ∃ y : Int32, y = x4 + (-1) := ⟨_, rfl⟩
              refine lv_iinc (v := y4) (lv' := [(4, .int y4), (5, .int x5), (0, .ref ob), (1, .int x1), (2, .int x2), (3, .int x3)]) hx hb dX5_jumps_109 hl (k := 5) rfl (by rw [ey4]; rfl) (by decide) rfl (fun ls hl => ?_)
              refine lv_goto (tgt := 281) hx hb dX5_jumps_112 (by decide) ?_
              refine lv_goto (tgt := 43) hx hb dX5_jumps_281 (by decide) ?_
              exact kont Sa M_12 _ _ ls y4 (by rw [ey4, hx4]) (by rw [hRS]; exact hqE) ho2 hV hA m_ob fR (lv_sub hl [2, 3, 4, 5, 0] rfl)
            · have hd0 : 0 < dp := mm_pos (by omega) (by rw [← hx4]; exact c76)
              have hr1 : (if cB = true then some Sp else noteO p0 Sp (keyR (nI f0) (nI u) T)) = some RS := by rw [dfE, if_neg (by rw [decide_eq_true_eq]; omega)] at hr0; exact hr0
              refine lv_aload_n hx hb dX5_jumps_79 rfl (lv_at hl 1 rfl) ?_
              refine mm_get (ci := 5) (C := RX5) (T := TX5) (N := 20) hx hb hts in_X5 hown hK hV i_ob m_ob rfl 12 (by decide) f_46 (fun _ h => h) rfl dX5_jumps_80 ?_
              refine lv_iload hx hb dX5_jumps_83 (lv_at hl 5 rfl) ?_
              refine mm_zaldN (j := dp) hx hb hK hV (hA.i 12 rfl) (show M_12 (ad 12) = .inl (dA 3, 8, .inl (Sa 12)) from hA.m 12 rfl) hx4 (by omega) (by decide) dX5_jumps_85 ?_
              refine lv_if_ne (tgt := 109) hx hb dX5_jumps_86 (by decide) (fun c86 => ?_) (fun c86 => ?_)
              · have hct : cB = true := by cases cB with | false => exact absurd hc2 c86 | true => rfl
                have hRS : RS = Sp := by rw [if_pos hct] at hr1; exact (Option.some.inj hr1).symm
                obtain ⟨y4, ey4⟩ : ∃ y : Int32, y = x4 + (-1) := ⟨_, rfl⟩
                refine lv_iinc (v := y4) (lv' := [(4, .int y4), (5, .int x5), (0, .ref ob), (1, .int x1), (2, .int x2), (3, .int x3)]) hx hb dX5_jumps_109 hl (k := 5) rfl (by rw [ey4]; rfl) (by decide) rfl (fun ls hl => ?_)
                refine lv_goto (tgt := 281) hx hb dX5_jumps_112 (by decide) ?_
                refine lv_goto (tgt := 43) hx hb dX5_jumps_281 (by decide) ?_
                exact kont Sa M_12 _ _ ls y4 (by rw [ey4, hx4]) (by rw [hRS]; exact hqE) ho2 hV hA m_ob fR (lv_sub hl [2, 3, 4, 5, 0] rfl)
              · have hcf : ¬ cB = true := fun h => by rw [hc2, if_pos h] at c86; exact absurd c86 (by decide)
                rw [if_neg hcf] at hr1
                obtain ⟨n9, hc8, hn9, hRS⟩ := noteO_some hr1
                have hc9 : Sa 3 p0 = nI n9 := by rw [hqE 3 (by decide) (by decide) (by decide) (by decide)]; exact hc8
                refine lv_aload_n hx hb dX5_jumps_89 rfl (lv_at hl 1 rfl) ?_
                refine lv_iload_n hx hb dX5_jumps_90 rfl (lv_at hl 2 rfl) ?_
                refine lv_iload_n hx hb dX5_jumps_91 rfl (lv_at hl 3 rfl) ?_
                refine lv_aload_n hx hb dX5_jumps_92 rfl (lv_at hl 1 rfl) ?_
                refine mm_get (ci := 5) (C := RX5) (T := TX5) (N := 20) hx hb hts in_X5 hown hK hV i_ob m_ob rfl 9 (by decide) f_37 (fun _ h => h) rfl dX5_jumps_93 ?_
                refine lv_iload hx hb dX5_jumps_96 (lv_at hl 5 rfl) ?_
                refine mm_ialdN (j := dp) hx hb hK hV (hA.i 9 rfl) (show M_12 (ad 9) = .inl (dA 0, 8, .inl (Sa 9)) from hA.m 9 rfl) hx4 (by omega) (by decide) dX5_jumps_98 ?_
                refine lv_aload_n hx hb dX5_jumps_99 rfl (lv_at hl 1 rfl) ?_
                refine mm_get (ci := 5) (C := RX5) (T := TX5) (N := 20) hx hb hts in_X5 hown hK hV i_ob m_ob rfl 10 (by decide) f_40 (fun _ h => h) rfl dX5_jumps_100 ?_
                refine lv_iload hx hb dX5_jumps_103 (lv_at hl 5 rfl) ?_
                refine mm_ialdN (j := dp) hx hb hK hV (hA.i 10 rfl) (show M_12 (ad 10) = .inl (dA 0, 8, .inl (Sa 10)) from hA.m 10 rfl) hx4 (by omega) (by decide) dX5_jumps_105 ?_
                refine mm_Vm (ci := 5) (As := [.int x1, .int x2, .int ((Sa 9) dp), .int ((Sa 10) dp)]) (rest := []) ⟨hx, hb, hml, hown, hts⟩ hK hV (c_noteR l D dA (p0 := p0) (n := n9) x1 x2 ((Sa 9) dp) ((Sa 10) dp) i_ob m_ob hA hp hp6 hc9 hn9) (cwV 4 hts gX5_jumps_X5_note rfl rfl rfl (by decide +kernel) (mm_levR hR (by omega) (by decide))) i_ob m_ob rfl rfl hl.1 rfl (Nat.le_of_ble_eq_true rfl) dX5_jumps_106 ⟨Nat.zero_le _, Nat.zero_le _⟩ (fun M_13 H locs hp hV => ?_)
                obtain ⟨hA, m_ob, fR9⟩ := hp
                have fR : rF L ad ob M M_13 := fR.tr fR9
                obtain ⟨S_14, eS_14⟩ : ∃ z, z = noteR Sa p0 n9 (keyR x2 ((Sa 9) dp) ((Sa 10) dp)) := ⟨_, rfl⟩
                rw [← eS_14] at hA
                obtain ⟨y4, ey4⟩ : ∃ y : Int32, y = x4 + (-1) := ⟨_, rfl⟩
                refine lv_iinc (v := y4) (lv' := [(4, .int y4), (5, .int x5), (0, .ref ob), (1, .int x1), (2, .int x2), (3, .int x3)]) hx hb dX5_jumps_109 hl (k := 5) rfl (by rw [ey4]; rfl) (by decide) rfl (fun ls hl => ?_)
                refine lv_goto (tgt := 281) hx hb dX5_jumps_112 (by decide) ?_
                refine lv_goto (tgt := 43) hx hb dX5_jumps_281 (by decide) ?_
                exact kont S_14 M_13 _ _ ls y4 (by rw [ey4, hx4]) (by rw [eS_14, hRS, hT2, hu2, hf]; exact hqE.note) (fun i hi => by rw [eS_14, noteR_ne (by decide) (by decide), noteR_ne (by decide) (by decide), noteR_ne (by decide) (by decide), noteR_ne (by decide) (by decide)]; exact ho2 i hi) hV hA m_ob fR (lv_sub hl [2, 3, 4, 5, 0] rfl)
      | succ mn ihm =>
        intro dp u w T cB Sp RS S1 x4 M1 H locs ls hdk hwm hx4 hu hu18 hT hw hcd hEq h7 h8 hres hV hA m_ob fR hl kont
        have h71 : S1 7 = nearR := (hEq 7 (by decide) (by decide) (by decide) (by decide)).trans h7
        have h81 : S1 8 = farR := (hEq 8 (by decide) (by decide) (by decide) (by decide)).trans h8
        refine lv_iload hx hb dX5_jumps_43 (lv_at hl 4 rfl) ?_
        refine lv_if_lt (tgt := 284) hx hb dX5_jumps_45 (by decide) (fun c45 => ?_) (fun c45 => ?_)
        · exact absurd c45 (by rw [hx4]; exact nI_pos (by omega))
        · refine lv_aload_n hx hb dX5_jumps_48 rfl (lv_at hl 0 rfl) ?_
          refine mm_get (ci := 5) (C := RX5) (T := TX5) (N := 20) hx hb hts in_X5 hown hK hV i_ob m_ob rfl 11 (by decide) f_43 (fun _ h => h) rfl dX5_jumps_49 ?_
          refine lv_iload hx hb dX5_jumps_52 (lv_at hl 4 rfl) ?_
          refine mm_ialdN (j := dp) hx hb hK hV (hA.i 11 rfl) (show M1 (ad 11) = .inl (dA 0, 8, .inl (S1 11)) from hA.m 11 rfl) hx4 (by omega) (by decide) dX5_jumps_54 ?_
          refine lv_topi (fun x5 ex5 => ?_)
          refine lv_istore (lv' := [(5, .int x5), (0, .ref ob), (1, .int x1), (2, .int x2), (3, .int x3), (4, .int x4)]) hx hb dX5_jumps_55 hl (by decide) rfl (fun ls hl => ?_)
          have hx5 : x5 = nI w := by rw [ex5]; exact hw
          refine lv_aload_n hx hb dX5_jumps_57 rfl (lv_at hl 1 rfl) ?_
          refine mm_get (ci := 5) (C := RX5) (T := TX5) (N := 20) hx hb hts in_X5 hown hK hV i_ob m_ob rfl 11 (by decide) f_43 (fun _ h => h) rfl dX5_jumps_58 ?_
          refine lv_iload hx hb dX5_jumps_61 (lv_at hl 5 rfl) ?_
          refine lv_dup2_11 hx hb dX5_jumps_63 rfl rfl ?_
          refine mm_ialdN (j := dp) hx hb hK hV (hA.i 11 rfl) (show M1 (ad 11) = .inl (dA 0, 8, .inl (S1 11)) from hA.m 11 rfl) hx4 (by omega) (by decide) dX5_jumps_64 ?_
          refine lv_iconst (v := 1) hx hb dX5_jumps_65 (by decide) ?_
          refine lv_iadd hx hb dX5_jumps_66 ?_
          refine lv_topi (fun va eva => ?_)
          refine mm_iastN (j := dp) (x := va) hx hb hK hV (hA.i 11 rfl) (show M1 (ad 11) = .inl (dA 0, 8, .inl (S1 11)) from hA.m 11 rfl) hx4 (by omega) (by decide) dX5_jumps_67 (fun M_15 H locs eM_15 hV => ?_)
          obtain ⟨Sa, eSa⟩ : ∃ z, z = va_up S1 11 (upd (S1 11) dp va) := ⟨_, rfl⟩
          have hA : rA dA L M_15 ad Sa := by rw [eSa]; exact hA.up 11 rfl eM_15
          have m_ob : M_15 ob = rO ad pl qu so := (congrFun eM_15 ob).trans ((va_up_ne _ _ (fun h => hA0.nob 11 rfl m_ob0 h)).trans m_ob)
          have fR : rF L ad ob M M_15 := fR.up 11 rfl eM_15
          have hqE : EqL Sa Sp := by rw [eSa]; exact hEq.up (by omega)
          have hu2 : Sa 9 dp = nI u := by rw [eSa, va_up_ne _ _ (by decide)]; exact hu
          have hT2 : Sa 10 dp = T := by rw [eSa, va_up_ne _ _ (by decide)]; exact hT
          have hc2 : Sa 12 dp = (if cB = true then 1 else 0) := by rw [eSa, va_up_ne _ _ (by decide)]; exact hcd
          have hw2 : Sa 11 dp = nI (w + 1) := by rw [eSa, va_up_self, pk_us, eva, hw]; exact nI_1 w
          have ho2 : (∀ i, i < dp → Sa 9 i = S1 9 i ∧ Sa 10 i = S1 10 i ∧ Sa 11 i = S1 11 i ∧ Sa 12 i = S1 12 i) := fun i hi => by rw [eSa]; exact ⟨by rw [va_up_ne _ _ (by decide)], by rw [va_up_ne _ _ (by decide)], by rw [va_up_self, pk_un (by omega)], by rw [va_up_ne _ _ (by decide)]⟩
          have h72 : Sa 7 = nearR := by rw [eSa, va_up_ne _ _ (by decide)]; exact h71
          have h82 : Sa 8 = farR := by rw [eSa, va_up_ne _ _ (by decide)]; exact h81
          refine lv_iload hx hb dX5_jumps_68 (lv_at hl 0 rfl) ?_
          refine lv_iconst (v := 4) hx hb dX5_jumps_70 (by decide) ?_
          refine lv_icmp_ne (tgt := 115) hx hb dX5_jumps_71 (by decide) (fun c71 => ?_) (fun c71 => ?_)
          · have hw4 : w < 4 := by omega
            refine lv_iload_n hx hb dX5_jumps_115 rfl (lv_at hl 4 rfl) ?_
            refine lv_iload hx hb dX5_jumps_116 (lv_at hl 0 rfl) ?_
            refine mm_Sp (v := (goesR x3 x5)) (As := [.int x3, .int x5]) (rest := []) ⟨hx, hb, hml, hown, hts⟩ hK hV (c_goesR l D dA x3 x5) (va_cwS 2 hts gX5_jumps_X5_goes rfl rfl rfl (by decide +kernel) (mm_levR hR (by omega) (by decide))) rfl hl.1 rfl (Nat.le_of_ble_eq_true rfl) dX5_jumps_118 ⟨Nat.zero_le _, Nat.zero_le _⟩ (fun H locs hV => ?_)
            refine lv_if_eq (tgt := 281) hx hb dX5_jumps_121 (by decide) (fun c121 => ?_) (fun c121 => ?_)
            · have hg0 : goesR x3 (nI w) = 0 := by rw [← hx5]; exact c121
              refine lv_goto (tgt := 43) hx hb dX5_jumps_281 (by decide) ?_
              rw [dfL, if_pos hg0] at hres
              exact ihm dp u (w + 1) T cB Sp RS Sa x4 M_15 _ _ ls hdk (by omega) hx4 hu2 hu18 hT2 hw2 hc2 hqE h7 h8 hres hV hA m_ob fR (lv_sub hl [1, 2, 3, 4, 5] rfl) (fun S2 M2 H locs ls y4 e1 e2 e3 => kont S2 M2 H locs ls y4 e1 e2 (ol_tr e3 ho2))
            · have hg0 : ¬ goesR x3 (nI w) = 0 := by rw [← hx5]; exact c121
              refine lv_aload_n hx hb dX5_jumps_124 rfl (lv_at hl 1 rfl) ?_
              refine lv_iload_n hx hb dX5_jumps_125 rfl (lv_at hl 2 rfl) ?_
              refine lv_iload_n hx hb dX5_jumps_126 rfl (lv_at hl 3 rfl) ?_
              refine lv_aload_n hx hb dX5_jumps_127 rfl (lv_at hl 1 rfl) ?_
              refine mm_get (ci := 5) (C := RX5) (T := TX5) (N := 20) hx hb hts in_X5 hown hK hV i_ob m_ob rfl 9 (by decide) f_37 (fun _ h => h) rfl dX5_jumps_128 ?_
              refine lv_iload hx hb dX5_jumps_131 (lv_at hl 5 rfl) ?_
              refine mm_ialdN (j := dp) hx hb hK hV (hA.i 9 rfl) (show M_15 (ad 9) = .inl (dA 0, 8, .inl (Sa 9)) from hA.m 9 rfl) hx4 (by omega) (by decide) dX5_jumps_133 ?_
              refine lv_aload_n hx hb dX5_jumps_134 rfl (lv_at hl 1 rfl) ?_
              refine mm_get (ci := 5) (C := RX5) (T := TX5) (N := 20) hx hb hts in_X5 hown hK hV i_ob m_ob rfl 10 (by decide) f_40 (fun _ h => h) rfl dX5_jumps_135 ?_
              refine lv_iload hx hb dX5_jumps_138 (lv_at hl 5 rfl) ?_
              refine mm_ialdN (j := dp) hx hb hK hV (hA.i 10 rfl) (show M_15 (ad 10) = .inl (dA 0, 8, .inl (Sa 10)) from hA.m 10 rfl) hx4 (by omega) (by decide) dX5_jumps_140 ?_
              refine lv_iload hx hb dX5_jumps_141 (lv_at hl 0 rfl) ?_
              refine mm_Vp (v := (leapR Sa p0 x2 u w ((Sa 10) dp))) (ci := 5) (As := [.int x1, .int x2, .int ((Sa 9) dp), .int ((Sa 10) dp), .int x5]) (rest := []) ⟨hx, hb, hml, hown, hts⟩ hK hV (c_leapR l D dA (p0 := p0) (u0 := u) (w0 := w) x1 x2 ((Sa 9) dp) ((Sa 10) dp) x5 i_ob m_ob hA h72 h82 hp hp6 hu2 hu18 hx5 hw4) (cwV 5 hts gX5_jumps_X5_leap rfl rfl rfl (by decide +kernel) (mm_levR hR (by omega) (by decide))) i_ob m_ob rfl rfl hl.1 rfl (Nat.le_of_ble_eq_true rfl) dX5_jumps_143 ⟨Nat.zero_le _, Nat.zero_le _⟩ (fun H locs hV => ?_)
              refine lv_if_eq (tgt := 281) hx hb dX5_jumps_146 (by decide) (fun c146 => ?_) (fun c146 => ?_)
              · have hl0 : leapR Sp p0 (nI f0) u w T = 0 := by rw [← hqE.leap, ← hT2, ← hf]; exact c146
                refine lv_goto (tgt := 43) hx hb dX5_jumps_281 (by decide) ?_
                rw [dfL, if_neg hg0, if_pos hl0] at hres
                exact ihm dp u (w + 1) T cB Sp RS Sa x4 M_15 _ _ ls hdk (by omega) hx4 hu2 hu18 hT2 hw2 hc2 hqE h7 h8 hres hV hA m_ob fR (lv_sub hl [1, 2, 3, 4, 5] rfl) (fun S2 M2 H locs ls y4 e1 e2 e3 => kont S2 M2 H locs ls y4 e1 e2 (ol_tr e3 ho2))
              · have hl0 : ¬ leapR Sp p0 (nI f0) u w T = 0 := by rw [← hqE.leap, ← hT2, ← hf]; exact c146
                have hff : ¬ farR (4 * u + w) < 0 := fun h => hl0 (by unfold leapR; rw [if_pos h])
                have hf9 := (fr_ok (4 * u + w) (by omega)).resolve_left hff
                refine lv_aload_n hx hb dX5_jumps_149 rfl (lv_at hl 1 rfl) ?_
                refine mm_get (ci := 5) (C := RX5) (T := TX5) (N := 20) hx hb hts in_X5 hown hK hV i_ob m_ob rfl 12 (by decide) f_46 (fun _ h => h) rfl dX5_jumps_150 ?_
                refine lv_iload hx hb dX5_jumps_153 (lv_at hl 5 rfl) ?_
                refine lv_iconst (v := 1) hx hb dX5_jumps_155 (by decide) ?_
                refine mm_zastN (j := dp) (x := 1) hx hb hK hV (hA.i 12 rfl) (show M_15 (ad 12) = .inl (dA 3, 8, .inl (Sa 12)) from hA.m 12 rfl) hx4 (by omega) (by decide) dX5_jumps_156 (fun M_16 H locs eM_16 hV => ?_)
                obtain ⟨Sb, eSb⟩ : ∃ z, z = va_up Sa 12 (upd (Sa 12) dp (vp_nar .boolean 1)) := ⟨_, rfl⟩
                have hA : rA dA L M_16 ad Sb := by rw [eSb]; exact hA.up 12 rfl eM_16
                have m_ob : M_16 ob = rO ad pl qu so := (congrFun eM_16 ob).trans ((va_up_ne _ _ (fun h => hA0.nob 12 rfl m_ob0 h)).trans m_ob)
                have fR : rF L ad ob M M_16 := fR.up 12 rfl eM_16
                have hbE : EqL Sb Sp := by rw [eSb]; exact hqE.up (by omega)
                have hu3 : Sb 9 dp = nI u := by rw [eSb, va_up_ne _ _ (by decide)]; exact hu2
                have hT3 : Sb 10 dp = T := by rw [eSb, va_up_ne _ _ (by decide)]; exact hT2
                have hw3 : Sb 11 dp = nI (w + 1) := by rw [eSb, va_up_ne _ _ (by decide)]; exact hw2
                have hc3 : Sb 12 dp = (if true = true then 1 else 0) := by rw [eSb, va_up_self, pk_us]; rfl
                have ho3 : (∀ i, i < dp → Sb 9 i = S1 9 i ∧ Sb 10 i = S1 10 i ∧ Sb 11 i = S1 11 i ∧ Sb 12 i = S1 12 i) := fun i hi => by rw [eSb]; exact ⟨by rw [va_up_ne _ _ (by decide)]; exact (ho2 i hi).1, by rw [va_up_ne _ _ (by decide)]; exact (ho2 i hi).2.1, by rw [va_up_ne _ _ (by decide)]; exact (ho2 i hi).2.2.1, by rw [va_up_self, pk_un (by omega)]; exact (ho2 i hi).2.2.2⟩
                have h73 : Sb 7 = nearR := by rw [eSb, va_up_ne _ _ (by decide)]; exact h72
                have h83 : Sb 8 = farR := by rw [eSb, va_up_ne _ _ (by decide)]; exact h82
                refine lv_aload_n hx hb dX5_jumps_157 rfl (lv_at hl 1 rfl) ?_
                refine mm_get (ci := 5) (C := RX5) (T := TX5) (N := 20) hx hb hts in_X5 hown hK hV i_ob m_ob rfl 7 (by decide) f_31 (fun _ h => h) rfl dX5_jumps_158 ?_
                refine lv_iconst (v := 4) hx hb dX5_jumps_161 (by decide) ?_
                refine lv_aload_n hx hb dX5_jumps_162 rfl (lv_at hl 1 rfl) ?_
                refine mm_get (ci := 5) (C := RX5) (T := TX5) (N := 20) hx hb hts in_X5 hown hK hV i_ob m_ob rfl 9 (by decide) f_37 (fun _ h => h) rfl dX5_jumps_163 ?_
                refine lv_iload hx hb dX5_jumps_166 (lv_at hl 5 rfl) ?_
                refine mm_ialdN (j := dp) hx hb hK hV (hA.i 9 rfl) (show M_16 (ad 9) = .inl (dA 0, 8, .inl (Sb 9)) from hA.m 9 rfl) hx4 (by omega) (by decide) dX5_jumps_168 ?_
                refine lv_imul hx hb dX5_jumps_169 ?_
                refine lv_iload hx hb dX5_jumps_170 (lv_at hl 0 rfl) ?_
                refine lv_iadd hx hb dX5_jumps_172 ?_
                refine mm_ialdN (j := (4 * u + w)) hx hb hK hV (hA.i 7 rfl) (show M_16 (ad 7) = .inl (dA 0, 72, .inl (Sb 7)) from hA.m 7 rfl) (ixR (c := 4) rfl hu3 hx5) (by omega) (by decide) dX5_jumps_173 ?_
                refine lv_topi (fun x6 ex6 => ?_)
                refine lv_istore (lv' := [(6, .int x6), (5, .int x5), (0, .ref ob), (1, .int x1), (2, .int x2), (3, .int x3), (4, .int x4)]) hx hb dX5_jumps_174 hl (by decide) rfl (fun ls hl => ?_)
                have hx6 : x6 = nearR (4 * u + w) := by rw [ex6, h73]
                refine lv_aload_n hx hb dX5_jumps_176 rfl (lv_at hl 2 rfl) ?_
                refine mm_get (ci := 5) (C := RX5) (T := TX5) (N := 20) hx hb hts in_X5 hown hK hV i_ob m_ob rfl 8 (by decide) f_34 (fun _ h => h) rfl dX5_jumps_177 ?_
                refine lv_iconst (v := 4) hx hb dX5_jumps_180 (by decide) ?_
                refine lv_aload_n hx hb dX5_jumps_181 rfl (lv_at hl 2 rfl) ?_
                refine mm_get (ci := 5) (C := RX5) (T := TX5) (N := 20) hx hb hts in_X5 hown hK hV i_ob m_ob rfl 9 (by decide) f_37 (fun _ h => h) rfl dX5_jumps_182 ?_
                refine lv_iload hx hb dX5_jumps_185 (lv_at hl 6 rfl) ?_
                refine mm_ialdN (j := dp) hx hb hK hV (hA.i 9 rfl) (show M_16 (ad 9) = .inl (dA 0, 8, .inl (Sb 9)) from hA.m 9 rfl) hx4 (by omega) (by decide) dX5_jumps_187 ?_
                refine lv_imul hx hb dX5_jumps_188 ?_
                refine lv_iload hx hb dX5_jumps_189 (lv_at hl 1 rfl) ?_
                refine lv_iadd hx hb dX5_jumps_191 ?_
                refine mm_ialdN (j := (4 * u + w)) hx hb hK hV (hA.i 8 rfl) (show M_16 (ad 8) = .inl (dA 0, 72, .inl (Sb 8)) from hA.m 8 rfl) (ixR (c := 4) rfl hu3 hx5) (by omega) (by decide) dX5_jumps_192 ?_
                refine lv_topi (fun x7 ex7 => ?_)
                refine lv_istore (lv' := [(7, .int x7), (6, .int x6), (5, .int x5), (0, .ref ob), (1, .int x1), (2, .int x2), (3, .int x3), (4, .int x4)]) hx hb dX5_jumps_193 hl (by decide) rfl (fun ls hl => ?_)
                have hx7 : x7 = farR (4 * u + w) := by rw [ex7, h83]
                have hy7 : x7 = nI (frN (4 * u + w)) := by rw [hx7]; exact hf9.2.1
                have hf18 : frN (4 * u + w) < 18 := hf9.1
                refine lv_aload_n hx hb dX5_jumps_195 rfl (lv_at hl 3 rfl) ?_
                refine mm_get (ci := 5) (C := RX5) (T := TX5) (N := 20) hx hb hts in_X5 hown hK hV i_ob m_ob rfl 10 (by decide) f_40 (fun _ h => h) rfl dX5_jumps_196 ?_
                refine lv_iload hx hb dX5_jumps_199 (lv_at hl 7 rfl) ?_
                refine mm_ialdN (j := dp) hx hb hK hV (hA.i 10 rfl) (show M_16 (ad 10) = .inl (dA 0, 8, .inl (Sb 10)) from hA.m 10 rfl) hx4 (by omega) (by decide) dX5_jumps_201 ?_
                refine lv_iconst (v := 1) hx hb dX5_jumps_202 (by decide) ?_
                refine lv_iload hx hb dX5_jumps_203 (lv_at hl 1 rfl) ?_
                refine lv_ishl hx hb dX5_jumps_205 ?_
                refine lv_iadd hx hb dX5_jumps_206 ?_
                refine lv_topi (fun x8 ex8 => ?_)
                refine lv_istore (lv' := [(8, .int x8), (7, .int x7), (6, .int x6), (5, .int x5), (0, .ref ob), (1, .int x1), (2, .int x2), (3, .int x3), (4, .int x4)]) hx hb dX5_jumps_207 hl (by decide) rfl (fun ls hl => ?_)
                have hx8 : x8 = T + ((1 : Int32) <<< (nearR (4 * u + w) &&& 31)) := by rw [ex8, hT3, hx6]
                refine lv_iload_n hx hb dX5_jumps_209 rfl (lv_at hl 7 rfl) ?_
                refine mm_Sp (v := (kingR x3)) (As := [.int x3]) (rest := []) ⟨hx, hb, hml, hown, hts⟩ hK hV (c_kingR l D dA x3) (va_cwS 1 hts gX5_jumps_X5_isKing rfl rfl rfl (by decide +kernel) (mm_levR hR (by omega) (by decide))) rfl hl.1 rfl (Nat.le_of_ble_eq_true rfl) dX5_jumps_210 ⟨Nat.zero_le _, Nat.zero_le _⟩ (fun H locs hV => ?_)
                refine lv_if_ne (tgt := 244) hx hb dX5_jumps_213 (by decide) (fun c213 => ?_) (fun c213 => ?_)
                · have hnc : ¬ (kingR x3 = 0 ∧ rowR (farR (4 * u + w)) = crownR (sideR x3)) := (fun h => c213 h.1)
                  rw [dfL, if_neg hg0, if_neg hl0, if_neg hnc] at hres
                  obtain ⟨Sn, hSn, hres⟩ : ∃ q, dfN p0 f0 x3 (k + 1) false (frN (4 * u + w)) (T + ((1 : Int32) <<< (nearR (4 * u + w) &&& 31))) Sp = some q ∧ (dfL p0 f0 x3 (dfN p0 f0 x3 (k + 1) false) u T mn (w + 1) true q).bind (dfE p0 f0 u T (decide (dp = 0))) = some RS := ob_bind hres
                  obtain ⟨x4_n, ex4_n⟩ : ∃ y : Int32, y = x4 + 1 := ⟨_, rfl⟩
                  refine lv_iinc (v := x4_n) (lv' := [(4, .int x4_n), (8, .int x8), (7, .int x7), (6, .int x6), (5, .int x5), (0, .ref ob), (1, .int x1), (2, .int x2), (3, .int x3)]) hx hb dX5_jumps_244 hl (k := 8) rfl (by rw [ex4_n]; rfl) (by decide) rfl (fun ls hl => ?_)
                  refine lv_aload_n hx hb dX5_jumps_247 rfl (lv_at hl 5 rfl) ?_
                  refine mm_get (ci := 5) (C := RX5) (T := TX5) (N := 20) hx hb hts in_X5 hown hK hV i_ob m_ob rfl 9 (by decide) f_37 (fun _ h => h) rfl dX5_jumps_248 ?_
                  refine lv_iload hx hb dX5_jumps_251 (lv_at hl 0 rfl) ?_
                  refine lv_iload hx hb dX5_jumps_253 (lv_at hl 2 rfl) ?_
                  refine mm_iastN (j := (dp + 1)) (x := x7) hx hb hK hV (hA.i 9 rfl) (show M_16 (ad 9) = .inl (dA 0, 8, .inl (Sb 9)) from hA.m 9 rfl) (by rw [ex4_n, hx4]; exact nI_1 dp) (by omega) (by decide) dX5_jumps_255 (fun M_17 H locs eM_17 hV => ?_)
                  obtain ⟨Sc, eSc⟩ : ∃ z, z = va_up Sb 9 (upd (Sb 9) (dp + 1) x7) := ⟨_, rfl⟩
                  have hA : rA dA L M_17 ad Sc := by rw [eSc]; exact hA.up 9 rfl eM_17
                  have m_ob : M_17 ob = rO ad pl qu so := (congrFun eM_17 ob).trans ((va_up_ne _ _ (fun h => hA0.nob 9 rfl m_ob0 h)).trans m_ob)
                  have fR : rF L ad ob M M_17 := fR.up 9 rfl eM_17
                  refine lv_aload_n hx hb dX5_jumps_256 rfl (lv_at hl 5 rfl) ?_
                  refine mm_get (ci := 5) (C := RX5) (T := TX5) (N := 20) hx hb hts in_X5 hown hK hV i_ob m_ob rfl 10 (by decide) f_40 (fun _ h => h) rfl dX5_jumps_257 ?_
                  refine lv_iload hx hb dX5_jumps_260 (lv_at hl 0 rfl) ?_
                  refine lv_iload hx hb dX5_jumps_262 (lv_at hl 1 rfl) ?_
                  refine mm_iastN (j := (dp + 1)) (x := x8) hx hb hK hV (hA.i 10 rfl) (show M_17 (ad 10) = .inl (dA 0, 8, .inl (Sc 10)) from hA.m 10 rfl) (by rw [ex4_n, hx4]; exact nI_1 dp) (by omega) (by decide) dX5_jumps_264 (fun M_18 H locs eM_18 hV => ?_)
                  obtain ⟨Sd, eSd⟩ : ∃ z, z = va_up Sc 10 (upd (Sc 10) (dp + 1) x8) := ⟨_, rfl⟩
                  have hA : rA dA L M_18 ad Sd := by rw [eSd]; exact hA.up 10 rfl eM_18
                  have m_ob : M_18 ob = rO ad pl qu so := (congrFun eM_18 ob).trans ((va_up_ne _ _ (fun h => hA0.nob 10 rfl m_ob0 h)).trans m_ob)
                  have fR : rF L ad ob M M_18 := fR.up 10 rfl eM_18
                  refine lv_aload_n hx hb dX5_jumps_265 rfl (lv_at hl 5 rfl) ?_
                  refine mm_get (ci := 5) (C := RX5) (T := TX5) (N := 20) hx hb hts in_X5 hown hK hV i_ob m_ob rfl 11 (by decide) f_43 (fun _ h => h) rfl dX5_jumps_266 ?_
                  refine lv_iload hx hb dX5_jumps_269 (lv_at hl 0 rfl) ?_
                  refine lv_iconst (v := 0) hx hb dX5_jumps_271 (by decide) ?_
                  refine mm_iastN (j := (dp + 1)) (x := 0) hx hb hK hV (hA.i 11 rfl) (show M_18 (ad 11) = .inl (dA 0, 8, .inl (Sd 11)) from hA.m 11 rfl) (by rw [ex4_n, hx4]; exact nI_1 dp) (by omega) (by decide) dX5_jumps_272 (fun M_19 H locs eM_19 hV => ?_)
                  obtain ⟨Se, eSe⟩ : ∃ z, z = va_up Sd 11 (upd (Sd 11) (dp + 1) 0) := ⟨_, rfl⟩
                  have hA : rA dA L M_19 ad Se := by rw [eSe]; exact hA.up 11 rfl eM_19
                  have m_ob : M_19 ob = rO ad pl qu so := (congrFun eM_19 ob).trans ((va_up_ne _ _ (fun h => hA0.nob 11 rfl m_ob0 h)).trans m_ob)
                  have fR : rF L ad ob M M_19 := fR.up 11 rfl eM_19
                  refine lv_aload_n hx hb dX5_jumps_273 rfl (lv_at hl 5 rfl) ?_
                  refine mm_get (ci := 5) (C := RX5) (T := TX5) (N := 20) hx hb hts in_X5 hown hK hV i_ob m_ob rfl 12 (by decide) f_46 (fun _ h => h) rfl dX5_jumps_274 ?_
                  refine lv_iload hx hb dX5_jumps_277 (lv_at hl 0 rfl) ?_
                  refine lv_iconst (v := 0) hx hb dX5_jumps_279 (by decide) ?_
                  refine mm_zastN (j := (dp + 1)) (x := 0) hx hb hK hV (hA.i 12 rfl) (show M_19 (ad 12) = .inl (dA 3, 8, .inl (Se 12)) from hA.m 12 rfl) (by rw [ex4_n, hx4]; exact nI_1 dp) (by omega) (by decide) dX5_jumps_280 (fun M_20 H locs eM_20 hV => ?_)
                  obtain ⟨Sf, eSf⟩ : ∃ z, z = va_up Se 12 (upd (Se 12) (dp + 1) (vp_nar .boolean 0)) := ⟨_, rfl⟩
                  have hA : rA dA L M_20 ad Sf := by rw [eSf]; exact hA.up 12 rfl eM_20
                  have m_ob : M_20 ob = rO ad pl qu so := (congrFun eM_20 ob).trans ((va_up_ne _ _ (fun h => hA0.nob 12 rfl m_ob0 h)).trans m_ob)
                  have fR : rF L ad ob M M_20 := fR.up 12 rfl eM_20
                  refine lv_goto (tgt := 43) hx hb dX5_jumps_281 (by decide) ?_
                  have hk9 : (∀ i, i < (dp + 1) → Sf 9 i = Sb 9 i ∧ Sf 10 i = Sb 10 i ∧ Sf 11 i = Sb 11 i ∧ Sf 12 i = Sb 12 i) := fun i hi => by
                    rw [eSf, eSe, eSd, eSc]
                    refine ⟨?_, ?_, ?_, ?_⟩
                    · rw [va_up_ne _ _ (by decide), va_up_ne _ _ (by decide), va_up_ne _ _ (by decide), va_up_self, pk_un (by omega)]
                    · rw [va_up_ne _ _ (by decide), va_up_ne _ _ (by decide), va_up_self, pk_un (by omega), va_up_ne _ _ (by decide)]
                    · rw [va_up_ne _ _ (by decide), va_up_self, pk_un (by omega), va_up_ne _ _ (by decide), va_up_ne _ _ (by decide)]
                    · rw [va_up_self, pk_un (by omega), va_up_ne _ _ (by decide), va_up_ne _ _ (by decide), va_up_ne _ _ (by decide)]
                  refine ihk 4 (dp + 1) (frN (4 * u + w)) 0 (T + ((1 : Int32) <<< (nearR (4 * u + w) &&& 31))) false Sp Sn Sf x4_n M_20 _ _ ls (by omega) rfl (by rw [ex4_n, hx4]; exact nI_1 dp) (by rw [eSf, eSe, eSd, eSc, va_up_ne _ _ (by decide), va_up_ne _ _ (by decide), va_up_ne _ _ (by decide), va_up_self, pk_us]; exact hy7) hf18 (by rw [eSf, eSe, eSd, va_up_ne _ _ (by decide), va_up_ne _ _ (by decide), va_up_self, pk_us]; exact hx8) (by rw [eSf, eSe, va_up_ne _ _ (by decide), va_up_self, pk_us]; rfl) (by rw [eSf, va_up_self, pk_us]; rfl) (by rw [eSf, eSe, eSd, eSc]; exact (((hbE.up (by omega)).up (by omega)).up (by omega)).up (by omega)) h7 h8 (by rw [show decide (dp + 1 = 0) = false by simp]; rw [dfN] at hSn; exact hSn) hV hA m_ob fR (lv_sub hl [5, 6, 7, 8, 0] rfl) (fun S2 M2 H locs ls y4 e1 e2 e3 hV hA m_ob fR hl => ?_)
                  have e4 : (∀ i, i < (dp + 1) → S2 9 i = Sb 9 i ∧ S2 10 i = Sb 10 i ∧ S2 11 i = Sb 11 i ∧ S2 12 i = Sb 12 i) := ol_tr e3 hk9
                  have e5 := e4 dp (by omega)
                  have h7n : Sn 7 = nearR := (dfN_ne hSn 7 (by decide) (by decide)).trans h7
                  have h8n : Sn 8 = farR := (dfN_ne hSn 8 (by decide) (by decide)).trans h8
                  exact ihm dp u (w + 1) T true Sn RS S2 y4 M2 H locs ls hdk (by omega) (by rw [e1]; exact pk_m1 dp) (by rw [e5.1]; exact hu3) hu18 (by rw [e5.2.1]; exact hT3) (by rw [e5.2.2.1]; exact hw3) (by rw [e5.2.2.2]; exact hc3) e2 h7n h8n hres hV hA m_ob fR hl (fun S2 M2 H locs ls y4 a1 a2 a3 => kont S2 M2 H locs ls y4 a1 a2 (ol_tr a3 (ol_tr (fun i hi => e4 i (by omega)) ho3)))
                · refine lv_iload hx hb dX5_jumps_216 (lv_at hl 1 rfl) ?_
                  refine mm_Sp (v := (rowR x7)) (As := [.int x7]) (rest := []) ⟨hx, hb, hml, hown, hts⟩ hK hV (c_rowR l D dA x7) (va_cwS 1 hts gX5_jumps_X5_rowOf rfl rfl rfl (by decide +kernel) (mm_levR hR (by omega) (by decide))) rfl hl.1 rfl (Nat.le_of_ble_eq_true rfl) dX5_jumps_218 ⟨Nat.zero_le _, Nat.zero_le _⟩ (fun H locs hV => ?_)
                  refine lv_iload_n hx hb dX5_jumps_221 rfl (lv_at hl 7 rfl) ?_
                  refine mm_Sp (v := (sideR x3)) (As := [.int x3]) (rest := [.int (rowR x7)]) ⟨hx, hb, hml, hown, hts⟩ hK hV (c_sideR l D dA x3) (va_cwS 1 hts gX5_jumps_X5_sideOf rfl rfl rfl (by decide +kernel) (mm_levR hR (by omega) (by decide))) rfl hl.1 rfl (Nat.le_of_ble_eq_true rfl) dX5_jumps_222 ⟨Nat.zero_le _, Nat.zero_le _⟩ (fun H locs hV => ?_)
                  refine mm_Sp (v := (crownR (sideR x3))) (As := [.int (sideR x3)]) (rest := [.int (rowR x7)]) ⟨hx, hb, hml, hown, hts⟩ hK hV (c_crownR l D dA (sideR x3)) (va_cwS 1 hts gX5_jumps_X5_crowning rfl rfl rfl (by decide +kernel) (mm_levR hR (by omega) (by decide))) rfl hl.1 rfl (Nat.le_of_ble_eq_true rfl) dX5_jumps_225 ⟨Nat.zero_le _, Nat.zero_le _⟩ (fun H locs hV => ?_)
                  refine lv_icmp_ne (tgt := 244) hx hb dX5_jumps_228 (by decide) (fun c228 => ?_) (fun c228 => ?_)
                  · have hnc : ¬ (kingR x3 = 0 ∧ rowR (farR (4 * u + w)) = crownR (sideR x3)) := (fun h => c228 (by rw [hx7]; exact h.2))
                    rw [dfL, if_neg hg0, if_neg hl0, if_neg hnc] at hres
                    obtain ⟨Sn, hSn, hres⟩ : ∃ q, dfN p0 f0 x3 (k + 1) false (frN (4 * u + w)) (T + ((1 : Int32) <<< (nearR (4 * u + w) &&& 31))) Sp = some q ∧ (dfL p0 f0 x3 (dfN p0 f0 x3 (k + 1) false) u T mn (w + 1) true q).bind (dfE p0 f0 u T (decide (dp = 0))) = some RS := ob_bind hres
                    obtain ⟨x4_n, ex4_n⟩ : ∃ y : Int32, y = x4 + 1 := ⟨_, rfl⟩
                    refine lv_iinc (v := x4_n) (lv' := [(4, .int x4_n), (8, .int x8), (7, .int x7), (6, .int x6), (5, .int x5), (0, .ref ob), (1, .int x1), (2, .int x2), (3, .int x3)]) hx hb dX5_jumps_244 hl (k := 8) rfl (by rw [ex4_n]; rfl) (by decide) rfl (fun ls hl => ?_)
                    refine lv_aload_n hx hb dX5_jumps_247 rfl (lv_at hl 5 rfl) ?_
                    refine mm_get (ci := 5) (C := RX5) (T := TX5) (N := 20) hx hb hts in_X5 hown hK hV i_ob m_ob rfl 9 (by decide) f_37 (fun _ h => h) rfl dX5_jumps_248 ?_
                    refine lv_iload hx hb dX5_jumps_251 (lv_at hl 0 rfl) ?_
                    refine lv_iload hx hb dX5_jumps_253 (lv_at hl 2 rfl) ?_
                    refine mm_iastN (j := (dp + 1)) (x := x7) hx hb hK hV (hA.i 9 rfl) (show M_16 (ad 9) = .inl (dA 0, 8, .inl (Sb 9)) from hA.m 9 rfl) (by rw [ex4_n, hx4]; exact nI_1 dp) (by omega) (by decide) dX5_jumps_255 (fun M_21 H locs eM_21 hV => ?_)
                    obtain ⟨Sc, eSc⟩ : ∃ z, z = va_up Sb 9 (upd (Sb 9) (dp + 1) x7) := ⟨_, rfl⟩
                    have hA : rA dA L M_21 ad Sc := by rw [eSc]; exact hA.up 9 rfl eM_21
                    have m_ob : M_21 ob = rO ad pl qu so := (congrFun eM_21 ob).trans ((va_up_ne _ _ (fun h => hA0.nob 9 rfl m_ob0 h)).trans m_ob)
                    have fR : rF L ad ob M M_21 := fR.up 9 rfl eM_21
                    refine lv_aload_n hx hb dX5_jumps_256 rfl (lv_at hl 5 rfl) ?_
                    refine mm_get (ci := 5) (C := RX5) (T := TX5) (N := 20) hx hb hts in_X5 hown hK hV i_ob m_ob rfl 10 (by decide) f_40 (fun _ h => h) rfl dX5_jumps_257 ?_
                    refine lv_iload hx hb dX5_jumps_260 (lv_at hl 0 rfl) ?_
                    refine lv_iload hx hb dX5_jumps_262 (lv_at hl 1 rfl) ?_
                    refine mm_iastN (j := (dp + 1)) (x := x8) hx hb hK hV (hA.i 10 rfl) (show M_21 (ad 10) = .inl (dA 0, 8, .inl (Sc 10)) from hA.m 10 rfl) (by rw [ex4_n, hx4]; exact nI_1 dp) (by omega) (by decide) dX5_jumps_264 (fun M_22 H locs eM_22 hV => ?_)
                    obtain ⟨Sd, eSd⟩ : ∃ z, z = va_up Sc 10 (upd (Sc 10) (dp + 1) x8) := ⟨_, rfl⟩
                    have hA : rA dA L M_22 ad Sd := by rw [eSd]; exact hA.up 10 rfl eM_22
                    have m_ob : M_22 ob = rO ad pl qu so := (congrFun eM_22 ob).trans ((va_up_ne _ _ (fun h => hA0.nob 10 rfl m_ob0 h)).trans m_ob)
                    have fR : rF L ad ob M M_22 := fR.up 10 rfl eM_22
                    refine lv_aload_n hx hb dX5_jumps_265 rfl (lv_at hl 5 rfl) ?_
                    refine mm_get (ci := 5) (C := RX5) (T := TX5) (N := 20) hx hb hts in_X5 hown hK hV i_ob m_ob rfl 11 (by decide) f_43 (fun _ h => h) rfl dX5_jumps_266 ?_
                    refine lv_iload hx hb dX5_jumps_269 (lv_at hl 0 rfl) ?_
                    refine lv_iconst (v := 0) hx hb dX5_jumps_271 (by decide) ?_
                    refine mm_iastN (j := (dp + 1)) (x := 0) hx hb hK hV (hA.i 11 rfl) (show M_22 (ad 11) = .inl (dA 0, 8, .inl (Sd 11)) from hA.m 11 rfl) (by rw [ex4_n, hx4]; exact nI_1 dp) (by omega) (by decide) dX5_jumps_272 (fun M_23 H locs eM_23 hV => ?_)
                    obtain ⟨Se, eSe⟩ : ∃ z, z = va_up Sd 11 (upd (Sd 11) (dp + 1) 0) := ⟨_, rfl⟩
                    have hA : rA dA L M_23 ad Se := by rw [eSe]; exact hA.up 11 rfl eM_23
                    have m_ob : M_23 ob = rO ad pl qu so := (congrFun eM_23 ob).trans ((va_up_ne _ _ (fun h => hA0.nob 11 rfl m_ob0 h)).trans m_ob)
                    have fR : rF L ad ob M M_23 := fR.up 11 rfl eM_23
                    refine lv_aload_n hx hb dX5_jumps_273 rfl (lv_at hl 5 rfl) ?_
                    refine mm_get (ci := 5) (C := RX5) (T := TX5) (N := 20) hx hb hts in_X5 hown hK hV i_ob m_ob rfl 12 (by decide) f_46 (fun _ h => h) rfl dX5_jumps_274 ?_
                    refine lv_iload hx hb dX5_jumps_277 (lv_at hl 0 rfl) ?_
                    refine lv_iconst (v := 0) hx hb dX5_jumps_279 (by decide) ?_
                    refine mm_zastN (j := (dp + 1)) (x := 0) hx hb hK hV (hA.i 12 rfl) (show M_23 (ad 12) = .inl (dA 3, 8, .inl (Se 12)) from hA.m 12 rfl) (by rw [ex4_n, hx4]; exact nI_1 dp) (by omega) (by decide) dX5_jumps_280 (fun M_24 H locs eM_24 hV => ?_)
                    obtain ⟨Sf, eSf⟩ : ∃ z, z = va_up Se 12 (upd (Se 12) (dp + 1) (vp_nar .boolean 0)) := ⟨_, rfl⟩
                    have hA : rA dA L M_24 ad Sf := by rw [eSf]; exact hA.up 12 rfl eM_24
                    have m_ob : M_24 ob = rO ad pl qu so := (congrFun eM_24 ob).trans ((va_up_ne _ _ (fun h => hA0.nob 12 rfl m_ob0 h)).trans m_ob)
                    have fR : rF L ad ob M M_24 := fR.up 12 rfl eM_24
                    refine lv_goto (tgt := 43) hx hb dX5_jumps_281 (by decide) ?_
                    have hk9 : (∀ i, i < (dp + 1) → Sf 9 i = Sb 9 i ∧ Sf 10 i = Sb 10 i ∧ Sf 11 i = Sb 11 i ∧ Sf 12 i = Sb 12 i) := fun i hi => by
                      rw [eSf, eSe, eSd, eSc]
                      refine ⟨?_, ?_, ?_, ?_⟩
                      · rw [va_up_ne _ _ (by decide), va_up_ne _ _ (by decide), va_up_ne _ _ (by decide), va_up_self, pk_un (by omega)]
                      · rw [va_up_ne _ _ (by decide), va_up_ne _ _ (by decide), va_up_self, pk_un (by omega), va_up_ne _ _ (by decide)]
                      · rw [va_up_ne _ _ (by decide), va_up_self, pk_un (by omega), va_up_ne _ _ (by decide), va_up_ne _ _ (by decide)]
                      · rw [va_up_self, pk_un (by omega), va_up_ne _ _ (by decide), va_up_ne _ _ (by decide), va_up_ne _ _ (by decide)]
                    refine ihk 4 (dp + 1) (frN (4 * u + w)) 0 (T + ((1 : Int32) <<< (nearR (4 * u + w) &&& 31))) false Sp Sn Sf x4_n M_24 _ _ ls (by omega) rfl (by rw [ex4_n, hx4]; exact nI_1 dp) (by rw [eSf, eSe, eSd, eSc, va_up_ne _ _ (by decide), va_up_ne _ _ (by decide), va_up_ne _ _ (by decide), va_up_self, pk_us]; exact hy7) hf18 (by rw [eSf, eSe, eSd, va_up_ne _ _ (by decide), va_up_ne _ _ (by decide), va_up_self, pk_us]; exact hx8) (by rw [eSf, eSe, va_up_ne _ _ (by decide), va_up_self, pk_us]; rfl) (by rw [eSf, va_up_self, pk_us]; rfl) (by rw [eSf, eSe, eSd, eSc]; exact (((hbE.up (by omega)).up (by omega)).up (by omega)).up (by omega)) h7 h8 (by rw [show decide (dp + 1 = 0) = false by simp]; rw [dfN] at hSn; exact hSn) hV hA m_ob fR (lv_sub hl [5, 6, 7, 8, 0] rfl) (fun S2 M2 H locs ls y4 e1 e2 e3 hV hA m_ob fR hl => ?_)
                    have e4 : (∀ i, i < (dp + 1) → S2 9 i = Sb 9 i ∧ S2 10 i = Sb 10 i ∧ S2 11 i = Sb 11 i ∧ S2 12 i = Sb 12 i) := ol_tr e3 hk9
                    have e5 := e4 dp (by omega)
                    have h7n : Sn 7 = nearR := (dfN_ne hSn 7 (by decide) (by decide)).trans h7
                    have h8n : Sn 8 = farR := (dfN_ne hSn 8 (by decide) (by decide)).trans h8
                    exact ihm dp u (w + 1) T true Sn RS S2 y4 M2 H locs ls hdk (by omega) (by rw [e1]; exact pk_m1 dp) (by rw [e5.1]; exact hu3) hu18 (by rw [e5.2.1]; exact hT3) (by rw [e5.2.2.1]; exact hw3) (by rw [e5.2.2.2]; exact hc3) e2 h7n h8n hres hV hA m_ob fR hl (fun S2 M2 H locs ls y4 a1 a2 a3 => kont S2 M2 H locs ls y4 a1 a2 (ol_tr a3 (ol_tr (fun i hi => e4 i (by omega)) ho3)))
                  · have hcr : kingR x3 = 0 ∧ rowR (farR (4 * u + w)) = crownR (sideR x3) := ⟨c213, by rw [← hx7]; exact c228⟩
                    rw [dfL, if_neg hg0, if_neg hl0, if_pos hcr] at hres
                    obtain ⟨Sn, hSn, hres⟩ : ∃ q, noteO p0 Sp (keyR (nI f0) (farR (4 * u + w)) (T + ((1 : Int32) <<< (nearR (4 * u + w) &&& 31)))) = some q ∧ (dfL p0 f0 x3 (dfN p0 f0 x3 (k + 1) false) u T mn (w + 1) true q).bind (dfE p0 f0 u T (decide (dp = 0))) = some RS := ob_bind hres
                    obtain ⟨n9, hc8, hn9, hSn⟩ := noteO_some hSn
                    have hc9 : Sb 3 p0 = nI n9 := by rw [hbE 3 (by decide) (by decide) (by decide) (by decide)]; exact hc8
                    refine lv_aload_n hx hb dX5_jumps_231 rfl (lv_at hl 4 rfl) ?_
                    refine lv_iload_n hx hb dX5_jumps_232 rfl (lv_at hl 5 rfl) ?_
                    refine lv_iload_n hx hb dX5_jumps_233 rfl (lv_at hl 6 rfl) ?_
                    refine lv_iload hx hb dX5_jumps_234 (lv_at hl 1 rfl) ?_
                    refine lv_iload hx hb dX5_jumps_236 (lv_at hl 0 rfl) ?_
                    refine mm_Vm (ci := 5) (As := [.int x1, .int x2, .int x7, .int x8]) (rest := []) ⟨hx, hb, hml, hown, hts⟩ hK hV (c_noteR l D dA (p0 := p0) (n := n9) x1 x2 x7 x8 i_ob m_ob hA hp hp6 hc9 hn9) (cwV 4 hts gX5_jumps_X5_note rfl rfl rfl (by decide +kernel) (mm_levR hR (by omega) (by decide))) i_ob m_ob rfl rfl hl.1 rfl (Nat.le_of_ble_eq_true rfl) dX5_jumps_238 ⟨Nat.zero_le _, Nat.zero_le _⟩ (fun M_25 H locs hp hV => ?_)
                    obtain ⟨hA, m_ob, fR9⟩ := hp
                    have fR : rF L ad ob M M_25 := fR.tr fR9
                    obtain ⟨S_26, eS_26⟩ : ∃ z, z = noteR Sb p0 n9 (keyR x2 x7 x8) := ⟨_, rfl⟩
                    rw [← eS_26] at hA
                    refine lv_goto (tgt := 281) hx hb dX5_jumps_241 (by decide) ?_
                    refine lv_goto (tgt := 43) hx hb dX5_jumps_281 (by decide) ?_
                    have hE9 : EqL S_26 Sn := by rw [eS_26, hSn, hx8, hx7, hf]; exact hbE.note
                    have k9 : ∀ k, k ≠ 2 → k ≠ 3 → S_26 k = Sb k := fun k a b => by rw [eS_26]; exact noteR_ne a b
                    exact ihm dp u (w + 1) T true Sn RS S_26 x4 M_25 _ _ ls hdk (by omega) hx4 (by rw [k9 9 (by decide) (by decide)]; exact hu3) hu18 (by rw [k9 10 (by decide) (by decide)]; exact hT3) (by rw [k9 11 (by decide) (by decide)]; exact hw3) (by rw [k9 12 (by decide) (by decide)]; exact hc3) hE9 (by rw [hSn, noteR_ne (by decide) (by decide)]; exact h7) (by rw [hSn, noteR_ne (by decide) (by decide)]; exact h8) hres hV hA m_ob fR (lv_sub hl [4, 5, 6, 7, 8] rfl) (fun S2 M2 H locs ls y4 e1 e2 e3 => kont S2 M2 H locs ls y4 e1 e2 (ol_tr e3 (fun i hi => by rw [k9 9 (by decide) (by decide), k9 10 (by decide) (by decide), k9 11 (by decide) (by decide), k9 12 (by decide) (by decide)]; exact ho3 i hi)))
          · exact absurd (show nI w = 4 by rw [← hx5]; exact c71) (fun h => by have := (nI_eq (a := w) (b := 4) (by omega) (by decide)).mp h; omega)
  have hkk : EqL S S := fun _ _ _ _ _ => rfl
  have hk0 : EqL S4 S := by rw [eS4, eS3, eS2, eS1a]; exact (((hkk.up (by omega)).up (by omega)).up (by omega)).up (by omega)
  refine ND 7 4 0 f0 0 0 false S RS S4 x4 M_4 H locs ls rfl rfl (by rw [ex4]; rfl) (by rw [eS4, eS3, eS2, eS1a, va_up_ne _ _ (by decide), va_up_ne _ _ (by decide), va_up_ne _ _ (by decide), va_up_self, pk_us]; exact hf) hf18 (by rw [eS4, eS3, eS2, va_up_ne _ _ (by decide), va_up_ne _ _ (by decide), va_up_self, pk_us]) (by rw [eS4, eS3, va_up_ne _ _ (by decide), va_up_self, pk_us]; rfl) (by rw [eS4, va_up_self, pk_us]; rfl) hk0 h7 h8 (by rw [ex3]; exact hjm) hV hA m_ob fR (lv_sub hl [2, 3, 4, 1, 0] rfl) (fun S2 M2 H locs ls y4 e1 e2 _ hV hA m_ob fR hl => ?_)
  refine lv_iload hx hb dX5_jumps_43 (lv_at hl 4 rfl) ?_
  refine lv_if_lt (tgt := 284) hx hb dX5_jumps_45 (by decide) (fun c45 => ?_) (fun c45 => ?_)
  · exact hret dX5_jumps_284 hV (by decide) (by decide) ⟨rfl, S2, e2, hA, m_ob, fR⟩
  · exact absurd (by rw [e1]; decide) c45
