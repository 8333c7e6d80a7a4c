def ngL (rc : Ps → Int32) (P : Ps) : Nat → Nat → Int32 → Int32
  | 0, _, t => t
  | k + 1, i, t => ngL rc P k (i + 1) (if -(rc (followP P (mvA P i))) ≤ t then t else -(rc (followP P (mvA P i))))
def ng : Nat → Ps → Int32
  | 0, P => aoR 0 P
  | d + 1, P => if oneP P = 0 then (if mvN P = 0 then -1000 else ngL (ng d) P (mvN P) 0 (-9999)) else wgE P
theorem ao_ng0 (P : Ps) : aoR 0 P = ng 0 P := rfl
theorem ao_ngS {d : Nat} {P : Ps} (h : ¬ (oneP P = 0 ∧ ¬ mvN P = 0)) : aoR (d + 1) P = ng (d + 1) P := by
  rw [ng]
  unfold aoR
  by_cases ho : oneP P = 0
  · have hn : mvN P = 0 := Decidable.byContradiction (fun hn => h ⟨ho, hn⟩)
    rw [if_pos ho, if_pos ho, if_pos hn, if_pos hn]
  · rw [if_neg ho, if_neg ho]
theorem ao_deep {d : Nat} {P : Ps} (ho : oneP P = 0) (hn : ¬ mvN P = 0) : aoR (d + 1) P = -9999 := by
  unfold aoR
  rw [if_pos ho, if_neg hn, if_neg (by omega)]
def NgSem (WF : Ps → Prop) : Prop := ∀ d P, WF P → ¬ ng d P = -9999
theorem mk_EqB {S : Nat → Nat → Int32} {p f t : Nat} {key : Int32} : EqB p (makeR S p key f t) S := by
  refine ⟨fun i hi => ?_, fun i hi => ?_, fun i _ => by rw [makeR_ne (by decide) (by decide)], fun k a b i _ => by rw [makeR_ne (by omega) (by omega)], makeR_ne (by decide) (by decide), makeR_ne (by decide) (by decide), makeR_ne (by decide) (by decide), makeR_ne (by decide) (by decide)⟩
  · unfold makeR; rw [va_up_ne _ _ (by decide), va_up_self]; unfold mkB; rw [pk_un (by omega), pk_un (by omega), filG_lo (by omega)]
  · unfold makeR; rw [va_up_self, pk_un (by omega)]
theorem up_EqB {S S1 : Nat → Nat → Int32} {p j k : Nat} {v : Int32} (hk : 3 ≤ k) (hk6 : k ≤ 6) (hj : p ≤ j) (e : S1 = va_up S k (upd (S k) j v)) : EqB p S1 S := by
  subst e
  refine ⟨fun i _ => by rw [va_up_ne _ _ (by omega)], fun i _ => by rw [va_up_ne _ _ (by omega)], fun i _ => by rw [va_up_ne _ _ (by omega)], fun q a b i hi => ?_, va_up_ne _ _ (by omega), va_up_ne _ _ (by omega), va_up_ne _ _ (by omega), va_up_ne _ _ (by omega)⟩
  by_cases hq : q = k
  · subst hq; rw [va_up_self, pk_un (by omega)]
  · rw [va_up_ne _ _ hq]
theorem kOK.eq {KT : Nat → Int32} {so : Int32} {A B : Nat → Nat → Int32} (h : kOK KT so B) (h8 : A 18 = B 18) (h9 : A 19 = B 19) : kOK KT so A := by unfold kOK; rw [h8, h9]; exact h

set_option maxHeartbeats 1000000 in
set_option maxRecDepth 100000 in
theorem c_searchR (l : Launch) (D : va_G) (dA : Nat → ClassId) {L : List Nat} {M : mm_M} {ob : Nat} {ad : Nat → Nat} {S : Nat → Nat → Int32} {pl qu so : Int32} {P : Ps} {WF : Ps → Prop} {KT : Nat → Int32} {fu : Nat} {p0 d0 : Nat} (x1 x2 : Int32) (i_ob : ob ∈ L) (m_ob : M ob = rO ad pl qu so) (hA : rA dA L M ad S) (h7 : S 7 = nearR) (h8 : S 8 = farR) (hko : kOK KT so S) (hFT : rgR (FTi 2592)) (hslv : slvR (FTi 2592) fu 1 (K0i 2592) = some KT) (hp : x1 = nI p0) (hp6 : p0 < 6) (GS : GenSem WF) (hrow : rowOK S p0 P) (hwf : WF P) (ES : EndSem WF KT) (MT : MatSem WF) (MS : MakeSem WF) (wf2 : ∀ P, WF P → ∀ i, i < mvN P → WF (followP P (mvA P i))) (NG : NgSem WF) (hd : x2 = nI d0) (hpd : p0 + d0 ≤ 5) : mm_Cn l D dA yX5_search wsX5_search 6 [.ref ob, .int x1, .int x2] L M (fun r M1 => r = ng d0 P ∧ ∃ S1 so1, EqB p0 S1 S ∧ kOK KT so1 S1 ∧ rA dA L M1 ad S1 ∧ M1 ob = rO ad pl qu so1 ∧ rF L ad ob M M1) := by
  have hA0 := hA
  have m_ob0 := m_ob
  have fR : rF L ad ob M M := rF.rf
  refine mm_enter_i (cc := cX5_search) (maxL := 5) (by decide) rfl (Nat.le_of_ble_eq_true rfl) ?_
  intro p e R s m args below meth c A ls H locs Q hR hx hb hml hin hown hts hK hV hl hret
  have hl : lv_has ls 5 [(0, .ref ob), (1, .int x1), (2, .int x2)] := hl
  have hown : s.vm.findClass RX5 = some m.cls := hown
  have f_22 := hts (.fieldLink RX5 22 "JumpBoardModel" "left" "[I") (by decide +kernel)
  have in_X5 : ∀ w ∈ wsX50, w ∈ wsX5_search := by decide +kernel
  have f_25 := hts (.fieldLink RX5 25 "JumpBoardModel" "index" "[I") (by decide +kernel)
  have f_28 := hts (.fieldLink RX5 28 "JumpBoardModel" "top" "[I") (by decide +kernel)
  have f_19 := hts (.fieldLink RX5 19 "JumpBoardModel" "count" "[I") (by decide +kernel)
  refine lv_iload_n hx hb dX5_search_0 rfl (lv_at hl 1 rfl) ?_
  refine lv_istore_n (lv' := [(3, .int x1), (0, .ref ob), (1, .int x1), (2, .int x2)]) hx hb dX5_search_1 rfl hl (by decide) rfl (fun ls hl => ?_)
  refine lv_aload_n hx hb dX5_search_2 rfl (lv_at hl 1 rfl) ?_
  refine mm_get (ci := 5) (C := RX5) (T := TX5) (N := 20) hx hb hts in_X5 hown hK hV i_ob m_ob rfl 4 (by decide) f_22 (fun _ h => h) rfl dX5_search_3 ?_
  refine lv_iload_n hx hb dX5_search_6 rfl (lv_at hl 0 rfl) ?_
  refine lv_iload_n hx hb dX5_search_7 rfl (lv_at hl 3 rfl) ?_
  refine mm_iastN (j := p0) (x := x2) hx hb hK hV (hA.i 4 rfl) (show M (ad 4) = .inl (dA 0, 6, .inl (S 4)) from hA.m 4 rfl) hp (by omega) (by decide) dX5_search_8 (fun M_1 H locs eM_1 hV => ?_)
  obtain ⟨Sa, eSa⟩ : ∃ z, z = va_up S 4 (upd (S 4) p0 x2) := ⟨_, rfl⟩
  have hA : rA dA L M_1 ad Sa := by rw [eSa]; exact hA.up 4 rfl eM_1
  have m_ob : M_1 ob = rO ad pl qu so := (congrFun eM_1 ob).trans ((va_up_ne _ _ (fun h => hA0.nob 4 rfl m_ob0 h)).trans m_ob)
  have fR : rF L ad ob M M_1 := fR.up 4 rfl eM_1
  have hBa : EqB p0 Sa S := up_EqB (by decide) (by decide) (Nat.le_refl _) eSa
  have hra : rowOK Sa p0 P := hBa.row (Nat.le_refl _) hrow
  have h4a : Sa 4 p0 = nI d0 := by rw [eSa, va_up_self, pk_us]; exact hd
  have h7a : Sa 7 = nearR := by rw [hBa.2.2.2.2.1]; exact h7
  have h8a : Sa 8 = farR := by rw [hBa.2.2.2.2.2.1]; exact h8
  have hka : kOK KT so Sa := hko.eq (by rw [eSa, va_up_ne _ _ (by decide)]) (by rw [eSa, va_up_ne _ _ (by decide)])
  refine lv_aload_n hx hb dX5_search_9 rfl (lv_at hl 1 rfl) ?_
  refine lv_iload_n hx hb dX5_search_10 rfl (lv_at hl 0 rfl) ?_
  refine mm_Vn (ci := 5) (As := [.int x1]) (rest := []) ⟨hx, hb, hml, hown, hts⟩ hK hV (c_entR l D dA (p0 := p0) (d := d0) (P := P) x1 i_ob m_ob hA h7a h8a hka hFT hslv hp hp6 GS hra hwf ES MT h4a (by omega)) (cwV 1 hts gX5_search_X5_enter rfl rfl rfl (by decide +kernel) (mm_levR hR (by omega) (by decide))) i_ob m_ob rfl rfl hl.1 rfl (Nat.le_of_ble_eq_true rfl) dX5_search_11 ⟨Nat.zero_le _, Nat.zero_le _⟩ (fun r9 M_2 H locs hp9 hV => ?_)
  obtain ⟨er9, S2, so2, hB2, h42, h52, h62, hl2, hk2, hA, m_ob, fR9⟩ := hp9
  have fR : rF L ad ob M M_2 := fR.tr fR9
  refine lv_istore (lv' := [(4, .int r9), (3, .int x1), (0, .ref ob), (1, .int x1), (2, .int x2)]) hx hb dX5_search_14 hl (by decide) rfl (fun ls hl => ?_)
  have CH : ∀ (d pp : Nat) (Pn : Ps) (x3 x4 : Int32) (so1 : Int32) (S1 : Nat → Nat → Int32) (M1 : mm_M) (H : Heap) (locs : List Loc) (ls : Array Slot), p0 ≤ pp → pp + d ≤ 5 → x3 = nI pp → x4 = aoR d Pn → WF Pn → rowOK S1 pp Pn → (oneP Pn = 0 → lstOK S1 pp Pn) → S1 4 pp = nI d → S1 5 pp = 0 → S1 6 pp = -9999 → S1 7 = nearR → S1 8 = farR → kOK KT so1 S1 → mm_V A D L M1 s H locs → rA dA L M1 ad S1 → M1 ob = rO ad pl qu so1 → rF L ad ob M M1 → lv_has ls 5 [(0, .ref ob), (1, .int x1), (3, .int x3), (4, .int x4)] → (∀ (S2 : Nat → Nat → Int32) (M2 : mm_M) (H : Heap) (locs : List Loc) (ls : Array Slot) (y4 so2 : Int32), y4 = ng d Pn → EqB pp S2 S1 → kOK KT so2 S2 → mm_V A D L M2 s H locs → rA dA L M2 ad S2 → M2 ob = rO ad pl qu so2 → rF L ad ob M M2 → lv_has ls 5 [(0, .ref ob), (1, .int x1), (3, .int x3), (4, .int y4)] → W p l e R s m args below meth c H locs 0 0 Q (F0 m 16 ls [])) → W p l e R s m args below meth c H locs 0 0 Q (F0 m 16 ls []) := by
    intro d
    induction d with
    | zero =>
      intro pp Pn x3 x4 so1 S1 M1 H locs ls hpp hd5 hx3 hx4 hwn hrn hln h4 h5 h6 h7n h8n hkn hV hA m_ob fR hl kont
      exact kont S1 M1 H locs ls x4 so1 hx4 EqB.rf hkn hV hA m_ob fR hl
    | succ d ihd =>
      intro pp Pn x3 x4 so0 S0 M0 H locs ls hpp hd5 hx3 hx4 hwn hrn hln h4 h5 h6 h7n h8n hkn hV hA m_ob fR hl kont
      by_cases hdp : ¬ (oneP Pn = 0 ∧ ¬ mvN Pn = 0)
      · exact kont S0 M0 H locs ls x4 so0 (hx4.trans (ao_ngS hdp)) EqB.rf hkn hV hA m_ob fR hl
      have hdp := Decidable.not_not.mp hdp
      have hn72 := mvN_le Pn
      have hng : ng (d + 1) Pn = ngL (ng d) Pn (mvN Pn) 0 (-9999) := by rw [ng, if_pos hdp.1, if_neg hdp.2]
      have LP : ∀ (k i : Nat) (t x4 : Int32) (so1 : Int32) (S1 : Nat → Nat → Int32) (M1 : mm_M) (H : Heap) (locs : List Loc) (ls : Array Slot), mvN Pn - i ≤ k → i < mvN Pn → x4 = -9999 → rowOK S1 pp Pn → lstOK S1 pp Pn → S1 4 pp = nI (d + 1) → S1 5 pp = nI i → S1 6 pp = t → S1 7 = nearR → S1 8 = farR → kOK KT so1 S1 → ngL (ng d) Pn (mvN Pn - i) i t = ng (d + 1) Pn → EqB pp S1 S0 → mm_V A D L M1 s H locs → rA dA L M1 ad S1 → M1 ob = rO ad pl qu so1 → rF L ad ob M M1 → lv_has ls 5 [(0, .ref ob), (1, .int x1), (3, .int x3), (4, .int x4)] → W p l e R s m args below meth c H locs 0 0 Q (F0 m 16 ls []) := by
        intro k
        induction k with
        | zero => intro i t x4 so1 S1 M1 H locs ls hik hi; omega
        | succ k ihk =>
          intro i t x4 so1 S1 M1 H locs ls hik hi hx4 hrn hln h4 h5 h6 h7n h8n hkn hres hB0 hV hA m_ob fR hl
          have K29 : W p l e R s m args below meth c H locs 0 0 Q (F0 m 29 ls []) := by
            refine lv_iload hx hb dX5_search_29 (lv_at hl 3 rfl) ?_
            refine lv_sipush (v := (-9999)) hx hb dX5_search_31 (by decide) ?_
            refine lv_icmp_ne (tgt := 77) hx hb dX5_search_34 (by decide) (fun c34 => ?_) (fun c34 => ?_)
            · exact absurd hx4 c34
            · refine lv_aload_n hx hb dX5_search_37 rfl (lv_at hl 0 rfl) ?_
              refine lv_iload_n hx hb dX5_search_38 rfl (lv_at hl 2 rfl) ?_
              refine lv_aload_n hx hb dX5_search_39 rfl (lv_at hl 0 rfl) ?_
              refine mm_get (ci := 5) (C := RX5) (T := TX5) (N := 20) hx hb hts in_X5 hown hK hV i_ob m_ob rfl 5 (by decide) f_25 (fun _ h => h) rfl dX5_search_40 ?_
              refine lv_iload_n hx hb dX5_search_43 rfl (lv_at hl 2 rfl) ?_
              refine mm_ialdN (j := pp) hx hb hK hV (hA.i 5 rfl) (show M1 (ad 5) = .inl (dA 0, 6, .inl (S1 5)) from hA.m 5 rfl) hx3 (by omega) (by decide) dX5_search_44 ?_
              obtain ⟨f8, t8, hf1, hf2, ht1, ht2, hrm⟩ := MS S1 pp Pn i hrn hwn hi
              have hk8 := hln.2 i hi
              refine mm_Vm (ci := 5) (As := [.int x3, .int ((S1 5) pp)]) (rest := []) ⟨hx, hb, hml, hown, hts⟩ hK hV (c_makeR l D dA (p0 := pp) (i0 := i) (f0 := f8) (t0 := t8) x3 (S1 5 pp) i_ob m_ob hA hx3 (by omega) h5 (by omega) (by rw [hk8]; exact hf1) hf2 (by rw [hk8]; exact ht1) ht2) (cwV 2 hts gX5_search_X5_make rfl rfl rfl (by decide +kernel) (mm_levR hR (by omega) (by decide))) i_ob m_ob rfl rfl hl.1 rfl (Nat.le_of_ble_eq_true rfl) dX5_search_45 ⟨Nat.zero_le _, Nat.zero_le _⟩ (fun M_3 H locs hp hV => ?_)
              obtain ⟨hA, m_ob, fR9⟩ := hp
              have fR : rF L ad ob M M_3 := fR.tr fR9
              obtain ⟨Sm, eSm⟩ : ∃ z, z = makeR S1 pp (S1 2 (80 * pp + i)) f8 t8 := ⟨_, rfl⟩
              rw [← eSm] at hA
              rw [hk8] at eSm
              rw [← eSm] at hrm
              have hBm : EqB pp Sm S1 := by rw [eSm]; exact mk_EqB
              have hmn : ∀ q, q ≠ 0 → q ≠ 1 → Sm q = S1 q := fun q a b => by rw [eSm]; exact makeR_ne a b
              refine lv_aload_n hx hb dX5_search_48 rfl (lv_at hl 0 rfl) ?_
              refine mm_get (ci := 5) (C := RX5) (T := TX5) (N := 20) hx hb hts in_X5 hown hK hV i_ob m_ob rfl 4 (by decide) f_22 (fun _ h => h) rfl dX5_search_49 ?_
              refine lv_iload_n hx hb dX5_search_52 rfl (lv_at hl 2 rfl) ?_
              refine lv_iconst (v := 1) hx hb dX5_search_53 (by decide) ?_
              refine lv_iadd hx hb dX5_search_54 ?_
              refine lv_aload_n hx hb dX5_search_55 rfl (lv_at hl 0 rfl) ?_
              refine mm_get (ci := 5) (C := RX5) (T := TX5) (N := 20) hx hb hts in_X5 hown hK hV i_ob m_ob rfl 4 (by decide) f_22 (fun _ h => h) rfl dX5_search_56 ?_
              refine lv_iload_n hx hb dX5_search_59 rfl (lv_at hl 2 rfl) ?_
              refine mm_ialdN (j := pp) hx hb hK hV (hA.i 4 rfl) (show M_3 (ad 4) = .inl (dA 0, 6, .inl (Sm 4)) from hA.m 4 rfl) hx3 (by omega) (by decide) dX5_search_60 ?_
              refine lv_iconst (v := 1) hx hb dX5_search_61 (by decide) ?_
              refine lv_isub hx hb dX5_search_62 ?_
              refine lv_topi (fun vl evl => ?_)
              refine mm_iastN (j := (pp + 1)) (x := vl) hx hb hK hV (hA.i 4 rfl) (show M_3 (ad 4) = .inl (dA 0, 6, .inl (Sm 4)) from hA.m 4 rfl) (addN hx3 (a := 1) rfl) (by omega) (by decide) dX5_search_63 (fun M_4 H locs eM_4 hV => ?_)
              obtain ⟨Sl, eSl⟩ : ∃ z, z = va_up Sm 4 (upd (Sm 4) (pp + 1) vl) := ⟨_, rfl⟩
              have hA : rA dA L M_4 ad Sl := by rw [eSl]; exact hA.up 4 rfl eM_4
              have m_ob : M_4 ob = rO ad pl qu so1 := (congrFun eM_4 ob).trans ((va_up_ne _ _ (fun h => hA0.nob 4 rfl m_ob0 h)).trans m_ob)
              have fR : rF L ad ob M M_4 := fR.up 4 rfl eM_4
              have hvl : vl = nI d := by rw [evl, hmn 4 (by decide) (by decide), h4]; exact nI_pred d
              have hBl : EqB (pp + 1) Sl Sm := up_EqB (by decide) (by decide) (Nat.le_refl _) eSl
              have hrl : rowOK Sl (pp + 1) (followP Pn (mvA Pn i)) := hBl.row (Nat.le_refl _) hrm
              have hwl : WF (followP Pn (mvA Pn i)) := wf2 Pn hwn i hi
              have h7l : Sl 7 = nearR := by rw [hBl.2.2.2.2.1, hmn 7 (by decide) (by decide)]; exact h7n
              have h8l : Sl 8 = farR := by rw [hBl.2.2.2.2.2.1, hmn 8 (by decide) (by decide)]; exact h8n
              have hkl : kOK KT so1 Sl := hkn.eq (by rw [eSl, va_up_ne _ _ (by decide), hmn 18 (by decide) (by decide)]) (by rw [eSl, va_up_ne _ _ (by decide), hmn 19 (by decide) (by decide)])
              have h4l : Sl 4 (pp + 1) = nI d := by rw [eSl, va_up_self, pk_us, hvl]
              obtain ⟨x3_n, ex3_n⟩ : ∃ y : Int32, y = x3 + 1 := ⟨_, rfl⟩
              refine lv_iinc (v := x3_n) (lv' := [(3, .int x3_n), (0, .ref ob), (1, .int x1), (4, .int x4)]) hx hb dX5_search_64 hl (k := 2) rfl (by rw [ex3_n]; rfl) (by decide) rfl (fun ls hl => ?_)
              have hx3n : x3_n = nI (pp + 1) := by rw [ex3_n, hx3]; exact nI_1 pp
              refine lv_aload_n hx hb dX5_search_67 rfl (lv_at hl 1 rfl) ?_
              refine lv_iload_n hx hb dX5_search_68 rfl (lv_at hl 0 rfl) ?_
              refine mm_Vn (ci := 5) (As := [.int x3_n]) (rest := []) ⟨hx, hb, hml, hown, hts⟩ hK hV (c_entR l D dA (p0 := pp + 1) (d := d) (P := followP Pn (mvA Pn i)) x3_n i_ob m_ob hA h7l h8l hkl hFT hslv hx3n (by omega) GS hrl hwl ES MT h4l (by omega)) (cwV 1 hts gX5_search_X5_enter rfl rfl rfl (by decide +kernel) (mm_levR hR (by omega) (by decide))) i_ob m_ob rfl rfl hl.1 rfl (Nat.le_of_ble_eq_true rfl) dX5_search_69 ⟨Nat.zero_le _, Nat.zero_le _⟩ (fun r9 M_5 H locs hp9 hV => ?_)
              obtain ⟨er9, Se, so2, hBe, h4e, h5e, h6e, hle, hke, hA, m_ob, fR9⟩ := hp9
              have fR : rF L ad ob M M_5 := fR.tr fR9
              refine lv_istore (lv' := [(4, .int r9), (3, .int x3_n), (0, .ref ob), (1, .int x1)]) hx hb dX5_search_72 hl (by decide) rfl (fun ls hl => ?_)
              refine lv_goto (tgt := 16) hx hb dX5_search_74 (by decide) ?_
              refine ihd (pp + 1) (followP Pn (mvA Pn i)) x3_n r9 so2 Se M_5 _ _ ls (by omega) (by omega) hx3n er9 hwl (hBe.row (Nat.le_refl _) hrl) hle (by rw [h4e]; exact h4l) h5e h6e (by rw [hBe.2.2.2.2.1]; exact h7l) (by rw [hBe.2.2.2.2.2.1]; exact h8l) hke hV hA m_ob fR (lv_sub hl [2, 3, 1, 0] rfl) (fun S3 M3 H locs ls y4 so3 e1 e2 hk3 hV hA m_ob fR hl => ?_)
              have hB3 : EqB (pp + 1) S3 Sm := (e2.tr hBe).tr hBl
              have hp3 : ∀ q, 3 ≤ q → q ≤ 6 → S3 q pp = S1 q pp := fun q a b => (hB3.2.2.2.1 q a b pp (by omega)).trans (by rw [hmn q (by omega) (by omega)])
              have hr3 : rowOK S3 pp Pn := (hB3.le (by omega)).row (Nat.le_refl _) (hBm.row (Nat.le_refl _) hrn)
              have hl3 : lstOK S3 pp Pn := hB3.lst (by omega) ⟨by rw [hmn 3 (by decide) (by decide)]; exact hln.1, fun q hq => by rw [hmn 2 (by decide) (by decide)]; exact hln.2 q hq⟩
              have hy9 : ¬ y4 = -9999 := by rw [e1]; exact NG d _ hwl
              refine lv_iload_n hx hb dX5_search_16 rfl (lv_at hl 2 rfl) ?_
              refine lv_iload_n hx hb dX5_search_17 rfl (lv_at hl 1 rfl) ?_
              refine lv_icmp_gt (tgt := 29) hx hb dX5_search_18 (by decide) (fun c18 => ?_) (fun c18 => ?_)
              · refine lv_iload hx hb dX5_search_29 (lv_at hl 3 rfl) ?_
                refine lv_sipush (v := (-9999)) hx hb dX5_search_31 (by decide) ?_
                refine lv_icmp_ne (tgt := 77) hx hb dX5_search_34 (by decide) (fun c34 => ?_) (fun c34 => ?_)
                · obtain ⟨x3_m, ex3_m⟩ : ∃ y : Int32, y = x3_n + (-1) := ⟨_, rfl⟩
                  refine lv_iinc (v := x3_m) (lv' := [(3, .int x3_m), (0, .ref ob), (1, .int x1), (4, .int y4)]) hx hb dX5_search_77 hl (k := 2) rfl (by rw [ex3_m]; rfl) (by decide) rfl (fun ls hl => ?_)
                  have hx3m : x3_m = nI pp := by rw [ex3_m, hx3n]; exact pk_m1 pp
                  refine lv_aload_n hx hb dX5_search_80 rfl (lv_at hl 1 rfl) ?_
                  refine mm_get (ci := 5) (C := RX5) (T := TX5) (N := 20) hx hb hts in_X5 hown hK hV i_ob m_ob rfl 6 (by decide) f_28 (fun _ h => h) rfl dX5_search_81 ?_
                  refine lv_iload_n hx hb dX5_search_84 rfl (lv_at hl 0 rfl) ?_
                  refine lv_iload hx hb dX5_search_85 (lv_at hl 3 rfl) ?_
                  refine lv_ineg hx hb dX5_search_87 ?_
                  refine lv_aload_n hx hb dX5_search_88 rfl (lv_at hl 1 rfl) ?_
                  refine mm_get (ci := 5) (C := RX5) (T := TX5) (N := 20) hx hb hts in_X5 hown hK hV i_ob m_ob rfl 6 (by decide) f_28 (fun _ h => h) rfl dX5_search_89 ?_
                  refine lv_iload_n hx hb dX5_search_92 rfl (lv_at hl 0 rfl) ?_
                  refine mm_ialdN (j := pp) hx hb hK hV (hA.i 6 rfl) (show M3 (ad 6) = .inl (dA 0, 6, .inl (S3 6)) from hA.m 6 rfl) hx3m (by omega) (by decide) dX5_search_93 ?_
                  have J109 : ∀ (v109 : Int32), v109 = (if (-y4) ≤ (S3 6) pp then ((S3 6) pp) else (-y4)) → W p l e R s m args below meth c H locs 0 0 Q (F0 m 109 ls [.int v109, .int x3_m, .ref (ad 6)]) := by
                    intro v109 ev109
                    refine mm_iastN (j := pp) (x := v109) hx hb hK hV (hA.i 6 rfl) (show M3 (ad 6) = .inl (dA 0, 6, .inl (S3 6)) from hA.m 6 rfl) hx3m (by omega) (by decide) dX5_search_109 (fun M_6 H locs eM_6 hV => ?_)
                    obtain ⟨St, eSt⟩ : ∃ z, z = va_up S3 6 (upd (S3 6) pp v109) := ⟨_, rfl⟩
                    have hA : rA dA L M_6 ad St := by rw [eSt]; exact hA.up 6 rfl eM_6
                    have m_ob : M_6 ob = rO ad pl qu so3 := (congrFun eM_6 ob).trans ((va_up_ne _ _ (fun h => hA0.nob 6 rfl m_ob0 h)).trans m_ob)
                    have fR : rF L ad ob M M_6 := fR.up 6 rfl eM_6
                    refine lv_aload_n hx hb dX5_search_110 rfl (lv_at hl 1 rfl) ?_
                    refine mm_get (ci := 5) (C := RX5) (T := TX5) (N := 20) hx hb hts in_X5 hown hK hV i_ob m_ob rfl 5 (by decide) f_25 (fun _ h => h) rfl dX5_search_111 ?_
                    refine lv_iload_n hx hb dX5_search_114 rfl (lv_at hl 0 rfl) ?_
                    refine lv_dup2_11 hx hb dX5_search_115 rfl rfl ?_
                    refine mm_ialdN (j := pp) hx hb hK hV (hA.i 5 rfl) (show M_6 (ad 5) = .inl (dA 0, 6, .inl (St 5)) from hA.m 5 rfl) hx3m (by omega) (by decide) dX5_search_116 ?_
                    refine lv_iconst (v := 1) hx hb dX5_search_117 (by decide) ?_
                    refine lv_iadd hx hb dX5_search_118 ?_
                    refine lv_topi (fun vi evi => ?_)
                    refine mm_iastN (j := pp) (x := vi) hx hb hK hV (hA.i 5 rfl) (show M_6 (ad 5) = .inl (dA 0, 6, .inl (St 5)) from hA.m 5 rfl) hx3m (by omega) (by decide) dX5_search_119 (fun M_7 H locs eM_7 hV => ?_)
                    obtain ⟨Si, eSi⟩ : ∃ z, z = va_up St 5 (upd (St 5) pp vi) := ⟨_, rfl⟩
                    have hA : rA dA L M_7 ad Si := by rw [eSi]; exact hA.up 5 rfl eM_7
                    have m_ob : M_7 ob = rO ad pl qu so3 := (congrFun eM_7 ob).trans ((va_up_ne _ _ (fun h => hA0.nob 5 rfl m_ob0 h)).trans m_ob)
                    have fR : rF L ad ob M M_7 := fR.up 5 rfl eM_7
                    have hvi : vi = nI (i + 1) := by rw [evi, eSt, va_up_ne _ _ (by decide), hp3 5 (by decide) (by decide), h5]; exact nI_1 i
                    have hSi5 : Si 5 pp = nI (i + 1) := by rw [eSi, va_up_self, pk_us, hvi]
                    have hSi6 : Si 6 pp = v109 := by rw [eSi, va_up_ne _ _ (by decide), eSt, va_up_self, pk_us]
                    have hBi : EqB pp Si S3 := (up_EqB (by decide) (by decide) (Nat.le_refl _) eSi).tr (up_EqB (by decide) (by decide) (Nat.le_refl _) eSt)
                    have hin : ∀ q, q ≠ 5 → q ≠ 6 → Si q = S3 q := fun q a b => by rw [eSi, va_up_ne _ _ a, eSt, va_up_ne _ _ b]
                    have hv9 : v109 = (if -(ng d (followP Pn (mvA Pn i))) ≤ t then t else -(ng d (followP Pn (mvA Pn i)))) := by rw [ev109, hp3 6 (by decide) (by decide), h6, e1]
                    refine lv_aload_n hx hb dX5_search_120 rfl (lv_at hl 1 rfl) ?_
                    refine mm_get (ci := 5) (C := RX5) (T := TX5) (N := 20) hx hb hts in_X5 hown hK hV i_ob m_ob rfl 5 (by decide) f_25 (fun _ h => h) rfl dX5_search_121 ?_
                    refine lv_iload_n hx hb dX5_search_124 rfl (lv_at hl 0 rfl) ?_
                    refine mm_ialdN (j := pp) hx hb hK hV (hA.i 5 rfl) (show M_7 (ad 5) = .inl (dA 0, 6, .inl (Si 5)) from hA.m 5 rfl) hx3m (by omega) (by decide) dX5_search_125 ?_
                    refine lv_aload_n hx hb dX5_search_126 rfl (lv_at hl 1 rfl) ?_
                    refine mm_get (ci := 5) (C := RX5) (T := TX5) (N := 20) hx hb hts in_X5 hown hK hV i_ob m_ob rfl 3 (by decide) f_19 (fun _ h => h) rfl dX5_search_127 ?_
                    refine lv_iload_n hx hb dX5_search_130 rfl (lv_at hl 0 rfl) ?_
                    refine mm_ialdN (j := pp) hx hb hK hV (hA.i 3 rfl) (show M_7 (ad 3) = .inl (dA 0, 6, .inl (Si 3)) from hA.m 3 rfl) hx3m (by omega) (by decide) dX5_search_131 ?_
                    have J147 : ∀ (v147 : Int32), v147 = (if (Si 3) pp ≤ (Si 5) pp then ((Si 6) pp) else (-9999)) → W p l e R s m args below meth c H locs 0 0 Q (F0 m 147 ls [.int v147]) := by
                      intro v147 ev147
                      refine lv_istore (lv' := [(4, .int v147), (3, .int x3_m), (0, .ref ob), (1, .int x1)]) hx hb dX5_search_147 hl (by decide) rfl (fun ls hl => ?_)
                      refine lv_goto (tgt := 16) hx hb dX5_search_149 (by decide) ?_
                      have hv7 : v147 = (if nI (mvN Pn) ≤ nI (i + 1) then v109 else -9999) := by rw [ev147, hin 3 (by decide) (by decide), hl3.1, hSi5, hSi6]
                      have hBf : EqB pp Si S0 := ((hBi.tr (hB3.le (by omega))).tr hBm).tr hB0
                      have hkf : kOK KT so3 Si := hk3.eq (hin 18 (by decide) (by decide)) (hin 19 (by decide) (by decide))
                      have hl : lv_has ls 5 [(0, .ref ob), (1, .int x1), (3, .int x3), (4, .int v147)] := by rw [show x3 = x3_m by rw [hx3m]; exact hx3]; exact lv_sub hl [2, 3, 1, 0] rfl
                      by_cases hlast : i + 1 < mvN Pn
                      · exact ihk (i + 1) v109 v147 so3 Si M_7 _ _ ls (by omega) hlast (by rw [hv7, if_neg (nI_ge hlast (by omega))]) (hBi.row (Nat.le_refl _) hr3) ⟨by rw [hin 3 (by decide) (by decide)]; exact hl3.1, fun q hq => by rw [hin 2 (by decide) (by decide)]; exact hl3.2 q hq⟩ (by rw [hin 4 (by decide) (by decide), hp3 4 (by decide) (by decide)]; exact h4) hSi5 hSi6 (by rw [hBi.2.2.2.2.1, hB3.2.2.2.2.1, hmn 7 (by decide) (by decide)]; exact h7n) (by rw [hBi.2.2.2.2.2.1, hB3.2.2.2.2.2.1, hmn 8 (by decide) (by decide)]; exact h8n) hkf (by rw [← hres, hv9, show mvN Pn - i = (mvN Pn - (i + 1)) + 1 by omega]; rfl) hBf hV hA m_ob fR hl
                      · exact kont Si M_7 _ _ ls v147 so3 (by rw [hv7, if_pos (nI_le (by omega) (by omega)), ← hres, hv9, show mvN Pn - i = 0 + 1 by omega]; rfl) hBf hkf hV hA m_ob fR hl
                    refine lv_icmp_ge (tgt := 141) hx hb dX5_search_132 (by decide) (fun c132 => ?_) (fun c132 => ?_)
                    · refine lv_aload_n hx hb dX5_search_141 rfl (lv_at hl 1 rfl) ?_
                      refine mm_get (ci := 5) (C := RX5) (T := TX5) (N := 20) hx hb hts in_X5 hown hK hV i_ob m_ob rfl 6 (by decide) f_28 (fun _ h => h) rfl dX5_search_142 ?_
                      refine lv_iload_n hx hb dX5_search_145 rfl (lv_at hl 0 rfl) ?_
                      refine mm_ialdN (j := pp) hx hb hK hV (hA.i 6 rfl) (show M_7 (ad 6) = .inl (dA 0, 6, .inl (Si 6)) from hA.m 6 rfl) hx3m (by omega) (by decide) dX5_search_146 ?_
                      exact J147 _ (by rw [if_pos c132])
                    · refine lv_sipush (v := (-9999)) hx hb dX5_search_135 (by decide) ?_
                      refine lv_goto (tgt := 147) hx hb dX5_search_138 (by decide) ?_
                      exact J147 _ (by rw [if_neg c132])
                  refine lv_icmp_le (tgt := 103) hx hb dX5_search_94 (by decide) (fun c94 => ?_) (fun c94 => ?_)
                  · refine lv_aload_n hx hb dX5_search_103 rfl (lv_at hl 1 rfl) ?_
                    refine mm_get (ci := 5) (C := RX5) (T := TX5) (N := 20) hx hb hts in_X5 hown hK hV i_ob m_ob rfl 6 (by decide) f_28 (fun _ h => h) rfl dX5_search_104 ?_
                    refine lv_iload_n hx hb dX5_search_107 rfl (lv_at hl 0 rfl) ?_
                    refine mm_ialdN (j := pp) hx hb hK hV (hA.i 6 rfl) (show M3 (ad 6) = .inl (dA 0, 6, .inl (S3 6)) from hA.m 6 rfl) hx3m (by omega) (by decide) dX5_search_108 ?_
                    exact J109 _ (by rw [if_pos c94])
                  · refine lv_iload hx hb dX5_search_97 (lv_at hl 3 rfl) ?_
                    refine lv_ineg hx hb dX5_search_99 ?_
                    refine lv_goto (tgt := 109) hx hb dX5_search_100 (by decide) ?_
                    exact J109 _ (by rw [if_neg c94])
                · exact absurd c34 hy9
              · exact absurd (by rw [hx3n, hp]; exact nI_lt (by omega) (by omega)) c18
          refine lv_iload_n hx hb dX5_search_16 rfl (lv_at hl 2 rfl) ?_
          refine lv_iload_n hx hb dX5_search_17 rfl (lv_at hl 1 rfl) ?_
          refine lv_icmp_gt (tgt := 29) hx hb dX5_search_18 (by decide) (fun c18 => ?_) (fun c18 => ?_)
          · exact K29
          · refine lv_iload hx hb dX5_search_21 (lv_at hl 3 rfl) ?_
            refine lv_sipush (v := (-9999)) hx hb dX5_search_23 (by decide) ?_
            refine lv_icmp_ne (tgt := 152) hx hb dX5_search_26 (by decide) (fun c26 => ?_) (fun c26 => ?_)
            · exact absurd hx4 c26
            · exact K29
      exact LP (mvN Pn) 0 (-9999) x4 so0 S0 M0 H locs ls (Nat.le_of_eq (Nat.sub_zero _)) (Nat.pos_of_ne_zero hdp.2) (hx4.trans (ao_deep hdp.1 hdp.2)) hrn (hln hdp.1) h4 (by rw [h5]; rfl) h6 h7n h8n hkn hng.symm EqB.rf hV hA m_ob fR hl
  refine CH d0 p0 P x1 r9 so2 S2 M_2 _ _ ls (Nat.le_refl _) hpd hp er9 hwf (hB2.row (Nat.le_refl _) hra) hl2 (by rw [h42]; exact h4a) h52 h62 (by rw [hB2.2.2.2.2.1]; exact h7a) (by rw [hB2.2.2.2.2.2.1]; exact h8a) hk2 hV hA m_ob fR (lv_sub hl [2, 3, 1, 0] rfl) (fun S3 M3 H locs ls y4 so3 e1 e2 hk3 hV hA m_ob fR hl => ?_)
  refine lv_iload_n hx hb dX5_search_16 rfl (lv_at hl 2 rfl) ?_
  refine lv_iload_n hx hb dX5_search_17 rfl (lv_at hl 1 rfl) ?_
  refine lv_icmp_gt (tgt := 29) hx hb dX5_search_18 (by decide) (fun c18 => ?_) (fun c18 => ?_)
  · exact absurd c18 (fun h => Int32.lt_irrefl h)
  · refine lv_iload hx hb dX5_search_21 (lv_at hl 3 rfl) ?_
    refine lv_sipush (v := (-9999)) hx hb dX5_search_23 (by decide) ?_
    refine lv_icmp_ne (tgt := 152) hx hb dX5_search_26 (by decide) (fun c26 => ?_) (fun c26 => ?_)
    · refine lv_iload hx hb dX5_search_152 (lv_at hl 3 rfl) ?_
      exact hret (v := y4) dX5_search_154 hV (by decide) (by decide) ⟨rfl, e1, S3, so3, (e2.tr hB2).tr hBa, hk3, hA, m_ob, fR⟩
    · exact absurd c26 (by rw [e1]; exact NG d0 P hwf)

def valVR (P : Ps) (x : Int32) : Int32 := if x < 0 then -2000 else if x ≤ 4 then ng x.toNatClampNeg P else -2000

set_option maxHeartbeats 1000000 in
set_option maxRecDepth 100000 in
theorem c_valueR (l : Launch) (D : va_G) (dA : Nat → ClassId) {L : List Nat} {M : mm_M} {ob : Nat} {ad : Nat → Nat} {S : Nat → Nat → Int32} {pl qu so : Int32} {P : Ps} {WF : Ps → Prop} {KT : Nat → Int32} {fu : Nat} (x1 : Int32) (i_ob : ob ∈ L) (m_ob : M ob = rO ad pl qu so) (hA : rA dA L M ad S) (h7 : S 7 = nearR) (h8 : S 8 = farR) (hko : kOK KT so S) (hFT : rgR (FTi 2592)) (hslv : slvR (FTi 2592) fu 1 (K0i 2592) = some KT) (GS : GenSem WF) (hrow : rowOK S 0 P) (hwf : WF P) (ES : EndSem WF KT) (MT : MatSem WF) (MS : MakeSem WF) (wf2 : ∀ P, WF P → ∀ i, i < mvN P → WF (followP P (mvA P i))) (NG : NgSem WF) : mm_Cn l D dA yX5_value wsX5_value 7 [.ref ob, .int x1] L M (fun r M1 => r = valVR P x1 ∧ ∃ S1 so1, EqB 0 S1 S ∧ kOK KT so1 S1 ∧ rA dA L M1 ad S1 ∧ M1 ob = rO ad pl qu so1 ∧ rF L ad ob M M1) := by
  have hA0 := hA
  have m_ob0 := m_ob
  have fR : rF L ad ob M M := rF.rf
  refine mm_enter_i (cc := cX5_value) (maxL := 2) (by decide) rfl (Nat.le_of_ble_eq_true rfl) ?_
  intro p e R s m args below meth c A ls H locs Q hR hx hb hml hin hown hts hK hV hl hret
  have hl : lv_has ls 2 [(0, .ref ob), (1, .int x1)] := hl
  have hown : s.vm.findClass RX5 = some m.cls := hown
  refine lv_iload_n hx hb dX5_value_0 rfl (lv_at hl 1 rfl) ?_
  refine lv_if_lt (tgt := 9) hx hb dX5_value_1 (by decide) (fun c1 => ?_) (fun c1 => ?_)
  · refine lv_sipush (v := (-2000)) hx hb dX5_value_9 (by decide) ?_
    refine lv_goto (tgt := 21) hx hb dX5_value_12 (by decide) ?_
    exact hret (v := (-2000)) dX5_value_21 hV (by decide) (by decide) ⟨rfl, by unfold valVR; rw [if_pos c1], S, so, EqB.rf, hko, hA, m_ob, fR⟩
  · obtain ⟨i, hi31, hxi⟩ := nI_of c1
    refine lv_iload_n hx hb dX5_value_4 rfl (lv_at hl 1 rfl) ?_
    refine lv_iconst (v := 4) hx hb dX5_value_5 (by decide) ?_
    refine lv_icmp_le (tgt := 15) hx hb dX5_value_6 (by decide) (fun c6 => ?_) (fun c6 => ?_)
    · have hi4 : i ≤ 4 := (nI_leI hi31 (by decide)).mp (by rw [← hxi]; exact c6)
      refine lv_aload_n hx hb dX5_value_15 rfl (lv_at hl 0 rfl) ?_
      refine lv_iconst (v := 0) hx hb dX5_value_16 (by decide) ?_
      refine lv_iload_n hx hb dX5_value_17 rfl (lv_at hl 1 rfl) ?_
      refine mm_Vn (ci := 5) (As := [.int 0, .int x1]) (rest := []) ⟨hx, hb, hml, hown, hts⟩ hK hV (c_searchR l D dA (p0 := 0) (d0 := i) (P := P) 0 x1 i_ob m_ob hA h7 h8 hko hFT hslv rfl (by decide) GS hrow hwf ES MT MS wf2 NG hxi (by omega)) (cwV 2 hts gX5_value_X5_search rfl rfl rfl (by decide +kernel) (mm_levR hR (by omega) (by decide))) i_ob m_ob rfl rfl hl.1 rfl (Nat.le_of_ble_eq_true rfl) dX5_value_18 ⟨Nat.zero_le _, Nat.zero_le _⟩ (fun r9 M_1 H locs hp9 hV => ?_)
      obtain ⟨er9, S2, so2, hB2, hk2, hA, m_ob, fR9⟩ := hp9
      have fR : rF L ad ob M M_1 := fR.tr fR9
      exact hret (v := r9) dX5_value_21 hV (by decide) (by decide) ⟨rfl, by unfold valVR; rw [if_neg c1, if_pos c6, hxi, nI_clamp hi31]; exact er9, S2, so2, hB2, hk2, hA, m_ob, fR⟩
    · refine lv_sipush (v := (-2000)) hx hb dX5_value_9 (by decide) ?_
      refine lv_goto (tgt := 21) hx hb dX5_value_12 (by decide) ?_
      exact hret (v := (-2000)) dX5_value_21 hV (by decide) (by decide) ⟨rfl, by unfold valVR; rw [if_neg c1, if_neg c6], S, so, EqB.rf, hko, hA, m_ob, fR⟩
