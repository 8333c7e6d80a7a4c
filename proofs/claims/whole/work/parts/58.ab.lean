/-! the search within bounds and the search without them -/
theorem ti_neg {x : Int32} (h1 : -3000 ≤ x.toInt) (h2 : x.toInt ≤ 3000) : (-x).toInt = -x.toInt := by
  rw [Int32.toInt_neg]
  exact Int.bmod_eq_of_le (by omega) (by omega)
theorem ti_le {x y : Int32} : x ≤ y ↔ x.toInt ≤ y.toInt := Int32.le_iff_toInt_le
theorem ti_lt {x y : Int32} : x < y ↔ x.toInt < y.toInt := Int32.lt_iff_toInt_lt
theorem bal_b {P : Ps} (hP : WFp P) : -1000 ≤ (balP P).toInt ∧ (balP P).toInt ≤ 1000 := by
  have ho := own_18 hP
  unfold balP
  rw [bitC_cnt ho.1, bitC_cnt ho.2, bitC_cnt (b18_and ho.1), bitC_cnt (b18_and ho.2), show (2 : Int32) = nI 2 from rfl, pk_mul, pk_mul, nI_add, nI_add]
  have a := cnt_le (bt (ownP P)) 18
  have b := cnt_le (bt (othP P)) 18
  have c := cnt_le (bt (ownP P &&& P.2.2.1)) 18
  have d := cnt_le (bt (othP P &&& P.2.2.1)) 18
  rw [pk_sub_toInt (by omega) (by omega)]
  omega
theorem ngL_b {rc : Ps → Int32} {P : Ps} (hrc : ∀ i, i < mvN P → -1000 ≤ (rc (followP P (mvA P i))).toInt ∧ (rc (followP P (mvA P i))).toInt ≤ 1000) : ∀ k i t, i + k ≤ mvN P → t.toInt ≤ 1000 → t.toInt ≤ (ngL rc P k i t).toInt ∧ (ngL rc P k i t).toInt ≤ 1000 ∧ (0 < k → -1000 ≤ (ngL rc P k i t).toInt)
  | 0, i, t, _, h => by
    unfold ngL
    exact ⟨by omega, h, fun c => by omega⟩
  | k + 1, i, t, hk, h => by
    have hr := hrc i (by omega)
    have hn := ti_neg (x := rc (followP P (mvA P i))) (by omega) (by omega)
    unfold ngL
    by_cases hc : -(rc (followP P (mvA P i))) ≤ t
    · rw [if_pos hc]
      have hc' := ti_le.mp hc
      have ih := ngL_b hrc k (i + 1) t (by omega) h
      exact ⟨ih.1, ih.2.1, fun _ => by omega⟩
    · rw [if_neg hc]
      have hc' : ¬ (-(rc (followP P (mvA P i)))).toInt ≤ t.toInt := fun c => hc (ti_le.mpr c)
      have ih := ngL_b hrc k (i + 1) (-(rc (followP P (mvA P i)))) (by omega) (by omega)
      exact ⟨by omega, ih.2.1, fun _ => by omega⟩
theorem ng_b : ∀ d P, WFp P → -1000 ≤ (ng d P).toInt ∧ (ng d P).toInt ≤ 1000
  | 0, P, hP => by
    unfold ng aoR
    by_cases h1 : oneP P = 0
    · rw [if_pos h1]
      by_cases h2 : mvN P = 0
      · rw [if_pos h2]; decide
      · rw [if_neg h2, if_pos rfl]; exact bal_b hP
    · rw [if_neg h1]; exact wgE_b hP h1
  | d + 1, P, hP => by
    unfold ng
    by_cases h1 : oneP P = 0
    · rw [if_pos h1]
      by_cases h2 : mvN P = 0
      · rw [if_pos h2]; decide
      · rw [if_neg h2]
        have := ngL_b (rc := ng d) (P := P) (fun i hi => ng_b d _ (wf_next P hP i hi)) (mvN P) 0 (-9999) (by omega) (by decide)
        exact ⟨this.2.2 (by omega), this.2.1⟩
    · rw [if_neg h1]; exact wgE_b hP h1
theorem ng_sem : NgSem WFp := by
  intro d P hP e
  have := ng_b d P hP
  rw [e] at this
  exact absurd this.1 (by decide)
def abR (lo hi v r : Int) : Prop := (v ≤ lo → r ≤ lo) ∧ (hi ≤ v → hi ≤ r) ∧ (lo < v → v < hi → r = v) ∧ -2000 ≤ r ∧ r ≤ 2000
theorem abR_x {lo hi v : Int} (h1 : -2000 ≤ v) (h2 : v ≤ 2000) : abR lo hi v v := ⟨fun h => h, fun h => h, fun _ _ => rfl, h1, h2⟩
theorem abR_b {lo hi v : Int} (h : -1000 ≤ v ∧ v ≤ 1000) : abR lo hi v v := abR_x (by omega) (by omega)
theorem wgL_ab {rc : Ps → Int32 → Int32 → Bool → Int32 × Bool} {rn : Ps → Int32} {P : Ps} {hi : Int32} {lo : Int} (hlo : -2000 ≤ lo) (hlh : lo < hi.toInt) (hhi : hi.toInt ≤ 2000) (hb : ∀ i, i < mvN P → -1000 ≤ (rn (followP P (mvA P i))).toInt ∧ (rn (followP P (mvA P i))).toInt ≤ 1000) (hrc : ∀ i, i < mvN P → ∀ l h e, -2000 ≤ l.toInt → l.toInt < h.toInt → h.toInt ≤ 2000 → abR l.toInt h.toInt (rn (followP P (mvA P i))).toInt (rc (followP P (mvA P i)) l h e).1.toInt) : ∀ k i g t e, i + k ≤ mvN P → lo ≤ g.toInt → g.toInt ≤ 2000 → t.toInt ≤ 1000 → (t.toInt < hi.toInt → g.toInt = max lo t.toInt) → (hi.toInt ≤ t.toInt → hi.toInt ≤ g.toInt) → lo ≤ (wgL rc P hi k i g e).1.toInt ∧ (wgL rc P hi k i g e).1.toInt ≤ 2000 ∧ ((ngL rn P k i t).toInt < hi.toInt → (wgL rc P hi k i g e).1.toInt = max lo (ngL rn P k i t).toInt) ∧ (hi.toInt ≤ (ngL rn P k i t).toInt → hi.toInt ≤ (wgL rc P hi k i g e).1.toInt)
  | 0, i, g, t, e, _, h1, h2, _, h3, h4 => ⟨h1, h2, h3, h4⟩
  | k + 1, i, g, t, e, hk, h1, h2, ht, h3, h4 => by
    unfold wgL
    by_cases hc : hi ≤ g
    · rw [if_pos hc]
      have hc' := ti_le.mp hc
      have hm := ngL_b (rc := rn) (P := P) hb (k + 1) i t hk ht
      have : hi.toInt ≤ t.toInt := by
        rcases Int.lt_or_le t.toInt hi.toInt with q | q
        · have := h3 q; omega
        · exact q
      exact ⟨h1, h2, fun c => by omega, fun _ => hc'⟩
    · rw [if_neg hc]
      have hc' : g.toInt < hi.toInt := by
        rcases Int.lt_or_le g.toInt hi.toInt with q | q
        · exact q
        · exact absurd (ti_le.mpr q) hc
      have hth : t.toInt < hi.toInt := by
        rcases Int.lt_or_le t.toInt hi.toInt with q | q
        · exact q
        · have := h4 q; omega
      have hg := h3 hth
      have hbi := hb i (by omega)
      have nhi := ti_neg (x := hi) (by omega) (by omega)
      have ngg := ti_neg (x := g) (by omega) (by omega)
      have ab := hrc i (by omega) (-hi) (-g) e (by omega) (by omega) (by omega)
      obtain ⟨r, er⟩ : ∃ z, z = rc (followP P (mvA P i)) (-hi) (-g) e := ⟨_, rfl⟩
      rw [← er] at ab ⊢
      unfold abR at ab
      rw [nhi, ngg] at ab
      have nr := ti_neg (x := r.1) (by omega) (by omega)
      have nc := ti_neg (x := rn (followP P (mvA P i))) (by omega) (by omega)
      obtain ⟨c, ec⟩ : ∃ z, z = (rn (followP P (mvA P i))).toInt := ⟨_, rfl⟩
      rw [← ec] at ab nc hbi
      have hng : ngL rn P (k + 1) i t = ngL rn P k (i + 1) (if -(rn (followP P (mvA P i))) ≤ t then t else -(rn (followP P (mvA P i)))) := rfl
      rw [hng]
      have hG : (if g < -r.1 then -r.1 else g).toInt = max g.toInt (-r.1.toInt) := by
        by_cases q1 : g < -r.1
        · have q1' := ti_lt.mp q1
          rw [if_pos q1]; omega
        · have q1' : ¬ g.toInt < (-r.1).toInt := fun z => q1 (ti_lt.mpr z)
          rw [if_neg q1]; omega
      have hT : (if -(rn (followP P (mvA P i))) ≤ t then t else -(rn (followP P (mvA P i)))).toInt = max t.toInt (-c) := by
        by_cases q2 : -(rn (followP P (mvA P i))) ≤ t
        · have q2' := ti_le.mp q2
          rw [if_pos q2]; omega
        · have q2' : ¬ (-(rn (followP P (mvA P i)))).toInt ≤ t.toInt := fun z => q2 (ti_le.mpr z)
          rw [if_neg q2]; omega
      refine wgL_ab hlo hlh hhi hb hrc k (i + 1) _ _ _ (by omega) ?_ ?_ ?_ ?_ ?_
      · rw [hG]; omega
      · rw [hG]; omega
      · rw [hT]; omega
      · rw [hG, hT]; omega
      · rw [hG, hT]; omega
theorem wg_ab : ∀ d P lo hi e, WFp P → -2000 ≤ lo.toInt → lo.toInt < hi.toInt → hi.toInt ≤ 2000 → abR lo.toInt hi.toInt (ng d P).toInt (wg d P lo hi e).1.toInt
  | 0, P, lo, hi, e, hP, h1, h2, h3 => by
    have hb := ng_b 0 P hP
    have he : (wg 0 P lo hi e).1 = ng 0 P := by
      unfold wg ng aoR
      by_cases h1 : oneP P = 0
      · rw [if_pos h1, if_pos h1]
        by_cases h2 : mvN P = 0
        · rw [if_pos h2]; show (if canM P = 0 then (-1000 : Int32) else balP P) = -1000; rw [if_pos ((can_mv hP.mo).mpr h2)]
        · rw [if_neg h2, if_pos rfl]; show (if canM P = 0 then (-1000 : Int32) else balP P) = balP P; rw [if_neg (fun c => h2 ((can_mv hP.mo).mp c))]
      · rw [if_neg h1, if_neg h1]
    rw [he]; exact abR_x (by omega) (by omega)
  | d + 1, P, lo, hi, e, hP, h1, h2, h3 => by
    have hb := ng_b (d + 1) P hP
    unfold wg
    by_cases h4 : oneP P = 0
    · rw [if_pos h4]
      by_cases h5 : mvN P = 0
      · rw [if_pos h5]
        have : ng (d + 1) P = -1000 := by unfold ng; rw [if_pos h4, if_pos h5]
        rw [this]; exact abR_x (by decide) (by decide)
      · rw [if_neg h5]
        have hn : ng (d + 1) P = ngL (ng d) P (mvN P) 0 (-9999) := by
          rw [show ng (d + 1) P = (if oneP P = 0 then (if mvN P = 0 then -1000 else ngL (ng d) P (mvN P) 0 (-9999)) else wgE P) from rfl, if_pos h4, if_neg h5]
        have m9 : (-9999 : Int32).toInt = -9999 := by decide +kernel
        have := wgL_ab (rc := wg d) (rn := ng d) (P := P) (hi := hi) (lo := lo.toInt) h1 h2 h3 (fun i hi => ng_b d _ (wf_next P hP i hi)) (fun i hi l h e a b c => wg_ab d _ l h e (wf_next P hP i hi) a b c) (mvN P) 0 lo (-9999) e (by omega) (by omega) (by omega) (by rw [m9]; omega) (fun _ => by rw [m9]; omega) (fun c => by rw [m9] at c; omega)
        rw [← hn] at this
        unfold abR
        refine ⟨fun c => ?_, this.2.2.2, fun c1 c2 => ?_, by omega, by omega⟩
        · have := this.2.2.1 (by omega); omega
        · have := this.2.2.1 c2; omega
    · rw [if_neg h4]
      have hE : ng (d + 1) P = wgE P := by rw [ng, if_neg h4]
      generalize wgE P = w at *
      rw [hE] at hb
      rw [hE]
      exact abR_b hb
theorem val_eq {P : Ps} (hP : WFp P) (x : Int32) (e : Bool) : (valV P x e).1 = valVR P x := by
  unfold valV valVR isDpF
  by_cases h1 : x < 0
  · rw [if_pos h1, if_pos rfl, if_pos h1]
  · rw [if_neg h1, if_neg h1]
    by_cases h2 : 4 < x
    · rw [if_pos h2, if_pos rfl, if_neg (fun c => absurd h2 (Int32.not_lt.mpr c))]
    · rw [if_neg h2, if_neg (show ¬ (1 : Int32) = 0 by decide), if_pos (Int32.not_lt.mp h2)]
      have := wg_ab x.toNatClampNeg P (-2000) 2000 e hP (by decide) (by decide) (by decide)
      have hb := ng_b x.toNatClampNeg P hP
      have l : (-2000 : Int32).toInt = -2000 := by decide
      have u : (2000 : Int32).toInt = 2000 := by decide
      rw [l, u] at this
      unfold abR at this
      exact Int32.toInt_inj.mp (this.2.2.1 (by omega) (by omega))
theorem mv72 (P : Ps) : (mvL P).length ≤ 72 := by
  have a := insL_le (l := JC P) (X := [])
  have b := (JC_ok P).2
  have c := insL_le (l := SC P) (X := [])
  have f := (SC_ok P).2
  simp only [List.length_nil] at a c
  unfold mvL
  split <;> omega
theorem bs_eq {d : Nat} {P : Ps} (hP : WFp P) : ∀ k i le ch e, i + k ≤ mvN P → -1000 ≤ le.toInt → le.toInt ≤ 2000 → (ch < 0 → le.toInt = 2000) → (bsL d P k i le ch e).1 = bsRL d P k i ch le
  | 0, i, le, ch, e, _, _, _, _ => rfl
  | k + 1, i, le, ch, e, hk, h1, h2, h3 => by
    unfold bsL bsRL
    have hw := wf_next P hP i (by omega)
    have hb := ng_b d _ hw
    have l : (-2000 : Int32).toInt = -2000 := by decide
    have ab := wg_ab d (followP P (mvA P i)) (-2000) le e hw (by decide) (by omega) h2
    rw [l] at ab
    unfold abR at ab
    have hni : ¬ nI i < 0 := nI_pos (by have := (mv_len hP.mo).1; have := mv72 P; omega)
    by_cases hlt : (ng d (followP P (mvA P i))).toInt < le.toInt
    · have hr : (wg d (followP P (mvA P i)) (-2000) le e).1 = ng d (followP P (mvA P i)) := Int32.toInt_inj.mp (ab.2.2.1 (by omega) hlt)
      have hnle : ¬ le ≤ ng d (followP P (mvA P i)) := fun c => by have := ti_le.mp c; omega
      rw [hr, if_neg hnle]
      have goal := bs_eq (d := d) hP k (i + 1) (ng d (followP P (mvA P i))) (nI i) (wg d (followP P (mvA P i)) (-2000) le e).2 (by omega) (by omega) (by omega) (fun c => absurd c hni)
      by_cases hc : ch < 0
      · rw [if_pos hc]; exact goal
      · rw [if_neg hc, if_neg hnle]; exact goal
    · have hge : le ≤ (wg d (followP P (mvA P i)) (-2000) le e).1 := ti_le.mpr (ab.2.1 (by omega))
      have hle : le ≤ ng d (followP P (mvA P i)) := ti_le.mpr (by omega)
      have hc : ¬ ch < 0 := fun c => by have := h3 c; omega
      rw [if_pos hge, if_neg hc, if_pos hle]
      exact bs_eq hP k (i + 1) le ch _ (by omega) h1 h2 h3
theorem best_eq {P : Ps} (hP : WFp P) (x : Int32) (e : Bool) : (bestV P x e).1 = bestVR P x := by
  unfold bestV bestVR isDpF
  by_cases h1 : x < 1
  · rw [if_pos h1, if_pos h1]
  · rw [if_neg h1, if_neg h1]
    have h0 : ¬ x < 0 := fun c => h1 (by
      have := ti_lt.mp c
      refine ti_lt.mpr ?_
      have z : (0 : Int32).toInt = 0 := by decide
      have o : (1 : Int32).toInt = 1 := by decide
      omega)
    rw [if_neg h0]
    by_cases h2 : 4 < x
    · rw [if_pos h2, if_pos rfl, if_pos h2]
    · rw [if_neg h2, if_neg (show ¬ (1 : Int32) = 0 by decide), if_neg h2]
      by_cases h3 : mvN P = 0
      · rw [if_pos h3, h3]; rfl
      · rw [if_neg h3]
        obtain ⟨n, hn⟩ : ∃ n, mvN P = n + 1 := ⟨mvN P - 1, by omega⟩
        rw [bs_eq hP (mvN P) 0 2000 (-1) e (by omega) (by decide) (by decide) (fun _ => by decide), hn]
        unfold bsRL
        rw [if_pos (by decide), if_pos (by decide)]
theorem ways_eq (P : Ps) (x : Int32) : waysV P x = waysVR P x := by
  unfold waysV waysVR isDpF
  by_cases h1 : x < 0
  · rw [if_pos h1, if_pos rfl, if_pos h1]
  · rw [if_neg h1, if_neg h1]
    by_cases h2 : 4 < x
    · rw [if_pos h2, if_pos rfl, if_neg (fun c => absurd h2 (Int32.not_lt.mpr c))]
    · rw [if_neg h2, if_neg (show ¬ (1 : Int32) = 0 by decide), if_pos (Int32.not_lt.mp h2)]
theorem verd_eq (P : Ps) (e : Bool) : (verdV P e).1 = verdVR P := by
  unfold verdV verdVR
  by_cases h : oneP P = 0
  · rw [if_pos h, if_pos h]
  · rw [if_neg h, if_neg h]
