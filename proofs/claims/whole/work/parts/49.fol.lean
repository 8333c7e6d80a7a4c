theorem fol_wf {P : Ps} {m : Nat} (hP : WFp P) (h : mvOK P m) : WFp (followP P (nI (cc m))) := by
  have ho := cd_of h.ok
  rcases hP.mo with hm | hm
  · have F := fun j (hj : j < 32) => fol_w h hm hj
    have ow : bt P.1 (cF m) = true := by rw [← ((own_bits _).1 hm).1]; exact h.ow
    have tk : ∀ j, j < 18 → (cT m).testBit j = true → bt P.2.1 j = true := fun j hj ht => by rw [← ((own_bits _).1 hm).2]; exact h.tk j hj ht
    refine ⟨fun j h1 h2 => ?_, fun j h1 h2 => ?_, fun j h1 h2 => ?_, fun j hj hw => ?_, fun j hj hk => ?_, fun j h1 h2 hw => ?_, fun j h1 hb => ?_, ?_⟩
    · rw [(F j h2).1, hP.w j h1 h2, decide_eq_false (show ¬ j = cG m by omega)]; rfl
    · rw [(F j h2).2.1, hP.b j h1 h2]; rfl
    · rw [(F j h2).2.2.1, hP.k j h1 h2, decide_eq_false (show ¬ j = cG m by omega)]; rfl
    · rw [(F j (by omega)).1] at hw
      rw [(F j (by omega)).2.1]
      by_cases e : j = cG m
      · have hb : bt P.2.1 j = false := by
          rcases h.go with g | g
          · rw [e, g]; exact hP.dj _ ho.1 ow
          · rw [← e, ful_bits] at g
            cases hz : bt P.2.1 j with
            | false => rfl
            | true => rw [hz] at g; simp at g
        rw [hb]; rfl
      · simp [e] at hw
        rw [hP.dj j hj hw.1]; rfl
    · rw [(F j (by omega)).2.2.1] at hk
      rw [(F j (by omega)).1, (F j (by omega)).2.1]
      by_cases e : j = cG m
      · left; simp [e]
      · simp [e] at hk
        rcases hP.kg j hj hk.1.1 with q | q
        · left; simp [q, hk.1.2]
        · right; simp [q, hk.2]
    · rw [(F j (by omega)).1] at hw
      rw [(F j (by omega)).2.2.1]
      by_cases e : j = cG m
      · rw [decide_eq_true e, decide_eq_true (show 15 ≤ cG m by omega)]; simp
      · simp [e] at hw
        have hT : (cT m).testBit j = false := by
          cases hz : (cT m).testBit j with
          | false => rfl
          | true => have := tk j h2 hz; rw [hP.dj j h2 hw.1] at this; cases this
        rw [hP.wm j h1 h2 hw.1, hT]; simp [hw.2]
    · rw [(F j (by omega)).2.1] at hb
      rw [(F j (by omega)).2.2.1]
      simp at hb
      have hne : j ≠ cF m := by intro e; rw [e, hP.dj _ ho.1 ow] at hb; cases hb.1
      rw [hP.bm j h1 hb.1, hb.2]; simp [hne]
    · right; exact (F 0 (by omega)).2.2.2
  · have F := fun j (hj : j < 32) => fol_b h hm hj
    have ow : bt P.2.1 (cF m) = true := by rw [← ((own_bits _).2 hm).1]; exact h.ow
    have tk : ∀ j, j < 18 → (cT m).testBit j = true → bt P.1 j = true := fun j hj ht => by rw [← ((own_bits _).2 hm).2]; exact h.tk j hj ht
    have dj2 : ∀ j, j < 18 → bt P.2.1 j = true → bt P.1 j = false := fun j hj hb => by
      cases hz : bt P.1 j with
      | false => rfl
      | true => rw [hP.dj j hj hz] at hb; cases hb
    refine ⟨fun j h1 h2 => ?_, fun j h1 h2 => ?_, fun j h1 h2 => ?_, fun j hj hw => ?_, fun j hj hk => ?_, fun j h1 h2 hw => ?_, fun j h1 hb => ?_, ?_⟩
    · rw [(F j h2).1, hP.w j h1 h2]; rfl
    · rw [(F j h2).2.1, hP.b j h1 h2, decide_eq_false (show ¬ j = cG m by omega)]; rfl
    · rw [(F j h2).2.2.1, hP.k j h1 h2, decide_eq_false (show ¬ j = cG m by omega)]; rfl
    · rw [(F j (by omega)).1] at hw
      rw [(F j (by omega)).2.1]
      simp at hw
      by_cases e : j = cG m
      · exfalso
        rcases h.go with g | g
        · rw [e, g, dj2 _ ho.1 ow] at hw; cases hw.1
        · rw [← e, ful_bits, hw.1] at g; simp at g
      · rw [hP.dj j hj hw.1]; simp [e]
    · rw [(F j (by omega)).2.2.1] at hk
      rw [(F j (by omega)).1, (F j (by omega)).2.1]
      by_cases e : j = cG m
      · right; simp [e]
      · simp [e] at hk
        rcases hP.kg j hj hk.1.1 with q | q
        · left; simp [q, hk.2]
        · right; simp [q, hk.1.2]
    · rw [(F j (by omega)).1] at hw
      rw [(F j (by omega)).2.2.1]
      simp at hw
      have hne : j ≠ cF m := by intro e; rw [e, dj2 _ ho.1 ow] at hw; cases hw.1
      rw [hP.wm j h1 h2 hw.1, hw.2]; simp [hne]
    · rw [(F j (by omega)).2.1] at hb
      rw [(F j (by omega)).2.2.1]
      by_cases e : j = cG m
      · rw [decide_eq_true e, decide_eq_true (show cG m < 3 by omega)]; simp
      · simp [e] at hb
        have hT : (cT m).testBit j = false := by
          cases hz : (cT m).testBit j with
          | false => rfl
          | true => have := tk j (by omega) hz; rw [dj2 j (by omega) hb.1] at this; cases this
        rw [hP.bm j h1 hb.1, hT]; simp [hb.2]
    · left; exact (F 0 (by omega)).2.2.2
theorem wf_next : ∀ P, WFp P → ∀ i, i < mvN P → WFp (followP P (mvA P i)) := by
  intro P hP i hi
  have hl := mv_len hP.mo
  rw [hl.2 i hi]
  exact fol_wf hP (mv_ok (gd_mem (by omega)))
theorem mv_i {P : Ps} (hP : WFp P) {i : Nat} (hi : i < mvN P) : ∃ m, m ∈ mvL P ∧ mvOK P m ∧ mvA P i = nI (cc m) := by
  have hl := mv_len hP.mo
  exact ⟨_, gd_mem (by omega), mv_ok (gd_mem (by omega)), hl.2 i hi⟩
theorem beg_m {m : Nat} (h : okM m) : begR (nI m) = nI (cF m) ∧ endR (nI m) = nI (cG m) ∧ nI m - nI m / 262144 * 262144 = nI (cT m) := by
  have h31 := ok31 h
  have h2 : m / 262144 < 2 ^ 31 := by omega
  unfold begR endR
  rw [show (262144 : Int32) = nI 262144 from rfl, show (18 : Int32) = nI 18 from rfl]
  refine ⟨?_, ?_, ?_⟩
  · rw [pk_div h31 (by omega) (by omega), pk_div h2 (by omega) (by omega)]; rfl
  · rw [pk_div h31 (by omega) (by omega), pk_rem h2 (by omega) (by omega)]; rfl
  · rw [pk_rem h31 (by omega) (by omega)]; rfl
theorem mkV_m {S : Nat → Nat → Int32} {p m j : Nat} (h : okM m) (hj : j < 18) : mkV S p (nI m) j = if (cT m).testBit j = true then 0 else S 0 (18 * p + j) := by
  unfold mkV
  rw [(beg_m h).2.2]
  by_cases ht : (cT m).testBit j = true
  · rw [if_pos ht, if_pos ((bit_o _ (by omega)).mpr (by rw [bt_nI _ (by omega)]; exact ht)), if_neg (by decide)]
  · have hn : ¬ (nI (cT m) >>> (nI j &&& 31)) &&& 1 = 1 := fun c => ht (by rw [bit_o _ (by omega), bt_nI _ (by omega)] at c; exact c)
    rw [if_neg ht, if_neg hn, if_pos rfl]
theorem mkB_m {S : Nat → Nat → Int32} {p m j : Nat} (h : okM m) (hj : j < 18) : mkB S p (nI m) (cF m) (cG m) (18 * (p + 1) + j) = if j = cG m then (if rowR (nI (cG m)) = crownR (S 1 p) then 2 + 2 * S 1 p else S 0 (18 * p + cF m)) else if j = cF m then 0 else if (cT m).testBit j = true then 0 else S 0 (18 * p + j) := by
  unfold mkB
  rw [(beg_m h).2.1, show 18 * (p + 1) + j = 18 * p + 18 + j by omega]
  by_cases e : j = cG m
  · subst e
    rw [pk_us, if_pos rfl]
    by_cases hc : rowR (nI (cG m)) = crownR (S 1 p)
    · rw [if_pos hc, if_pos hc, if_neg (by decide)]
    · rw [if_neg hc, if_neg hc, if_pos rfl]
  · rw [pk_un (by omega), if_neg e]
    by_cases e2 : j = cF m
    · subst e2; rw [pk_us, if_pos rfl]
    · rw [pk_un (by omega), if_neg e2]
      unfold filG
      rw [if_pos (by omega), show 18 * p + 18 + j - (18 * p + 18) = j by omega, mkV_m h hj]
theorem make_sem : MakeSem WFp := by
  intro S p P i hrow hP hi
  obtain ⟨m, hmem, h, e⟩ := mv_i hP hi
  have ho := cd_of h.ok
  have hb := beg_m h.ok
  rw [e, rk_cc h.ok]
  refine ⟨cF m, cG m, hb.1, ho.1, hb.2.1, ho.2.1, fun j hj => ?_, ?_⟩
  · show makeR S p (nI m) (cF m) (cG m) 0 _ = _
    unfold makeR
    rw [va_up_ne _ _ (by decide), va_up_self, mkB_m h.ok hj, hrow.2, hrow.1 _ ho.1, hrow.1 _ hj, pc_bits _ (by omega), pc_bits _ (by omega), pc_bits _ (by omega), row3 _ ho.2.1]
    have full : cG m ≠ cF m → bt P.1 (cG m) = false ∧ bt P.2.1 (cG m) = false ∧ bt P.2.2.1 (cG m) = false := by
      intro hne
      rcases h.go with g | g
      · exact absurd g hne
      · rw [ful_bits] at g
        have g1 : bt P.1 (cG m) = false := by cases hz : bt P.1 (cG m) with | false => rfl | true => rw [hz] at g; simp at g
        have g2 : bt P.2.1 (cG m) = false := by rw [g1] at g; simpa using g
        refine ⟨g1, g2, ?_⟩
        cases hz : bt P.2.2.1 (cG m) with
        | false => rfl
        | true =>
          rcases hP.kg _ ho.2.1 hz with q | q
          · rw [g1] at q; cases q
          · rw [g2] at q; cases q
    rcases hP.mo with hm | hm
    · have F := fol_w h hm (show j < 32 by omega)
      have ow : bt P.1 (cF m) = true := by rw [← ((own_bits _).1 hm).1]; exact h.ow
      have tk : (cT m).testBit j = true → bt P.2.1 j = true := fun ht => by rw [← ((own_bits _).1 hm).2]; exact h.tk j hj ht
      rw [F.1, F.2.1, F.2.2.1, hm, show crownR 0 = nI 5 from rfl]
      have hcr : (nI (cG m / 3) = nI 5) ↔ 15 ≤ cG m := by rw [nI_eq (by omega) (by omega)]; omega
      simp only [hcr]
      by_cases e1 : j = cG m
      · rw [if_pos e1, decide_eq_true e1]
        have hz : (bt P.2.2.1 j && !decide (j = cF m) && !(cT m).testBit j) = false := by
          by_cases e2 : cG m = cF m
          · rw [e1, decide_eq_true e2]; simp
          · rw [e1, (full e2).2.2]; rfl
        rw [hz, ow]
        by_cases h15 : 15 ≤ cG m
        · rw [if_pos h15, decide_eq_true h15]; cases bt P.2.2.1 (cF m) <;> simp [pcB]
        · rw [if_neg h15, decide_eq_false h15]; cases bt P.2.2.1 (cF m) <;> simp [pcB]
      · rw [if_neg e1, decide_eq_false e1]
        by_cases e2 : j = cF m
        · rw [if_pos e2, decide_eq_true e2, e2, hP.dj _ ho.1 ow]; simp [pcB]
        · rw [if_neg e2, decide_eq_false e2]
          by_cases ht : (cT m).testBit j = true
          · rw [if_pos ht, ht]
            have hw : bt P.1 j = false := by
              cases hz : bt P.1 j with
              | false => rfl
              | true => have := tk ht; rw [hP.dj j hj hz] at this; cases this
            rw [hw]; simp [pcB]
          · rw [if_neg ht, show (cT m).testBit j = false by simpa using ht]; simp
    · have F := fol_b h hm (show j < 32 by omega)
      have ow : bt P.2.1 (cF m) = true := by rw [← ((own_bits _).2 hm).1]; exact h.ow
      have dj2 : ∀ j, j < 18 → bt P.2.1 j = true → bt P.1 j = false := fun j hj hb => by
        cases hz : bt P.1 j with
        | false => rfl
        | true => rw [hP.dj j hj hz] at hb; cases hb
      have tk : (cT m).testBit j = true → bt P.1 j = true := fun ht => by rw [← ((own_bits _).2 hm).2]; exact h.tk j hj ht
      rw [F.1, F.2.1, F.2.2.1, hm, show crownR 1 = nI 0 from rfl]
      have hcr : (nI (cG m / 3) = nI 0) ↔ cG m < 3 := by rw [nI_eq (by omega) (by omega)]; omega
      simp only [hcr]
      by_cases e1 : j = cG m
      · rw [if_pos e1, decide_eq_true e1]
        have hz : (bt P.2.2.1 j && !decide (j = cF m) && !(cT m).testBit j) = false := by
          by_cases e2 : cG m = cF m
          · rw [e1, decide_eq_true e2]; simp
          · rw [e1, (full e2).2.2]; rfl
        have hw : bt P.1 j = false := by
          by_cases e2 : cG m = cF m
          · rw [e1, e2]; exact dj2 _ ho.1 ow
          · rw [e1]; exact (full e2).1
        rw [hz, ow, hw, dj2 _ ho.1 ow]
        by_cases h15 : cG m < 3
        · rw [if_pos h15, decide_eq_true h15]; cases bt P.2.2.1 (cF m) <;> simp <;> decide
        · rw [if_neg h15, decide_eq_false h15]; cases bt P.2.2.1 (cF m) <;> simp [pcB]
      · rw [if_neg e1, decide_eq_false e1]
        by_cases e2 : j = cF m
        · rw [if_pos e2, decide_eq_true e2, e2, dj2 _ ho.1 ow]; simp [pcB]
        · rw [if_neg e2, decide_eq_false e2]
          by_cases ht : (cT m).testBit j = true
          · rw [if_pos ht, ht, hP.dj j hj (tk ht)]; simp [pcB]
          · rw [if_neg ht, show (cT m).testBit j = false by simpa using ht]; simp
  · show makeR S p (nI m) (cF m) (cG m) 1 (p + 1) = _
    unfold makeR
    rw [va_up_self, pk_us, hrow.2]
    rcases hP.mo with hm | hm
    · rw [(fol_w h hm (show 0 < 32 by omega)).2.2.2, hm]; rfl
    · rw [(fol_b h hm (show 0 < 32 by omega)).2.2.2, hm]; rfl
