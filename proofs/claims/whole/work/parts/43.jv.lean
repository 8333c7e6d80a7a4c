/-- what the search of one piece comes to, for any board -/
def jvOK (s m : Nat) (pr fr : Nat → Bool) : Prop := (dp (dR m) pr fr 8 s 0 = true) ∧ ((jv (dC m) pr fr s 18 s 0).length ≤ 4) ∧ ((jv (dR m) pr fr s 8 s 0).length ≤ 4) ∧ (∀ z, z ∈ jv (dC m) pr fr s 18 s 0 ↔ z ∈ jv (dR m) pr fr s 8 s 0) ∧ (jv (dC m) pr fr s 18 s 0 = [] ↔ ∀ w, w ∈ dC m → kd pr fr 0 s w = false) ∧ (∀ z, z ∈ jv (dC m) pr fr s 18 s 0 → cF z = s ∧ okM z ∧ fr (cG z) = true ∧ cT z ≠ 0 ∧ ∀ j, j < 18 → (cT z).testBit j = true → pr j = true)
theorem jvOK.dp {s m : Nat} {pr fr : Nat → Bool} (h : jvOK s m pr fr) : dp (dR m) pr fr 8 s 0 = true := h.1
theorem jvOK.lc {s m : Nat} {pr fr : Nat → Bool} (h : jvOK s m pr fr) : (jv (dC m) pr fr s 18 s 0).length ≤ 4 := h.2.1
theorem jvOK.lr {s m : Nat} {pr fr : Nat → Bool} (h : jvOK s m pr fr) : (jv (dR m) pr fr s 8 s 0).length ≤ 4 := h.2.2.1
theorem jvOK.eq {s m : Nat} {pr fr : Nat → Bool} (h : jvOK s m pr fr) : ∀ z, z ∈ jv (dC m) pr fr s 18 s 0 ↔ z ∈ jv (dR m) pr fr s 8 s 0 := h.2.2.2.1
theorem jvOK.em {s m : Nat} {pr fr : Nat → Bool} (h : jvOK s m pr fr) : jv (dC m) pr fr s 18 s 0 = [] ↔ ∀ w, w ∈ dC m → kd pr fr 0 s w = false := h.2.2.2.2.1
theorem jvOK.mv {s m : Nat} {pr fr : Nat → Bool} (h : jvOK s m pr fr) : ∀ z, z ∈ jv (dC m) pr fr s 18 s 0 → cF z = s ∧ okM z ∧ fr (cG z) = true ∧ cT z ≠ 0 ∧ ∀ j, j < 18 → (cT z).testBit j = true → pr j = true := h.2.2.2.2.2
theorem jv_all {s m : Nat} {pr fr : Nat → Bool} (hs : s < 18) (hm : m < 3) (hfr : fr s = true) : jvOK s m pr fr := by
  obtain ⟨x, ex⟩ : ∃ x, x = mkB2 pr (edgL (cmpI s)) := ⟨_, rfl⟩
  obtain ⟨y, ey⟩ : ∃ y, y = mkB2 fr (cmpL (cmpI s)) := ⟨_, rfl⟩
  have hx : x < 16 := by
    rw [ex]
    have h16 : ∀ u, u < 18 → 2 ^ (edgL (cmpI u)).length = 16 := by decide
    rw [← h16 s hs]; exact mkB2_lt _ _
  have hy : y < 2 ^ (cmpL (cmpI s)).length := by rw [ey]; exact mkB2_lt _ _
  have hc := chk_all
  rw [List.all_eq_true] at hc
  have hc := hc s (List.mem_range.mpr hs)
  rw [List.all_eq_true] at hc
  have hc := hc m (List.mem_range.mpr hm)
  rw [List.all_eq_true] at hc
  have hc := hc x (List.mem_range.mpr hx)
  rw [List.all_eq_true] at hc
  have hc := hc y (List.mem_range.mpr hy)
  obtain ⟨pr', epr⟩ : ∃ f, f = unB (edgL (cmpI s)) x := ⟨_, rfl⟩
  obtain ⟨fr', efr⟩ : ∃ f, f = fun j => j == s || unB (cmpL (cmpI s)) y j := ⟨_, rfl⟩
  unfold chk at hc
  rw [← epr, ← efr] at hc
  have h1 : ∀ j, j ∈ edgL (cmpI s) → pr j = pr' j := fun j hj => by rw [epr, ex]; exact (unB_mk pr hj).symm
  have h2 : ∀ j, j ∈ cmpL (cmpI s) → fr j = fr' j := fun j hj => by
    rw [efr]
    show fr j = (j == s || unB (cmpL (cmpI s)) y j)
    rw [ey, unB_mk fr hj]
    by_cases e : j = s
    · subst e; rw [hfr]; simp
    · simp [e]
  have cC := jv_congr (s := s) (ds := dC m) (dC_lt m hm) h1 h2 18 s 0 hs rfl
  have cR := jv_congr (s := s) (ds := dR m) (dR_lt m hm) h1 h2 8 s 0 hs rfl
  rw [← cC.1, ← cR.1] at hc
  unfold chkL at hc
  simp only [Bool.and_eq_true, decide_eq_true_eq, List.all_eq_true, List.contains_iff_mem] at hc
  obtain ⟨hdp, hlc, hlr, hC, hR, hE⟩ := hc
  refine ⟨by rw [cR.2.1]; exact hdp, hlc, hlr, fun z => ⟨fun h => (hC z h).1, fun h => hR z h⟩, ?_, fun z hz => ?_⟩
  · have hany : (dC m).any (kd pr' fr' 0 s) = (dC m).any (kd pr fr 0 s) := by
      have f := cC.2.2
      rw [Bool.eq_iff_iff, List.any_eq_true, List.any_eq_true]
      constructor
      · rintro ⟨w, hw, hk⟩
        have : w ∈ (dC m).filter (kd pr fr 0 s) := by rw [f]; exact List.mem_filter.mpr ⟨hw, hk⟩
        exact ⟨w, hw, (List.mem_filter.mp this).2⟩
      · rintro ⟨w, hw, hk⟩
        have : w ∈ (dC m).filter (kd pr' fr' 0 s) := by rw [← f]; exact List.mem_filter.mpr ⟨hw, hk⟩
        exact ⟨w, hw, (List.mem_filter.mp this).2⟩
    rw [hany] at hE
    rw [← List.isEmpty_iff]
    have hE2 : (jv (dC m) pr fr s 18 s 0).isEmpty = !((dC m).any (kd pr fr 0 s)) := by simpa using hE
    rw [hE2]
    simp
  · have hz2 := (hC z hz).2
    unfold chkM at hz2
    simp only [Bool.and_eq_true, decide_eq_true_eq, List.all_eq_true, beq_iff_eq, Bool.not_eq_true', beq_eq_false_iff_ne] at hz2
    obtain ⟨a, b, c, d, e⟩ := hz2
    refine ⟨a, b, ?_, d, fun j hj ht => ?_⟩
    · rw [efr] at c
      have c2 : (cG z == s || unB (cmpL (cmpI s)) y (cG z)) = true := c
      by_cases es : cG z = s
      · rw [es]; exact hfr
      · simp only [beq_iff_eq, es, Bool.or_eq_true, false_or] at c2
        by_cases hmem : cG z ∈ cmpL (cmpI s)
        · rw [ey, unB_mk fr hmem] at c2; exact c2
        · rw [unB_no hmem] at c2; cases c2
    · have := e j (List.mem_range.mpr hj)
      rw [ht] at this
      simp only [Bool.not_true, Bool.false_or, Bool.and_eq_true, List.contains_iff_mem] at this
      rw [h1 j this.1]; exact this.2
