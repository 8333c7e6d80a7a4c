theorem chkK_at {n e : Nat} (h1 : 1 ≤ n) (h10 : n ≤ 10) (he : e < 2592) : chkK n e = true := by
  have : n = 1 ∨ n = 2 ∨ n = 3 ∨ n = 4 ∨ n = 5 ∨ n = 6 ∨ n = 7 ∨ n = 8 ∨ n = 9 ∨ n = 10 := by omega
  rcases this with h | h | h | h | h | h | h | h | h | h <;> subst h
  · exact List.all_eq_true.mp chkK_1 e (List.mem_range.mpr he)
  · exact List.all_eq_true.mp chkK_2 e (List.mem_range.mpr he)
  · exact List.all_eq_true.mp chkK_3 e (List.mem_range.mpr he)
  · exact List.all_eq_true.mp chkK_4 e (List.mem_range.mpr he)
  · exact List.all_eq_true.mp chkK_5 e (List.mem_range.mpr he)
  · exact List.all_eq_true.mp chkK_6 e (List.mem_range.mpr he)
  · exact List.all_eq_true.mp chkK_7 e (List.mem_range.mpr he)
  · exact List.all_eq_true.mp chkK_8 e (List.mem_range.mpr he)
  · exact List.all_eq_true.mp chkK_9 e (List.mem_range.mpr he)
  · exact List.all_eq_true.mp chkK_10 e (List.mem_range.mpr he)
theorem kg_le {e : Nat} (he : e < 2592) : kg e ≤ 10 := by
  have h := kg_lev
  simp only [Bool.and_eq_true, List.all_eq_true, decide_eq_true_eq] at h
  exact h.2 e (List.mem_range.mpr he)
theorem kg_some {n : Nat} (h1 : 1 ≤ n) (h9 : n ≤ 9) : ∃ e, e < 2592 ∧ kg e = n + 1 := by
  have h := kg_lev
  simp only [Bool.and_eq_true, List.all_eq_true, List.any_eq_true, decide_eq_true_eq, beq_iff_eq] at h
  obtain ⟨e, a, b⟩ := h.1 (n - 1) (List.mem_range.mpr (by omega))
  exact ⟨e, List.mem_range.mp a, by omega⟩
theorem tF {e j : Nat} (he : e < 2592) (hj : j < 4) : FTi 2592 (4 * e + j) = FL (4 * e + j) ∧ FLd (4 * e + j) < 2594 := by
  have h := tab_F
  rw [List.all_eq_true] at h
  have h := h e (List.mem_range.mpr he)
  rw [List.all_eq_true] at h
  have h := h j (List.mem_range.mpr hj)
  simp only [Bool.and_eq_true, decide_eq_true_eq, beq_iff_eq] at h
  refine ⟨?_, h.2⟩
  unfold FTi
  rw [if_pos (by omega), show (4 * e + j) / 4 = e by omega, show (4 * e + j) % 4 = j by omega]
  exact h.1
theorem FL_rg {e j : Nat} (he : e < 2592) (hj : j < 4) : FL (4 * e + j) < 0 ∨ ((FL (4 * e + j)).toNatClampNeg < 2592 ∧ FL (4 * e + j) = nI (FL (4 * e + j)).toNatClampNeg) := by
  have h := (tF he hj).2
  unfold FL
  by_cases h0 : FLd (4 * e + j) = 0
  · rw [if_pos h0]; left; decide
  · rw [if_neg h0]
    by_cases h1 : FLd (4 * e + j) = 1
    · rw [if_pos h1]; left; decide
    · rw [if_neg h1]; right
      rw [nI_clamp (by omega)]
      exact ⟨by omega, rfl⟩
theorem FT_rg : rgR (FTi 2592) := by
  intro q hq
  have e : q = 4 * (q / 4) + q % 4 := by omega
  have h := tF (e := q / 4) (j := q % 4) (by omega) (by omega)
  have r := FL_rg (e := q / 4) (j := q % 4) (by omega) (by omega)
  rw [← e] at h r
  rw [h.1]; exact r
theorem sl_congr {F F' K K' : Nat → Int32} {e : Nat} {m : Int32} (hF : ∀ j, j < 4 → F (4 * e + j) = F' (4 * e + j)) (hK : ∀ j, j < 4 → ¬ F' (4 * e + j) < 0 → K (F' (4 * e + j)).toNatClampNeg = K' (F' (4 * e + j)).toNatClampNeg) : ∀ i, i ≤ 4 → slR F K e m i = slR F' K' e m i
  | 0, _ => rfl
  | i + 1, hi => by
    have ih := sl_congr (m := m) hF hK i (by omega)
    have f := hF i (by omega)
    have k := hK i (by omega)
    unfold slR
    rw [ih, f]
    by_cases hn : F' (4 * e + i) < 0
    · simp only [if_pos hn]
    · rw [k hn]
theorem aw_congr {F F' K K' : Nat → Int32} {e : Nat} (hF : ∀ j, j < 4 → F (4 * e + j) = F' (4 * e + j)) (hK : ∀ j, j < 4 → ¬ F' (4 * e + j) < 0 → K (F' (4 * e + j)).toNatClampNeg = K' (F' (4 * e + j)).toNatClampNeg) : ∀ i, i ≤ 4 → awL F K e i = awL F' K' e i
  | 0, _ => rfl
  | i + 1, hi => by
    have ih := aw_congr hF hK i (by omega)
    have f := hF i (by omega)
    have k := hK i (by omega)
    unfold awL
    rw [ih, f]
    by_cases hn : F' (4 * e + i) < 0
    · simp only [if_pos hn, ite_self, if_true]
    · rw [k hn]
theorem jd_congr {F F' K K' : Nat → Int32} {e : Nat} {n : Int32} (hF : ∀ j, j < 4 → F (4 * e + j) = F' (4 * e + j)) (hK : ∀ j, j < 4 → ¬ F' (4 * e + j) < 0 → K (F' (4 * e + j)).toNatClampNeg = K' (F' (4 * e + j)).toNatClampNeg) : jdR F K e n = jdR F' K' e n := by
  unfold jdR awR
  rw [sl_congr hF hK 4 (by omega), aw_congr hF hK 4 (by omega)]
def agK (n i : Nat) (K : Nat → Int32) : Prop := ∀ x, x < 2592 → K x = Km n i x
theorem Kn_step {n e : Nat} (hn : 1 ≤ n) (h : kg e ≠ n + 1) : Kn n e = Kn (n - 1) e := by
  unfold Kn
  by_cases h1 : kg e ≤ n + 1
  · rw [if_pos h1, if_pos (by omega)]
  · rw [if_neg h1, if_neg (by omega)]
theorem ps_spec {n : Nat} (h1 : 1 ≤ n) (h10 : n ≤ 10) : ∀ k i K mo, i + k = 2592 → agK n i K → agK n 2592 (psR (FTi 2592) (nI n) k i K mo).1 ∧ ((psR (FTi 2592) (nI n) k i K mo).2 = 0 ↔ mo = 0 ∧ ∀ e, i ≤ e → e < 2592 → kg e ≠ n + 1)
  | 0, i, K, mo, hi, h => by
    have : i = 2592 := by omega
    subst this
    exact ⟨h, ⟨fun c => ⟨c, fun e a b => by omega⟩, fun c => c.1⟩⟩
  | k + 1, i, K, mo, hi, h => by
    have hi2 : i < 2592 := by omega
    have hkl := kg_le hi2
    have hvi : K i = Kn (n - 1) i := by rw [h i (by omega)]; unfold Km; rw [if_neg (by omega)]
    have hch := chkK_at h1 h10 hi2
    unfold chkK at hch
    unfold psR
    have next : ∀ K' mo', agK n (i + 1) K' → (mo' = 0 ↔ mo = 0 ∧ kg i ≠ n + 1) → agK n 2592 (psR (FTi 2592) (nI n) k (i + 1) K' mo').1 ∧ ((psR (FTi 2592) (nI n) k (i + 1) K' mo').2 = 0 ↔ mo = 0 ∧ ∀ e, i ≤ e → e < 2592 → kg e ≠ n + 1) := by
      intro K' mo' ha hf
      have ih := ps_spec h1 h10 k (i + 1) K' mo' (by omega) ha
      refine ⟨ih.1, ih.2.trans ?_⟩
      rw [hf]
      constructor
      · rintro ⟨⟨a, b⟩, c⟩
        refine ⟨a, fun e e1 e2 => ?_⟩
        by_cases e3 : e = i
        · rw [e3]; exact b
        · exact c e (by omega) e2
      · rintro ⟨a, b⟩
        exact ⟨⟨a, b i (by omega) hi2⟩, fun e e1 e2 => b e (by omega) e2⟩
    by_cases h0 : K i = 0
    · rw [if_pos h0]
      have hun : kg i = 0 ∨ n < kg i := by
        rw [hvi] at h0
        unfold Kn at h0
        by_cases hle : kg i ≤ n - 1 + 1
        · rw [if_pos hle, kl_ne _ (by omega)] at h0; exact Or.inl h0
        · right; omega
      rw [if_pos hun] at hch
      have hjd : jdR (FTi 2592) K i (nI n) = Kn n i := by
        rw [jd_congr (F' := FL) (K' := Km n i) (fun j hj => (tF hi2 hj).1) (fun j hj hn => by
          rcases FL_rg hi2 hj with q | q
          · exact absurd q hn
          · exact h _ q.1)]
        simpa using hch
      rw [hjd]
      have hag : agK n (i + 1) (upd K i (Kn n i)) := by
        intro x hx
        unfold Km
        by_cases h2 : x = i
        · subst h2; rw [pk_us, if_pos (by omega)]
        · rw [pk_un h2, h x hx]
          unfold Km
          by_cases h3 : x < i
          · rw [if_pos h3, if_pos (by omega)]
          · rw [if_neg h3, if_neg (by omega)]
      refine next _ _ hag ?_
      by_cases hd : kg i = n + 1
      · have : ¬ Kn n i = 0 := by
          unfold Kn
          rw [if_pos (by omega), kl_ne _ (by omega)]
          omega
        rw [if_neg this, ite_self]
        exact ⟨fun a => absurd a (by decide), fun a => absurd hd a.2⟩
      · have hz : Kn n i = 0 := by rw [Kn_step h1 hd, ← hvi]; exact h0
        rw [if_pos hz]
        by_cases hm : mo = 0
        · rw [if_pos hm]; exact ⟨fun _ => ⟨hm, hd⟩, fun _ => rfl⟩
        · rw [if_neg hm]; exact ⟨fun a => absurd a (by decide), fun a => absurd a.1 hm⟩
    · rw [if_neg h0]
      have hd : kg i ≠ n + 1 := by
        intro e
        apply h0
        rw [hvi]; unfold Kn; rw [if_neg (by omega)]
      refine next K mo ?_ ⟨fun a => ⟨a, hd⟩, fun a => a.1⟩
      intro x hx
      rw [h x hx]
      unfold Km
      by_cases h3 : x < i
      · rw [if_pos h3, if_pos (by omega)]
      · by_cases h2 : x = i
        · subst h2; rw [if_neg h3, if_pos (by omega), Kn_step h1 hd]
        · rw [if_neg h3, if_neg (by omega)]
theorem agK_next {n : Nat} {K : Nat → Int32} (h : agK n 2592 K) : agK (n + 1) 0 K := by
  intro x hx
  rw [h x hx]
  unfold Km
  rw [if_pos hx, if_neg (by omega)]; rfl
theorem slv_step {n f : Nat} {K : Nat → Int32} (h1 : 1 ≤ n) (h10 : n ≤ 10) (h : agK n 0 K) : (n ≤ 9 → ∃ K', slvR (FTi 2592) (f + 1) (nI n) K = slvR (FTi 2592) f (nI (n + 1)) K' ∧ agK (n + 1) 0 K') ∧ (n = 10 → ∃ K', slvR (FTi 2592) (f + 1) (nI n) K = some K' ∧ agK 11 0 K') := by
  have hs := ps_spec h1 h10 2592 0 K 0 (by omega) h
  rw [show slvR (FTi 2592) (f + 1) (nI n) K = (if (psR (FTi 2592) (nI n) 2592 0 K 0).2 = 0 then some (psR (FTi 2592) (nI n) 2592 0 K 0).1 else slvR (FTi 2592) f (nI n + 1) (psR (FTi 2592) (nI n) 2592 0 K 0).1) from rfl]
  constructor
  · intro h9
    rw [if_neg (fun c => by
      obtain ⟨e, he, hd⟩ := kg_some h1 h9
      exact (hs.2.mp c).2 e (by omega) he hd)]
    exact ⟨_, by rw [nI_1], agK_next hs.1⟩
  · intro he
    subst he
    rw [if_pos (hs.2.mpr ⟨rfl, fun e _ he => by have := kg_le he; omega⟩)]
    exact ⟨_, rfl, agK_next hs.1⟩
theorem K0_ag : agK 1 0 (K0i 2592) := by
  intro x hx
  unfold Km K0i Kn
  rw [if_pos hx, if_neg (show ¬ x < 0 by omega)]
  have hd : devE x 0 = FL (4 * x) := by
    have h := tab_F
    rw [List.all_eq_true] at h
    have h := h x (List.mem_range.mpr hx)
    rw [List.all_eq_true] at h
    have h := h 0 (List.mem_range.mpr (by omega))
    simp only [Bool.and_eq_true, decide_eq_true_eq, beq_iff_eq] at h
    exact h.1
  have t := kg_ini
  rw [List.all_eq_true] at t
  have t := t x (List.mem_range.mpr hx)
  rw [hd]
  by_cases hk : kg x = 1
  · rw [hk] at t ⊢
    simp at t
    rw [if_pos t, if_pos (by omega)]; rfl
  · have hk2 : (kg x == 1) = false := beq_eq_false_iff_ne.mpr hk
    rw [hk2] at t
    simp at t
    rw [if_neg t]
    by_cases hle : kg x ≤ 1 - 1 + 1
    · rw [if_pos hle, show kg x = 0 by omega]; rfl
    · rw [if_neg hle]
theorem slv_chain : ∀ j, j ≤ 9 → ∃ K, slvR (FTi 2592) 10 1 (K0i 2592) = slvR (FTi 2592) (10 - j) (nI (j + 1)) K ∧ agK (j + 1) 0 K
  | 0, _ => ⟨_, rfl, K0_ag⟩
  | j + 1, hj => by
    obtain ⟨K, e, h⟩ := slv_chain j (by omega)
    obtain ⟨K', e', h'⟩ := (slv_step (f := 10 - (j + 1)) (n := j + 1) (by omega) (by omega) h).1 (by omega)
    exact ⟨K', by rw [e, show 10 - j = 10 - (j + 1) + 1 by omega, e'], h'⟩
theorem slv_ok : ∃ KT, slvR (FTi 2592) 10 1 (K0i 2592) = some KT ∧ ∀ e, e < 2592 → KT e = kl (kg e) := by
  obtain ⟨K, e, h⟩ := slv_chain 9 (by omega)
  obtain ⟨K', e', h'⟩ := (slv_step (f := 0) (n := 10) (by omega) (by omega) h).2 rfl
  refine ⟨K', by rw [e]; exact e', fun x hx => ?_⟩
  rw [h' x hx]
  unfold Km Kn
  rw [if_neg (by omega), if_pos (by have := kg_le hx; omega)]
