/-! what every move has, what it leads to -/
def mvOK (P : Ps) (m : Nat) : Prop := (okM m) ∧ (bt (ownP P) (cF m) = true) ∧ (cG m = cF m ∨ bt (fulP P) (cG m) = false) ∧ (∀ j, j < 18 → (cT m).testBit j = true → bt (othP P) j = true)
theorem mvOK.ok {P : Ps} {m : Nat} (h : mvOK P m) : okM m := h.1
theorem mvOK.ow {P : Ps} {m : Nat} (h : mvOK P m) : bt (ownP P) (cF m) = true := h.2.1
theorem mvOK.go {P : Ps} {m : Nat} (h : mvOK P m) : cG m = cF m ∨ bt (fulP P) (cG m) = false := h.2.2.1
theorem mvOK.tk {P : Ps} {m : Nat} (h : mvOK P m) : ∀ j, j < 18 → (cT m).testBit j = true → bt (othP P) j = true := h.2.2.2
theorem mv_ok {P : Ps} {m : Nat} (h : m ∈ mvL P) : mvOK P m := by
  unfold mvL at h
  split at h
  · rcases insL_mem.mp h with a | a
    · cases a
    · obtain ⟨s, b, c⟩ := List.mem_flatMap.mp a
      have d := own18 b
      have e := sC_mem d.1 c
      refine ⟨e.1, by rw [e.2.1]; exact d.2, Or.inr e.2.2.2.1, fun j _ hj => ?_⟩
      rw [e.2.2.1] at hj; simp at hj
  · rcases insL_mem.mp h with a | a
    · cases a
    · obtain ⟨s, b, c⟩ := List.mem_flatMap.mp a
      have d := own18 b
      have e := (j_all P d.1).mv m c
      refine ⟨e.2.1, by rw [e.1]; exact d.2, ?_, fun j hj ht => e.2.2.2.2 j hj ht⟩
      have g := e.2.2.1
      unfold frP at g
      rw [e.1]
      simpa using g
theorem insL_nil {l : List Nat} : insL [] l = [] ↔ l = [] := by
  constructor
  · intro h
    cases l with
    | nil => rfl
    | cons m l =>
      have : m ∈ insL [] (m :: l) := insL_mem.mpr (Or.inr (by simp))
      rw [h] at this; cases this
  · intro h; rw [h]; rfl
theorem mvL_nil {P : Ps} : mvL P = [] ↔ JC P = [] ∧ SC P = [] := by
  unfold mvL
  by_cases h : insL [] (JC P) = []
  · rw [if_pos h, insL_nil]
    exact ⟨fun a => ⟨insL_nil.mp h, a⟩, fun a => a.2⟩
  · rw [if_neg h]
    exact ⟨fun a => absurd a h, fun a => absurd (insL_nil.mpr a.1) h⟩
theorem nb2_ne : ∀ s, s < 18 → ∀ w, w < 4 → nb 2 s w ≠ s := by decide +kernel
theorem oth_ful {P : Ps} {j : Nat} (h : bt (othP P) j = true) : bt (fulP P) j = true := by
  rw [ful_bits]
  unfold othP at h
  split at h
  · rw [h]; simp
  · rw [h]; simp
def noW (P : Ps) (s w : Nat) : Prop := kd (prP P) (frP P s) 0 s w = false ∧ (nb 1 s w = 99 ∨ bt (fulP P) (nb 1 s w) = true)
theorem nIm1 {n : Nat} (h : n < 18) : ¬ nI n = -1 := by
  intro e
  have := congrArg Int32.toInt e
  rw [nI_toInt (by omega)] at this
  have : ((n : Nat) : Int) = -1 := this
  omega
theorem can_w {P : Ps} {s w : Nat} (hs : s < 18) (hw : w < 4) : noW P s w ↔ (tgtF P s w = -1 ∨ ¬ (fulP P >>> (tgtF P s w &&& 31)) &&& 1 = 0) := by
  unfold noW
  have b := nb_near s hs w hw
  have a := nb_lt s hs w hw
  by_cases h : nb 1 s w = 99
  · have h2 : nb 2 s w = 99 := by
      rcases Nat.decEq (nb 2 s w) 99 with q | q
      · have := a.2.2 q; omega
      · exact q
    have e : tgtF P s w = -1 := by unfold tgtF; rw [b.1, if_pos h, if_pos rfl]
    rw [e]
    constructor
    · intro _; exact Or.inl rfl
    · intro _; exact ⟨by unfold kd; rw [h2]; rfl, Or.inl h⟩
  · have h1 : nb 1 s w < 18 := by rcases a.1 with z | z; exact z; exact absurd z h
    have e1 : nearT (4 * s + w) = nI (nb 1 s w) := by rw [b.1, if_neg h]
    by_cases ho : bt (othP P) (nb 1 s w) = false
    · have e : tgtF P s w = nI (nb 1 s w) := by unfold tgtF; rw [e1, if_neg (nIm1 h1), if_pos ((bit_z _ (by omega)).mpr ho)]
      rw [e, bit_z _ (by omega)]
      have hk : kd (prP P) (frP P s) 0 s w = false := by unfold kd prP; rw [ho]; simp
      rw [hk]
      simp [h, nIm1 h1]
    · have ho1 : bt (othP P) (nb 1 s w) = true := by simpa using ho
      have hf := oth_ful ho1
      have e : tgtF P s w = behT (4 * s + w) := by unfold tgtF; rw [e1, if_neg (nIm1 h1), if_neg (fun c => ho ((bit_z _ (by omega)).mp c))]
      rw [e, b.2.1, hf]
      by_cases h2 : nb 2 s w = 99
      · rw [if_pos h2]
        constructor
        · intro _; exact Or.inl rfl
        · intro _; exact ⟨by unfold kd; rw [h2]; rfl, Or.inr rfl⟩
      · have h3 : nb 2 s w < 18 := by rcases a.2.1 with z | z; exact z; exact absurd z h2
        rw [if_neg h2, bit_z _ (by omega)]
        have hne := nb2_ne s hs w hw
        unfold kd prP frP
        rw [ho1]
        simp [h2, hne, nIm1 h3]
theorem can_W {P : Ps} {s : Nat} (hs : s < 18) : ∀ k w, w + k ≤ 4 → (canW P s k w = 0 ↔ ∀ v, v ∈ wsL (lstN P s) k w → noW P s v)
  | 0, w, _ => by unfold canW wsL; simp
  | k + 1, w, hk => by
    unfold canW wsL
    by_cases hl : lstN P s < w
    · rw [if_pos hl, if_pos hl]; simp
    · rw [if_neg hl, if_neg hl]
      have hc := can_w (P := P) hs (show w < 4 by omega)
      have ih := can_W (P := P) hs k (w + 1) (by omega)
      by_cases h1 : tgtF P s w = -1
      · rw [if_pos h1, ih]
        simp only [List.mem_cons]
        constructor
        · rintro g v (e | e)
          · rw [e]; exact hc.mpr (Or.inl h1)
          · exact g v e
        · intro g v e; exact g v (Or.inr e)
      · rw [if_neg h1]
        by_cases h2 : (fulP P >>> (tgtF P s w &&& 31)) &&& 1 = 0
        · rw [if_pos h2]
          constructor
          · intro g; exact absurd g (by decide)
          · intro g
            rcases hc.mp (g w (by simp)) with q | q
            · exact absurd q h1
            · exact absurd h2 q
        · rw [if_neg h2, ih]
          simp only [List.mem_cons]
          constructor
          · rintro g v (e | e)
            · rw [e]; exact hc.mpr (Or.inr h2)
            · exact g v e
          · intro g v e; exact g v (Or.inr e)
theorem can_K {P : Ps} : ∀ k i, i + k = 18 → (canK P k i = 0 ↔ ∀ s, s ∈ ownL P k i → canL P s = 0)
  | 0, i, _ => by unfold canK ownL; simp
  | k + 1, i, hi => by
    unfold canK ownL
    have ih := can_K (P := P) k (i + 1) (by omega)
    by_cases h : bt (ownP P) i = true
    · rw [if_neg (fun c => by rw [ownBit_z (by omega), h] at c; cases c), if_pos h]
      by_cases h2 : canL P i = 0
      · rw [if_pos h2, ih]
        simp only [List.mem_cons]
        constructor
        · rintro g v (e | e)
          · rw [e]; exact h2
          · exact g v e
        · intro g v e; exact g v (Or.inr e)
      · rw [if_neg h2]
        constructor
        · intro g; exact absurd g (by decide)
        · intro g; exact absurd (g i (by simp)) h2
    · rw [if_pos ((ownBit_z (by omega)).mpr (by simpa using h)), if_neg h, ih]
theorem can_mv {P : Ps} (hm : P.2.2.2.1 = 0 ∨ P.2.2.2.1 = 1) : canM P = 0 ↔ mvN P = 0 := by
  rw [(mv_len hm).1]
  rw [show ((mvL P).length = 0 ↔ mvL P = []) from List.length_eq_zero_iff, mvL_nil]
  unfold canM
  rw [can_K 18 0 rfl]
  have hL : ∀ s, s ∈ ownL P 18 0 → (canL P s = 0 ↔ ∀ v, v ∈ dC (mdP P s) → noW P s v) := by
    intro s hs
    have a := own18 hs
    have hf := fst_le P s
    unfold canL
    rw [can_W a.1 _ _ (by omega), ws_dC a.1 hm]
  unfold JC SC
  rw [List.flatMap_eq_nil_iff, List.flatMap_eq_nil_iff]
  constructor
  · intro g
    constructor
    · intro s hs
      have a := own18 hs
      exact (j_all P a.1).em.mpr (fun w hw => ((hL s hs).mp (g s hs) w hw).1)
    · intro s hs
      have a := own18 hs
      refine List.eq_nil_iff_forall_not_mem.mpr (fun z hz => ?_)
      obtain ⟨w, hw, h1, h2, e⟩ := sv_mem.mp hz
      rcases ((hL s hs).mp (g s hs) w hw).2 with q | q
      · exact h1 q
      · rw [h2] at q; cases q
  · rintro ⟨gj, gs⟩ s hs
    have a := own18 hs
    refine (hL s hs).mpr (fun w hw => ⟨(j_all P a.1).em.mp (gj s hs) w hw, ?_⟩)
    by_cases h1 : nb 1 s w = 99
    · exact Or.inl h1
    · right
      cases e : bt (fulP P) (nb 1 s w) with
      | true => rfl
      | false =>
        have : cd s (nb 1 s w) 0 ∈ sC P s := sv_mem.mpr ⟨w, hw, h1, e, rfl⟩
        rw [gs s hs] at this; cases this
/-! the position behind a move, by bits -/
theorem row5 : ∀ t, t < 18 → ((((1 : Int32) <<< (nI t &&& 31)) &&& 229376 = 0 ↔ t < 15) ∧ (((1 : Int32) <<< (nI t &&& 31)) &&& 7 = 0 ↔ 3 ≤ t)) := by decide +kernel
theorem fol_w {P : Ps} {m : Nat} (h : mvOK P m) (hm : P.2.2.2.1 = 0) {j : Nat} (hj : j < 32) : bt (followP P (nI (cc m))).1 j = (bt P.1 j && !decide (j = cF m) || decide (j = cG m)) ∧ bt (followP P (nI (cc m))).2.1 j = (bt P.2.1 j && !(cT m).testBit j) ∧ bt (followP P (nI (cc m))).2.2.1 j = (bt P.2.2.1 j && !decide (j = cF m) && !(cT m).testBit j || (decide (j = cG m) && (bt P.2.2.1 (cF m) || decide (15 ≤ cG m)))) ∧ (followP P (nI (cc m))).2.2.2.1 = 1 := by
  have hc := mv_cc h.ok
  have ho := cd_of h.ok
  have r5 := row5 (cG m) ho.2.1
  unfold followP
  rw [hc.1, hc.2.1, hc.2.2]
  simp only [if_pos hm]
  refine ⟨?_, ?_, ?_, trivial⟩
  · rw [b_or, b_and, bt_not _ hj, bt_sh (by omega) hj, bt_sh (by omega) hj]
  · rw [b_and, bt_not _ hj, bt_nI _ hj]
  · have hk : bt (P.2.2.1 &&& (((1 : Int32) <<< (nI (cF m) &&& 31)) ^^^ (-1)) &&& (nI (cT m) ^^^ (-1))) j = (bt P.2.2.1 j && !decide (j = cF m) && !(cT m).testBit j) := by
      rw [b_and, b_and, bt_not _ hj, bt_not _ hj, bt_sh (by omega) hj, bt_nI _ hj]
    by_cases h1 : bt P.2.2.1 (cF m) = false
    · rw [if_pos ((and_z _ (by omega)).mpr h1), h1]
      by_cases h2 : cG m < 15
      · rw [if_pos (r5.1.mpr h2), hk, decide_eq_false (show ¬ 15 ≤ cG m by omega)]; simp
      · rw [if_neg (fun c => h2 (r5.1.mp c)), b_or, hk, bt_sh (by omega) hj, decide_eq_true (show 15 ≤ cG m by omega)]; simp
    · rw [if_neg (fun c => h1 ((and_z _ (by omega)).mp c)), b_or, hk, bt_sh (by omega) hj, show bt P.2.2.1 (cF m) = true by simpa using h1]; simp
theorem fol_b {P : Ps} {m : Nat} (h : mvOK P m) (hm : P.2.2.2.1 = 1) {j : Nat} (hj : j < 32) : bt (followP P (nI (cc m))).1 j = (bt P.1 j && !(cT m).testBit j) ∧ bt (followP P (nI (cc m))).2.1 j = (bt P.2.1 j && !decide (j = cF m) || decide (j = cG m)) ∧ bt (followP P (nI (cc m))).2.2.1 j = (bt P.2.2.1 j && !decide (j = cF m) && !(cT m).testBit j || (decide (j = cG m) && (bt P.2.2.1 (cF m) || decide (cG m < 3)))) ∧ (followP P (nI (cc m))).2.2.2.1 = 0 := by
  have hc := mv_cc h.ok
  have ho := cd_of h.ok
  have r5 := row5 (cG m) ho.2.1
  unfold followP
  rw [hc.1, hc.2.1, hc.2.2]
  simp only [if_neg (show ¬ P.2.2.2.1 = 0 by rw [hm]; decide)]
  refine ⟨?_, ?_, ?_, trivial⟩
  · rw [b_and, bt_not _ hj, bt_nI _ hj]
  · rw [b_or, b_and, bt_not _ hj, bt_sh (by omega) hj, bt_sh (by omega) hj]
  · have hk : bt (P.2.2.1 &&& (((1 : Int32) <<< (nI (cF m) &&& 31)) ^^^ (-1)) &&& (nI (cT m) ^^^ (-1))) j = (bt P.2.2.1 j && !decide (j = cF m) && !(cT m).testBit j) := by
      rw [b_and, b_and, bt_not _ hj, bt_not _ hj, bt_sh (by omega) hj, bt_nI _ hj]
    by_cases h1 : bt P.2.2.1 (cF m) = false
    · rw [if_pos ((and_z _ (by omega)).mpr h1), h1]
      by_cases h2 : 3 ≤ cG m
      · rw [if_pos (r5.2.mpr h2), hk, decide_eq_false (show ¬ cG m < 3 by omega)]; simp
      · rw [if_neg (fun c => h2 (r5.2.mp c)), b_or, hk, bt_sh (by omega) hj, decide_eq_true (show cG m < 3 by omega)]; simp
    · rw [if_neg (fun c => h1 ((and_z _ (by omega)).mp c)), b_or, hk, bt_sh (by omega) hj, show bt P.2.2.1 (cF m) = true by simpa using h1]; simp
