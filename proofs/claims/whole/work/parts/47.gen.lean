/-! all moves of a position -/
def ownL (P : Ps) : Nat → Nat → List Nat
  | 0, _ => []
  | k + 1, i => if bt (ownP P) i = true then i :: ownL P k (i + 1) else ownL P k (i + 1)
theorem ownL_mem {P : Ps} {s : Nat} : ∀ {k i : Nat}, s ∈ ownL P k i ↔ i ≤ s ∧ s < i + k ∧ bt (ownP P) s = true
  | 0, i => by unfold ownL; simp; omega
  | k + 1, i => by
    unfold ownL
    split
    · rename_i h
      rw [List.mem_cons, ownL_mem (k := k)]
      constructor
      · rintro (e | ⟨a, b, c⟩)
        · subst e; exact ⟨by omega, by omega, h⟩
        · exact ⟨by omega, by omega, c⟩
      · rintro ⟨a, b, c⟩
        by_cases e : s = i
        · exact Or.inl e
        · exact Or.inr ⟨by omega, by omega, c⟩
    · rename_i h
      rw [ownL_mem (k := k)]
      constructor
      · rintro ⟨a, b, c⟩; exact ⟨by omega, by omega, c⟩
      · rintro ⟨a, b, c⟩
        have : s ≠ i := by intro e; subst e; exact h c
        exact ⟨by omega, by omega, c⟩
theorem ownL_len {P : Ps} : ∀ {k i : Nat}, (ownL P k i).length ≤ k
  | 0, _ => Nat.le_refl _
  | k + 1, i => by
    have := ownL_len (P := P) (k := k) (i := i + 1)
    unfold ownL
    split
    · rw [List.length_cons]; omega
    · omega
theorem fm_len {f : Nat → List Nat} : ∀ {l : List Nat}, (∀ s, s ∈ l → (f s).length ≤ 4) → (l.flatMap f).length ≤ 4 * l.length
  | [], _ => by simp
  | s :: l, h => by
    have := fm_len (l := l) (fun x hx => h x (List.mem_cons_of_mem _ hx))
    have h2 := h s (by simp)
    rw [List.flatMap_cons, List.length_append, List.length_cons]; omega
def jC (P : Ps) (s : Nat) : List Nat := jv (dC (mdP P s)) (prP P) (frP P s) s 18 s 0
def jR (P : Ps) (s : Nat) : List Nat := jv (dR (mdP P s)) (prP P) (frP P s) s 8 s 0
def sC (P : Ps) (s : Nat) : List Nat := sv (dC (mdP P s)) (bt (fulP P)) s
def sR (P : Ps) (s : Nat) : List Nat := sv (dR (mdP P s)) (bt (fulP P)) s
theorem j_all (P : Ps) {s : Nat} (hs : s < 18) : jvOK s (mdP P s) (prP P) (frP P s) := jv_all hs (mdP_lt P s) (by unfold frP; simp)
theorem dCR : ∀ m, m < 3 → (∀ w, w ∈ dC m ↔ w ∈ dR m) ∧ (dC m).length ≤ 4 ∧ (dR m).length ≤ 4 := by
  intro m hm
  have : m = 0 ∨ m = 1 ∨ m = 2 := by omega
  rcases this with h | h | h <;> subst h
  · exact ⟨fun w => Iff.rfl, by decide, by decide⟩
  · exact ⟨fun w => Iff.rfl, by decide, by decide⟩
  · refine ⟨fun w => ?_, by decide, by decide⟩
    show w ∈ [0, 1, 2, 3] ↔ w ∈ [2, 3, 0, 1]
    simp only [List.mem_cons, List.not_mem_nil, or_false]
    omega
theorem sv_mem {ds : List Nat} {ful : Nat → Bool} {s z : Nat} : z ∈ sv ds ful s ↔ ∃ w, w ∈ ds ∧ nb 1 s w ≠ 99 ∧ ful (nb 1 s w) = false ∧ z = cd s (nb 1 s w) 0 := by
  unfold sv
  rw [List.mem_map]
  constructor
  · rintro ⟨w, hw, e⟩
    have := List.mem_filter.mp hw
    simp only [Bool.and_eq_true, Bool.not_eq_true', beq_eq_false_iff_ne] at this
    exact ⟨w, this.1, this.2.1, this.2.2, e.symm⟩
  · rintro ⟨w, hw, h1, h2, e⟩
    refine ⟨w, List.mem_filter.mpr ⟨hw, ?_⟩, e.symm⟩
    simp only [Bool.and_eq_true, Bool.not_eq_true', beq_eq_false_iff_ne]
    exact ⟨h1, h2⟩
theorem sv_len {ds : List Nat} {ful : Nat → Bool} {s : Nat} : (sv ds ful s).length ≤ ds.length := by
  unfold sv; rw [List.length_map]; exact List.length_filter_le _ _
theorem sC_mem {P : Ps} {s z : Nat} (hs : s < 18) (h : z ∈ sC P s) : okM z ∧ cF z = s ∧ cT z = 0 ∧ bt (fulP P) (cG z) = false ∧ ∃ w, w ∈ dC (mdP P s) ∧ cG z = nb 1 s w := by
  obtain ⟨w, hw, h1, h2, e⟩ := sv_mem.mp h
  have hw4 := dC_lt _ (mdP_lt P s) w hw
  have a := nb_lt s hs w hw4
  have h18 : nb 1 s w < 18 := by rcases a.1 with q | q; exact q; exact absurd q h1
  have c := cd_ok (T := 0) hs h18 (by omega)
  rw [e]
  exact ⟨c.1, c.2.1, c.2.2.2, by rw [c.2.2.1]; exact h2, w, hw, c.2.2.1⟩
theorem sCR {P : Ps} {s z : Nat} : z ∈ sC P s ↔ z ∈ sR P s := by
  unfold sC sR
  rw [sv_mem, sv_mem]
  have h := (dCR _ (mdP_lt P s)).1
  constructor
  · rintro ⟨w, a, b⟩; exact ⟨w, (h w).mp a, b⟩
  · rintro ⟨w, a, b⟩; exact ⟨w, (h w).mpr a, b⟩
def JC (P : Ps) : List Nat := (ownL P 18 0).flatMap (jC P)
def JR (P : Ps) : List Nat := (ownL P 18 0).flatMap (jR P)
def SC (P : Ps) : List Nat := (ownL P 18 0).flatMap (sC P)
def SR (P : Ps) : List Nat := (ownL P 18 0).flatMap (sR P)
theorem own18 {P : Ps} {s : Nat} (h : s ∈ ownL P 18 0) : s < 18 ∧ bt (ownP P) s = true := by
  have := ownL_mem.mp h; exact ⟨by omega, this.2.2⟩
theorem JCR {P : Ps} {z : Nat} : z ∈ JC P ↔ z ∈ JR P := by
  unfold JC JR
  rw [List.mem_flatMap, List.mem_flatMap]
  constructor
  · rintro ⟨s, a, b⟩; exact ⟨s, a, ((j_all P (own18 a).1).eq z).mp b⟩
  · rintro ⟨s, a, b⟩; exact ⟨s, a, ((j_all P (own18 a).1).eq z).mpr b⟩
theorem SCR {P : Ps} {z : Nat} : z ∈ SC P ↔ z ∈ SR P := by
  unfold SC SR
  rw [List.mem_flatMap, List.mem_flatMap]
  constructor
  · rintro ⟨s, a, b⟩; exact ⟨s, a, sCR.mp b⟩
  · rintro ⟨s, a, b⟩; exact ⟨s, a, sCR.mpr b⟩
theorem JC_ok (P : Ps) : allM (JC P) ∧ (JC P).length ≤ 72 := by
  constructor
  · intro z hz
    obtain ⟨s, a, b⟩ := List.mem_flatMap.mp hz
    exact ((j_all P (own18 a).1).mv z b).2.1
  · have := fm_len (f := jC P) (l := ownL P 18 0) (fun s hs => (j_all P (own18 hs).1).lc)
    have := ownL_len (P := P) (k := 18) (i := 0)
    unfold JC; omega
theorem JR_ok (P : Ps) : allM (JR P) ∧ (JR P).length ≤ 72 := by
  constructor
  · intro z hz; exact (JC_ok P).1 z (JCR.mpr hz)
  · have := fm_len (f := jR P) (l := ownL P 18 0) (fun s hs => (j_all P (own18 hs).1).lr)
    have := ownL_len (P := P) (k := 18) (i := 0)
    unfold JR; omega
theorem SC_ok (P : Ps) : allM (SC P) ∧ (SC P).length ≤ 72 := by
  constructor
  · intro z hz
    obtain ⟨s, a, b⟩ := List.mem_flatMap.mp hz
    exact (sC_mem (own18 a).1 b).1
  · have := fm_len (f := sC P) (l := ownL P 18 0) (fun s hs => Nat.le_trans sv_len (dCR _ (mdP_lt P s)).2.1)
    have := ownL_len (P := P) (k := 18) (i := 0)
    unfold SC; omega
theorem SR_ok (P : Ps) : allM (SR P) ∧ (SR P).length ≤ 72 := by
  constructor
  · intro z hz; exact (SC_ok P).1 z (SCR.mpr hz)
  · have := fm_len (f := sR P) (l := ownL P 18 0) (fun s hs => Nat.le_trans sv_len (dCR _ (mdP_lt P s)).2.2)
    have := ownL_len (P := P) (k := 18) (i := 0)
    unfold SR; omega
theorem srt_nil : srt [] := List.Pairwise.nil
/-- the moves of a position, in their order -/
def mvL (P : Ps) : List Nat := if insL [] (JC P) = [] then insL [] (SC P) else insL [] (JC P)
theorem XJ (P : Ps) : insL [] (JC P) = insL [] (JR P) := srt_ext (insL_srt srt_nil) (insL_srt srt_nil) (fun m => by rw [insL_mem, insL_mem, JCR])
theorem XS (P : Ps) : insL [] (SC P) = insL [] (SR P) := srt_ext (insL_srt srt_nil) (insL_srt srt_nil) (fun m => by rw [insL_mem, insL_mem, SCR])
theorem ownBit_z {P : Ps} {i : Nat} (hi : i < 32) : ownBit P i = 0 ↔ bt (ownP P) i = false := by unfold ownBit; exact bit_z _ hi
theorem allJ_et {P : Ps} (hm : P.2.2.2.1 = 0 ∨ P.2.2.2.1 = 1) : ∀ k i S, i + k = 18 → allJ P k i S = etL S ((ownL P k i).flatMap (jC P))
  | 0, _, _, _ => rfl
  | k + 1, i, S, hi => by
    unfold allJ ownL
    rw [allJ_et hm k (i + 1) _ (by omega)]
    by_cases h : bt (ownP P) i = true
    · rw [if_pos h, if_neg (fun c => by rw [ownBit_z (by omega), h] at c; cases c), List.flatMap_cons, etL_app]
      congr 1
      exact leap_jv (s := i) (by omega) hm 18 i 0 S (by omega) (by omega)
    · rw [if_neg h, if_pos ((ownBit_z (by omega)).mpr (by simpa using h))]
theorem allS_et {P : Ps} (hm : P.2.2.2.1 = 0 ∨ P.2.2.2.1 = 1) : ∀ k i S, i + k = 18 → allS P k i S = etL S ((ownL P k i).flatMap (sC P))
  | 0, _, _, _ => rfl
  | k + 1, i, S, hi => by
    unfold allS ownL
    rw [allS_et hm k (i + 1) _ (by omega)]
    by_cases h : bt (ownP P) i = true
    · rw [if_pos h, if_neg (fun c => by rw [ownBit_z (by omega), h] at c; cases c), List.flatMap_cons, etL_app, steps_sv (by omega) hm]
      rfl
    · rw [if_neg h, if_pos ((ownBit_z (by omega)).mpr (by simpa using h))]
theorem moves_rep {P : Ps} (hm : P.2.2.2.1 = 0 ∨ P.2.2.2.1 = 1) (f : Nat → Int32) : repC (movesF P f) (mvL P) ∧ allM (mvL P) := by
  have h0 : repC (f, 0) [] := ⟨rfl, fun i hi => absurd hi (by simp)⟩
  have a0 : allM [] := fun _ h => by cases h
  have le1 : (insL [] (JC P)).length ≤ 72 := by have := insL_le (l := JC P) (X := []); have := (JC_ok P).2; simp at *; omega
  have le2 : (insL [] (SC P)).length ≤ 72 := by have := insL_le (l := SC P) (X := []); have := (SC_ok P).2; simp at *; omega
  have h1 := repC_L h0 srt_nil a0 (JC_ok P).1 le1
  unfold movesF mvL
  rw [allJ_et hm 18 0 _ rfl]
  change repC (etL (f, 0) ((ownL P 18 0).flatMap (jC P))) _ ∧ _ at h1
  by_cases hc : insL [] (JC P) = []
  · have h2 := h1.1
    rw [hc] at h2
    rw [if_pos hc, if_pos (show (etL (f, 0) ((ownL P 18 0).flatMap (jC P))).2 = 0 from h2.1), allS_et hm 18 0 _ rfl]
    exact repC_L h2 srt_nil a0 (SC_ok P).1 le2
  · rw [if_neg hc, if_neg (fun c => hc (List.eq_nil_of_length_eq_zero (h1.1.1 ▸ c)))]
    exact h1
theorem mv_len {P : Ps} (hm : P.2.2.2.1 = 0 ∨ P.2.2.2.1 = 1) : mvN P = (mvL P).length ∧ ∀ i, i < mvN P → mvA P i = nI (cc ((mvL P).getD i 0)) := by
  have h := (moves_rep hm (fun _ => 0)).1
  refine ⟨h.1, fun i hi => h.2 i ?_⟩
  have : mvN P = (mvL P).length := h.1
  omega
theorem mv_cc {m : Nat} (h : okM m) : mvB (nI (cc m)) = nI (cF m) ∧ mvE (nI (cc m)) = nI (cG m) ∧ mvT (nI (cc m)) = nI (cT m) := by
  have hl := cc_lt h
  have ho := cd_of h
  have e : cc m = cF m * 8388608 + cG m * 262144 + cT m := rfl
  refine ⟨?_, ?_, ?_⟩
  · unfold mvB
    rw [pk_shrN hl ((23 : Int32) &&& 31) 23 (by decide), pk_andN (by omega) 5 (by decide)]
    congr 1
    have p23 : (2 : Nat) ^ 23 = 8388608 := by decide
    have p5 : (2 : Nat) ^ 5 = 32 := by decide
    rw [p23, p5, e]; omega
  · unfold mvE
    rw [pk_shrN hl ((18 : Int32) &&& 31) 18 (by decide), pk_andN (by omega) 5 (by decide)]
    congr 1
    have p18 : (2 : Nat) ^ 18 = 262144 := by decide
    have p5 : (2 : Nat) ^ 5 = 32 := by decide
    rw [p18, p5, e]; omega
  · unfold mvT
    rw [pk_andN (by omega) 18 (by decide)]
    congr 1
    have p18 : (2 : Nat) ^ 18 = 262144 := by decide
    rw [p18, e]; omega
theorem rk_cc {m : Nat} (h : okM m) : rk (nI (cc m)) = nI m := by
  unfold rk
  have a := mv_cc h
  rw [a.1, a.2.1, a.2.2, key_cd, (cd_of h).2.2.2]
/-! the reference's generate -/
theorem genJ_nt {P : Ps} (hP : WFp P) {p : Nat} : ∀ k i S, i + k = 18 → rowOK S p P → genJ p k i S = ntL p ((ownL P k i).flatMap (jR P)) S
  | 0, _, _, _, _ => rfl
  | k + 1, i, S, hi, hrow => by
    unfold genJ ownL
    have hso := side_own hP (show i < 18 by omega)
    rw [hrow.1 i (by omega), hrow.2]
    by_cases h : bt (ownP P) i = true
    · rw [if_pos (hso.1.mpr h), if_pos h, List.flatMap_cons, ntL_app]
      unfold jmpR
      rw [hrow.1 i (by omega), show (0 : Int32) = nI 0 from rfl, dfN_jv hP (show i < 18 by omega) h rfl 8 true i 0 S (j_all P (show i < 18 by omega)).dp hrow (by omega) (by omega) ⟨fun _ => rfl, fun _ => rfl⟩]
      cases hn : ntL p (jv (dR (mdP P i)) (prP P) (frP P i) i 8 i 0) S with
      | none => unfold jR; rw [hn]; rfl
      | some R =>
        unfold jR; rw [hn]
        exact genJ_nt hP k (i + 1) R (by omega) (row_ne hrow (ntL_ne hn 0 (by decide) (by decide)) (ntL_ne hn 1 (by decide) (by decide)))
    · rw [if_neg (fun c => h (hso.1.mp c)), if_neg h]
      exact genJ_nt hP k (i + 1) S (by omega) hrow
theorem stpL_nt {P : Ps} (hP : WFp P) {p f : Nat} {pc : Int32} (hf : f < 18) (ho : bt (ownP P) f = true) (hpc : pc = pieceP P ((1 : Int32) <<< (nI f &&& 31))) : ∀ m w S X, w + m = 4 → rowOK S p P → repR S p X → srt X → allM X → X.length + m ≤ 80 → ntL p (sv (rl (mdP P f) m w) (bt (fulP P)) f) S = some (stpL p f pc m w S)
  | 0, _, _, _, _, _, _, _, _, _ => rfl
  | m + 1, w, S, X, hm, hrow, hrep, hs, hX, hlen => by
    have hpo := pc_own hP hf ho
    rw [← hpc] at hpo
    unfold stpL stp1 rl
    have b := nb_near f hf w (by omega)
    have a := nb_lt f hf ((w + 2) % 4) (by omega)
    by_cases hg : gs (mdP P f) w = false
    · rw [hg, if_neg (show ¬ false = true by decide)]
      have : (if nearR (4 * f + w) < 0 then S else if goesR pc (nI w) = 0 then S else if S 0 (18 * p + nrN (4 * f + w)) = 0 then noteR S p (cntR S p) (keyR (nI f) (nearR (4 * f + w)) 0) else S) = S := by
        split
        · rfl
        · rw [if_pos ((hpo.1 w (by omega)).mpr hg)]
      rw [this]
      exact stpL_nt hP hf ho hpc m (w + 1) S X (by omega) hrow hrep hs hX (by omega)
    · rw [if_pos (show gs (mdP P f) w = true by simpa using hg)]
      by_cases h : nb 1 f ((w + 2) % 4) = 99
      · rw [b.2.2.1, if_pos h, if_pos (show (-1 : Int32) < 0 by decide)]
        rw [show sv ((w + 2) % 4 :: rl (mdP P f) m (w + 1)) (bt (fulP P)) f = sv (rl (mdP P f) m (w + 1)) (bt (fulP P)) f by unfold sv; rw [List.filter_cons_of_neg (by simp [h])]]
        exact stpL_nt hP hf ho hpc m (w + 1) S X (by omega) hrow hrep hs hX (by omega)
      · have h1 : nb 1 f ((w + 2) % 4) < 18 := by rcases a.1 with z | z; exact z; exact absurd z h
        have en : nearR (4 * f + w) = nI (nb 1 f ((w + 2) % 4)) := by rw [b.2.2.1, if_neg h]
        have enN : nrN (4 * f + w) = nb 1 f ((w + 2) % 4) := by unfold nrN; rw [en]; exact nI_clamp (by omega)
        rw [en, enN, if_neg (nI_pos (by omega)), if_neg (fun z => hg ((hpo.1 w (by omega)).mp z)), hrow.1 _ h1]
        have hso := side_own hP h1
        by_cases hfu : bt (fulP P) (nb 1 f ((w + 2) % 4)) = false
        · rw [if_pos (hso.2.2.1.mpr hfu), show (0 : Int32) = nI 0 from rfl, key_cd]
          rw [show sv ((w + 2) % 4 :: rl (mdP P f) m (w + 1)) (bt (fulP P)) f = cd f (nb 1 f ((w + 2) % 4)) 0 :: sv (rl (mdP P f) m (w + 1)) (bt (fulP P)) f by unfold sv; rw [List.filter_cons_of_pos (by simp [h, hfu])]; rfl]
          rw [ntL]
          have hok := (cd_ok (T := 0) hf h1 (by omega)).1
          obtain ⟨R, g1, g2, g3⟩ := repR_note hrep hs hX hok (by omega)
          rw [g1]
          have g1' := g1
          unfold noteO at g1'
          split at g1'
          · rw [Option.some.inj g1']
            have hle := ins_le (m := cd f (nb 1 f ((w + 2) % 4)) 0) (X := X)
            exact stpL_nt hP hf ho hpc m (w + 1) R _ (by omega) (row_ne hrow (g3.1 0 (by decide) (by decide)) (g3.1 1 (by decide) (by decide))) g2 (srt_ins hs) (allM_ins hX hok) (by omega)
          · cases g1'
        · rw [if_neg (fun z => hfu (hso.2.2.1.mp z))]
          rw [show sv ((w + 2) % 4 :: rl (mdP P f) m (w + 1)) (bt (fulP P)) f = sv (rl (mdP P f) m (w + 1)) (bt (fulP P)) f by unfold sv; rw [List.filter_cons_of_neg (by simp [h]; simpa using hfu)]]
          exact stpL_nt hP hf ho hpc m (w + 1) S X (by omega) hrow hrep hs hX (by omega)
theorem genS_nt {P : Ps} (hP : WFp P) {p : Nat} : ∀ k i S X, i + k = 18 → rowOK S p P → repR S p X → srt X → allM X → X.length ≤ 4 * i → genS p k i S = ntL p ((ownL P k i).flatMap (sR P)) S
  | 0, _, _, _, _, _, _, _, _, _ => rfl
  | k + 1, i, S, X, hi, hrow, hrep, hs, hX, hlen => by
    unfold genS ownL
    have hso := side_own hP (show i < 18 by omega)
    rw [hrow.1 i (by omega), hrow.2]
    by_cases h : bt (ownP P) i = true
    · rw [if_pos (hso.1.mpr h), if_pos h, List.flatMap_cons, ntL_app]
      have hc : cntR S p = X.length := by unfold cntR; rw [hrep.1]; exact nI_clamp (by omega)
      unfold stpO
      rw [hc, if_pos ⟨hrep.1, by omega⟩]
      have hst := stpL_nt hP (show i < 18 by omega) h rfl 4 0 S X rfl hrow hrep hs hX (by omega)
      rw [rl_dR _ (mdP_lt P i)] at hst
      have e : stpR p i S = stpL p i (pieceP P ((1 : Int32) <<< (nI i &&& 31))) 4 0 S := by unfold stpR; rw [hrow.1 i (by omega)]
      rw [e]
      unfold sR
      rw [hst]
      have hsv : (sv (dR (mdP P i)) (bt (fulP P)) i).length ≤ 4 := Nat.le_trans sv_len (dCR _ (mdP_lt P i)).2.2
      have hall : allM (sv (dR (mdP P i)) (bt (fulP P)) i) := fun z hz => (sC_mem (P := P) (show i < 18 by omega) (sCR.mpr hz)).1
      have hle := insL_le (l := sv (dR (mdP P i)) (bt (fulP P)) i) (X := X)
      obtain ⟨R, g1, g2, g3⟩ := repR_L (p := p) hrep hs hX hall (by omega)
      rw [g1] at hst
      have eR := Option.some.inj hst
      rw [← eR]
      exact genS_nt hP k (i + 1) R _ (by omega) (row_ne hrow (g3.1 0 (by decide) (by decide)) (g3.1 1 (by decide) (by decide))) g2 (insL_srt hs) (fun z hz => by
        rcases insL_mem.mp hz with q | q
        · exact hX z q
        · exact hall z q) (by omega)
    · rw [if_neg (fun c => h (hso.1.mp c)), if_neg h]
      exact genS_nt hP k (i + 1) S X (by omega) hrow hrep hs hX (by omega)
theorem gen_sem : GenSem WFp := by
  intro S p P hp hrow hP h7 h8
  obtain ⟨S0, eS0⟩ : ∃ z, z = va_up S 3 (upd (S 3) p 0) := ⟨_, rfl⟩
  have hrow0 : rowOK S0 p P := row_ne hrow (by rw [eS0, va_up_ne _ _ (by decide)]) (by rw [eS0, va_up_ne _ _ (by decide)])
  have hf0 : nfr p S S0 := ⟨fun k _ h3 => by rw [eS0, va_up_ne _ _ h3], fun i _ => by rw [eS0, va_up_ne _ _ (by decide)], fun i hi => by rw [eS0, va_up_self, pk_un hi]⟩
  have hrep0 : repR S0 p [] := ⟨by rw [eS0, va_up_self, pk_us]; rfl, fun i hi => absurd hi (by simp)⟩
  have a0 : allM [] := fun _ h => by cases h
  have le1 : (insL [] (JR P)).length ≤ 79 := by have := insL_le (l := JR P) (X := []); have := (JR_ok P).2; simp at *; omega
  have le2 : (insL [] (SR P)).length ≤ 79 := by have := insL_le (l := SR P) (X := []); have := (SR_ok P).2; simp at *; omega
  obtain ⟨R1, g1, g2, g3⟩ := repR_L hrep0 srt_nil a0 (JR_ok P).1 le1
  have hmain : ∃ R, genR p S = some R ∧ repR R p (mvL P) ∧ nfr p S R := by
    unfold genR
    rw [← eS0, genJ_nt hP 18 0 S0 rfl hrow0]
    change ∃ R, (ntL p (JR P) S0).bind _ = some R ∧ _
    rw [g1]
    show ∃ R, (if R1 3 p = 0 then genS p 18 0 R1 else some R1) = some R ∧ _
    unfold mvL
    rw [XJ]
    have hrow1 : rowOK R1 p P := row_ne hrow0 (g3.1 0 (by decide) (by decide)) (g3.1 1 (by decide) (by decide))
    by_cases hc : insL [] (JR P) = []
    · rw [hc] at g2
      rw [if_pos (by rw [g2.1]; rfl), if_pos hc, XS, genS_nt hP 18 0 R1 [] rfl hrow1 g2 srt_nil a0 (by simp)]
      obtain ⟨R2, q1, q2, q3⟩ := repR_L g2 srt_nil a0 (SR_ok P).1 le2
      exact ⟨R2, q1, q2, (hf0.tr g3).tr q3⟩
    · rw [if_neg (by
        rw [g2.1]
        refine nI_ne0 ?_ (by omega)
        rcases Nat.eq_zero_or_pos (insL [] (JR P)).length with q | q
        · exact absurd (List.eq_nil_of_length_eq_zero q) hc
        · exact q), if_neg hc]
      exact ⟨R1, rfl, g2, hf0.tr g3⟩
  obtain ⟨R, h1, h2, h3⟩ := hmain
  have hl := mv_len hP.mo
  have hall := (moves_rep hP.mo (fun _ => 0)).2
  refine ⟨R, h1, ⟨⟨by rw [h2.1, hl.1], fun i hi => ?_⟩, ⟨fun i _ => by rw [h3.1 0 (by decide) (by decide)], fun i _ => by rw [h3.1 1 (by decide) (by decide)], h3.2.1, fun k hk1 hk2 i hi => ?_, h3.1 7 (by decide) (by decide), h3.1 8 (by decide) (by decide), h3.1 15 (by decide) (by decide), h3.1 16 (by decide) (by decide)⟩, fun k hk1 hk2 => h3.1 k (by omega) (by omega), h3.1 18 (by decide) (by decide), h3.1 19 (by decide) (by decide)⟩⟩
  · rw [hl.2 i hi, rk_cc (hall _ (gd_mem (by omega)))]
    exact h2.2 i (by omega)
  · by_cases e : k = 3
    · subst e; exact h3.2.2 i (by omega)
    · rw [h3.1 k (by omega) e]
