/-! the reference's jumps and steps are those of the search -/
theorem key_cd {f t T : Nat} : keyR (nI f) (nI t) (nI T) = nI (cd f t T) := by
  unfold keyR cd
  rw [show (262144 : Int32) = nI 262144 from rfl, show (18 : Int32) = nI 18 from rfl, pk_mul, nI_add, pk_mul, nI_add, Nat.mul_comm 262144]
theorem add_or {T o : Nat} (ho : o < 18) (h : T.testBit o = false) : nI T + ((1 : Int32) <<< (nI o &&& 31)) = nI (T ||| 2 ^ o) := by
  rw [← nx_or, ← sh_nI o (by omega)]
  apply Int32.toBitVec_inj.1
  rw [Int32.toBitVec_add, Int32.toBitVec_or]
  apply BitVec.add_eq_or_of_and_eq_zero
  apply BitVec.eq_of_getLsbD_eq
  intro i hi
  rw [BitVec.getLsbD_and]
  show (bt (nI T) i && bt ((1 : Int32) <<< (nI o &&& 31)) i) = _
  rw [bt_nI _ hi, bt_sh (by omega) hi, BitVec.getLsbD_zero]
  by_cases e : i = o
  · subst e; rw [h]; rfl
  · simp [e]
theorem nb_rf {u w : Nat} (hu : u < 18) (hw : w < 4) (h : nb 2 u ((w + 2) % 4) ≠ 99) : nb 1 u ((w + 2) % 4) < 18 ∧ nb 2 u ((w + 2) % 4) < 18 ∧ nearR (4 * u + w) = nI (nb 1 u ((w + 2) % 4)) ∧ farR (4 * u + w) = nI (nb 2 u ((w + 2) % 4)) ∧ nrN (4 * u + w) = nb 1 u ((w + 2) % 4) ∧ frN (4 * u + w) = nb 2 u ((w + 2) % 4) := by
  have a := nb_lt u hu ((w + 2) % 4) (by omega)
  have b := nb_near u hu w hw
  have h1 := a.2.2 h
  have h2 : nb 2 u ((w + 2) % 4) < 18 := by rcases a.2.1 with z | z; exact z; exact absurd z h
  have e1 : nearR (4 * u + w) = nI (nb 1 u ((w + 2) % 4)) := by rw [b.2.2.1, if_neg (by omega)]
  have e2 : farR (4 * u + w) = nI (nb 2 u ((w + 2) % 4)) := by rw [b.2.2.2, if_neg h]
  refine ⟨h1, h2, e1, e2, ?_, ?_⟩
  · unfold nrN; rw [e1]; exact nI_clamp (by omega)
  · unfold frN; rw [e2]; exact nI_clamp (by omega)
theorem kd_ref {P : Ps} (hP : WFp P) {S : Nat → Nat → Int32} {p f u w T : Nat} (hrow : rowOK S p P) (hf : f < 18) (hu : u < 18) (hw : w < 4) : leapR S p (nI f) u w (nI T) = 0 ↔ kd (prP P) (frP P f) T u ((w + 2) % 4) = false := by
  unfold leapR kd
  by_cases h : nb 2 u ((w + 2) % 4) = 99
  · have b := nb_near u hu w hw
    rw [b.2.2.2, if_pos h, if_pos (by decide), h]
    simp
  · obtain ⟨h1, h2, e1, e2, e3, e4⟩ := nb_rf hu hw h
    rw [e1, e2, e3, e4, if_neg (nI_pos (by omega)), hrow.1 _ h1, hrow.1 _ h2, hrow.2]
    have a := side_own hP h1
    have b := side_own hP h2
    simp only [bit_o (nI T) (show nb 1 u ((w + 2) % 4) < 32 by omega), bt_nI T (show nb 1 u ((w + 2) % 4) < 32 by omega), a.2.1, b.2.2.1, nI_eq (show nb 2 u ((w + 2) % 4) < 2 ^ 31 by omega) (show f < 2 ^ 31 by omega)]
    unfold prP frP
    generalize hx : T.testBit (nb 1 u ((w + 2) % 4)) = x
    generalize hy : bt (othP P) (nb 1 u ((w + 2) % 4)) = y
    generalize hz : bt (fulP P) (nb 2 u ((w + 2) % 4)) = z
    by_cases es : nb 2 u ((w + 2) % 4) = f
    · cases x <;> cases y <;> cases z <;> simp [es, show ¬ f = 99 by omega]
    · cases x <;> cases y <;> cases z <;> simp [es, h]
theorem ntL_ne {p : Nat} : ∀ {l : List Nat} {S R : Nat → Nat → Int32}, ntL p l S = some R → ∀ k, k ≠ 2 → k ≠ 3 → R k = S k
  | [], S, R, h => by intro k _ _; rw [← Option.some.inj h]
  | m :: l, S, R, h => by
    intro k h2 h3
    rw [ntL] at h
    obtain ⟨Q, h1, h4⟩ := Option.bind_eq_some_iff.mp h
    rw [ntL_ne h4 k h2 h3, noteO_ne h1 k h2 h3]
theorem row_ne {S R : Nat → Nat → Int32} {p : Nat} {P : Ps} (h : rowOK S p P) (h0 : R 0 = S 0) (h1 : R 1 = S 1) : rowOK R p P := by
  unfold rowOK; rw [h0, h1]; exact h
def rl (md : Nat) : Nat → Nat → List Nat
  | 0, _ => []
  | m + 1, w => if gs md w then ((w + 2) % 4) :: rl md m (w + 1) else rl md m (w + 1)
theorem rl_dR : ∀ md, md < 3 → rl md 4 0 = dR md := by decide
theorem crown_no : ∀ md, md < 2 → ∀ g, g < 18 → (md = 0 → 15 ≤ g) → (md = 1 → g < 3) → ∀ w, w ∈ dR md → nb 2 g w = 99 := by decide
theorem jv_crown {md : Nat} {pr fr : Nat → Bool} {f k g T : Nat} (hmd : md < 2) (hg : g < 18) (h0 : md = 0 → 15 ≤ g) (h1 : md = 1 → g < 3) (hT : T ≠ 0) : jv (dR md) pr fr f k g T = [cd f g T] := by
  have hl : lf f g T = [cd f g T] := by unfold lf; rw [if_neg hT]
  cases k with
  | zero => exact hl
  | succ k =>
    unfold jv
    have : (dR md).filter (kd pr fr T g) = [] := by
      rw [List.filter_eq_nil_iff]
      intro w hw
      unfold kd
      rw [crown_no md hmd g hg h0 h1 w hw]
      simp
    rw [this]; exact hl
theorem row3 : ∀ g, g < 18 → rowR (nI g) = nI (g / 3) := by decide +kernel
theorem or_ne0 {T o : Nat} : T ||| 2 ^ o ≠ 0 := by
  intro h
  have := congrArg (fun z => Nat.testBit z o) h
  simp at this
theorem dfL_jv {P : Ps} (hP : WFp P) {p f u T k : Nat} {pc : Int32} {rc : Nat → Int32 → (Nat → Nat → Int32) → Option (Nat → Nat → Int32)} (hf : f < 18) (ho : bt (ownP P) f = true) (hpc : pc = pieceP P ((1 : Int32) <<< (nI f &&& 31))) (hu : u < 18) (hT : T < 262144) (hrc : ∀ w S, w < 4 → rowOK S p P → kd (prP P) (frP P f) T u ((w + 2) % 4) = true → gs (mdP P f) w = true → rc (nb 2 u ((w + 2) % 4)) (nI (T ||| 2 ^ nb 1 u ((w + 2) % 4))) S = ntL p (jv (dR (mdP P f)) (prP P) (frP P f) f k (nb 2 u ((w + 2) % 4)) (T ||| 2 ^ nb 1 u ((w + 2) % 4))) S) : ∀ m w c S, w + m = 4 → rowOK S p P → dfL p f pc rc u (nI T) m w c S = (ntL p (((rl (mdP P f) m w).filter (kd (prP P) (frP P f) T u)).flatMap (fun w => jv (dR (mdP P f)) (prP P) (frP P f) f k (nb 2 u w) (T ||| 2 ^ nb 1 u w))) S).map (fun R => (R, c || !((rl (mdP P f) m w).filter (kd (prP P) (frP P f) T u)).isEmpty))
  | 0, w, c, S, _, _ => by
    unfold dfL rl
    simp [ntL]
  | m + 1, w, c, S, hm, hrow => by
    have hpo := pc_own hP hf ho
    rw [← hpc] at hpo
    unfold dfL rl
    by_cases hg : gs (mdP P f) w = false
    · rw [if_pos ((hpo.1 w (by omega)).mpr hg), hg, if_neg (by decide)]
      exact dfL_jv hP hf ho hpc hu hT hrc m (w + 1) c S (by omega) hrow
    · rw [if_neg (fun z => hg ((hpo.1 w (by omega)).mp z)), if_pos (show gs (mdP P f) w = true by simpa using hg)]
      by_cases hk : kd (prP P) (frP P f) T u ((w + 2) % 4) = false
      · rw [if_pos ((kd_ref hP hrow hf hu (by omega)).mpr hk), List.filter_cons_of_neg (by rw [hk]; decide)]
        exact dfL_jv hP hf ho hpc hu hT hrc m (w + 1) c S (by omega) hrow
      · have hk1 : kd (prP P) (frP P f) T u ((w + 2) % 4) = true := by simpa using hk
        rw [if_neg (fun z => hk ((kd_ref hP hrow hf hu (by omega)).mp z)), List.filter_cons_of_pos hk1, List.flatMap_cons, ntL_app]
        have h99 : nb 2 u ((w + 2) % 4) ≠ 99 := by
          intro e
          unfold kd at hk1
          rw [e] at hk1
          simp at hk1
        have hbit : T.testBit (nb 1 u ((w + 2) % 4)) = false := by
          unfold kd at hk1
          simp only [Bool.and_eq_true, Bool.not_eq_true'] at hk1
          exact hk1.2.2.1
        obtain ⟨h1, h2, e1, e2, e3, e4⟩ := nb_rf hu (show w < 4 by omega) h99
        rw [e1, e2, e4, add_or h1 hbit]
        have hsame : (if kingR pc = 0 ∧ rowR (nI (nb 2 u ((w + 2) % 4))) = crownR (sideR pc) then (noteO p S (keyR (nI f) (nI (nb 2 u ((w + 2) % 4))) (nI (T ||| 2 ^ nb 1 u ((w + 2) % 4))))).bind (dfL p f pc rc u (nI T) m (w + 1) true) else (rc (nb 2 u ((w + 2) % 4)) (nI (T ||| 2 ^ nb 1 u ((w + 2) % 4))) S).bind (dfL p f pc rc u (nI T) m (w + 1) true)) = (ntL p (jv (dR (mdP P f)) (prP P) (frP P f) f k (nb 2 u ((w + 2) % 4)) (T ||| 2 ^ nb 1 u ((w + 2) % 4))) S).bind (dfL p f pc rc u (nI T) m (w + 1) true) := by
          by_cases hcr : kingR pc = 0 ∧ rowR (nI (nb 2 u ((w + 2) % 4))) = crownR (sideR pc)
          · rw [if_pos hcr, key_cd]
            have hmd : mdP P f < 2 := by have := mdP_lt P f; have := hpo.2.1.mp hcr.1; omega
            rw [row3 _ h2] at hcr
            rw [jv_crown hmd h2 (fun z => by
              have hc := hcr.2
              rw [hpo.2.2.1 z, show (5 : Int32) = nI 5 from rfl, nI_eq (by omega) (by omega)] at hc
              omega) (fun z => by
              have hc := hcr.2
              rw [hpo.2.2.2 z, show (0 : Int32) = nI 0 from rfl, nI_eq (by omega) (by omega)] at hc
              omega) or_ne0]
            rw [ntL]
            cases noteO p S (nI (cd f (nb 2 u ((w + 2) % 4)) (T ||| 2 ^ nb 1 u ((w + 2) % 4)))) <;> rfl
          · rw [if_neg hcr, hrc w S (by omega) hrow hk1 (by simpa using hg)]
        rw [hsame]
        cases hn : ntL p (jv (dR (mdP P f)) (prP P) (frP P f) f k (nb 2 u ((w + 2) % 4)) (T ||| 2 ^ nb 1 u ((w + 2) % 4))) S with
        | none => rfl
        | some R =>
          have hrowR : rowOK R p P := row_ne hrow (ntL_ne hn 0 (by decide) (by decide)) (ntL_ne hn 1 (by decide) (by decide))
          show dfL p f pc rc u (nI T) m (w + 1) true R = (ntL p _ R).map _
          rw [dfL_jv hP hf ho hpc hu hT hrc m (w + 1) true R (by omega) hrowR]
          congr 1
          funext Q
          simp
theorem dfN_jv {P : Ps} (hP : WFp P) {p f : Nat} {pc : Int32} (hf : f < 18) (ho : bt (ownP P) f = true) (hpc : pc = pieceP P ((1 : Int32) <<< (nI f &&& 31))) : ∀ k root u T S, dp (dR (mdP P f)) (prP P) (frP P f) k u T = true → rowOK S p P → u < 18 → T < 262144 → (root = true ↔ T = 0) → dfN p f pc k root u (nI T) S = ntL p (jv (dR (mdP P f)) (prP P) (frP P f) f k u T) S
  | 0, root, u, T, S, hd, _, _, _, _ => by unfold dp at hd; cases hd
  | k + 1, root, u, T, S, hd, hrow, hu, hT, hr => by
    unfold dfN jv
    unfold dp at hd
    rw [List.all_eq_true] at hd
    have hmem : ∀ w, w < 4 → gs (mdP P f) w = true → (w + 2) % 4 ∈ dR (mdP P f) := by
      have : ∀ md, md < 3 → ∀ w, w < 4 → gs md w = true → (w + 2) % 4 ∈ dR md := by decide
      exact this _ (mdP_lt P f)
    rw [dfL_jv (k := k) hP hf ho hpc hu hT (fun w S hw hrow hk hg => by
      have h99 : nb 2 u ((w + 2) % 4) ≠ 99 := by
        intro e
        unfold kd at hk
        rw [e] at hk
        simp at hk
      obtain ⟨h1, h2, e1, e2, e3, e4⟩ := nb_rf hu hw h99
      exact dfN_jv hP hf ho hpc k false _ _ S (hd _ (List.mem_filter.mpr ⟨hmem w hw hg, hk⟩)) hrow h2 (or_lt18 hT h1) ⟨fun c => Bool.noConfusion c, fun c => absurd c or_ne0⟩) 4 0 false S rfl hrow, rl_dR _ (mdP_lt P f)]
    cases hfl : (dR (mdP P f)).filter (kd (prP P) (frP P f) T u) with
    | nil =>
      show dfE p f u (nI T) root (S, false) = ntL p (lf f u T) S
      unfold dfE lf
      by_cases h0 : T = 0
      · rw [if_pos (hr.mpr h0), if_pos h0]; rfl
      · rw [if_neg (fun c => h0 (hr.mp c)), if_neg (show ¬ false = true by decide), if_neg h0, key_cd, ntL]
        cases noteO p S (nI (cd f u T)) <;> rfl
    | cons w r =>
      show ((ntL p ((w :: r).flatMap _) S).map _).bind _ = ntL p ((w :: r).flatMap _) S
      cases ntL p ((w :: r).flatMap (fun w => jv (dR (mdP P f)) (prP P) (frP P f) f k (nb 2 u w) (T ||| 2 ^ nb 1 u w))) S with
      | none => rfl
      | some R =>
        show dfE p f u (nI T) root (R, true) = some R
        unfold dfE
        split
        · rfl
        · rfl
