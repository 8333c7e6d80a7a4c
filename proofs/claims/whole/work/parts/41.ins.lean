/-! moves as numbers, and sorted lists of them -/
def cd (f t T : Nat) : Nat := (18 * f + t) * 262144 + T
def cF (m : Nat) : Nat := m / 262144 / 18
def cG (m : Nat) : Nat := m / 262144 % 18
def cT (m : Nat) : Nat := m % 262144
def cc (m : Nat) : Nat := cF m * 8388608 + cG m * 262144 + cT m
def okM (m : Nat) : Prop := m < 84934656
theorem cd_ok {f t T : Nat} (hf : f < 18) (ht : t < 18) (hT : T < 262144) : okM (cd f t T) ∧ cF (cd f t T) = f ∧ cG (cd f t T) = t ∧ cT (cd f t T) = T := by
  unfold okM cF cG cT cd
  refine ⟨?_, ?_, ?_, ?_⟩ <;> omega
theorem cd_of {m : Nat} (h : okM m) : cF m < 18 ∧ cG m < 18 ∧ cT m < 262144 ∧ cd (cF m) (cG m) (cT m) = m := by
  unfold okM at h; unfold cF cG cT cd
  refine ⟨?_, ?_, ?_, ?_⟩ <;> omega
theorem cc_lt {m : Nat} (h : okM m) : cc m < 2 ^ 31 := by
  unfold okM at h; unfold cc cF cG cT
  omega
theorem cc_mono {m n : Nat} (h : m < n) : cc m < cc n := by
  unfold cc cF cG cT
  rcases Nat.lt_or_ge (m / 262144) (n / 262144) with h2 | h2
  · have h3 : m / 262144 / 18 * 32 + m / 262144 % 18 < n / 262144 / 18 * 32 + n / 262144 % 18 := by omega
    omega
  · have h3 : m / 262144 = n / 262144 := by omega
    rw [h3]; omega
theorem cc_le {m n : Nat} : cc m ≤ cc n ↔ m ≤ n := by
  constructor
  · intro h
    rcases Nat.lt_or_ge n m with h2 | h2
    · have := cc_mono h2; omega
    · exact h2
  · intro h
    rcases Nat.lt_or_ge m n with h2 | h2
    · exact Nat.le_of_lt (cc_mono h2)
    · have : m = n := by omega
      rw [this]; exact Nat.le_refl _
def ins (m : Nat) : List Nat → List Nat
  | [] => [m]
  | x :: r => if m < x then m :: x :: r else if m = x then x :: r else x :: ins m r
def srt (X : List Nat) : Prop := X.Pairwise (· < ·)
theorem mem_ins {m x : Nat} : ∀ {X : List Nat}, x ∈ ins m X ↔ x = m ∨ x ∈ X
  | [] => by simp [ins]
  | y :: r => by
    unfold ins
    split
    · simp
    · split
      · rename_i h; subst h; simp
      · simp only [List.mem_cons, mem_ins (X := r)]
        constructor
        · rintro (h | h | h) <;> simp [h]
        · rintro (h | h | h) <;> simp [h]
theorem srt_ins {m : Nat} : ∀ {X : List Nat}, srt X → srt (ins m X)
  | [], _ => by unfold srt ins; simp
  | y :: r, h => by
    have h1 := List.pairwise_cons.mp h
    unfold ins
    split
    · rename_i hm
      refine List.pairwise_cons.mpr ⟨fun a ha => ?_, h⟩
      rcases List.mem_cons.mp ha with e | e
      · rw [e]; exact hm
      · exact Nat.lt_trans hm (h1.1 a e)
    · split
      · exact h
      · refine List.pairwise_cons.mpr ⟨fun a ha => ?_, srt_ins h1.2⟩
        rcases mem_ins.mp ha with e | e
        · omega
        · exact h1.1 a e
theorem ins_mem {m : Nat} : ∀ {X : List Nat}, srt X → m ∈ X → ins m X = X
  | [], _, h => by cases h
  | y :: r, h, hm => by
    have h1 := List.pairwise_cons.mp h
    unfold ins
    rcases List.mem_cons.mp hm with e | e
    · subst e; rw [if_neg (by omega), if_pos rfl]
    · have := h1.1 m e
      rw [if_neg (by omega), if_neg (by omega), ins_mem h1.2 e]
theorem ins_le {m : Nat} : ∀ {X : List Nat}, X.length ≤ (ins m X).length ∧ (ins m X).length ≤ X.length + 1
  | [] => by simp [ins]
  | y :: r => by
    have := ins_le (m := m) (X := r)
    unfold ins
    split
    · simp
    · split
      · simp
      · simp only [List.length_cons]; omega
theorem ins_at {m : Nat} : ∀ {X : List Nat} {q : Nat}, q ≤ X.length → (∀ i, i < q → X.getD i 0 < m) → (∀ i, q ≤ i → i < X.length → m < X.getD i 0) → (ins m X).length = X.length + 1 ∧ ∀ i, i ≤ X.length → (ins m X).getD i 0 = if i < q then X.getD i 0 else if i = q then m else X.getD (i - 1) 0
  | [], q, hq, h1, h2 => by
    have hq0 : q = 0 := by simpa using hq
    subst hq0
    refine ⟨rfl, fun i hi => ?_⟩
    have hi0 : i = 0 := by simpa using hi
    subst hi0
    rfl
  | x :: r, q, hq, h1, h2 => by
    unfold ins
    cases q with
    | zero =>
      have hx : m < x := by simpa using h2 0 (by omega) (by simp)
      rw [if_pos hx]
      refine ⟨rfl, fun i hi => ?_⟩
      cases i with
      | zero => rfl
      | succ i => rw [if_neg (by omega), if_neg (by omega)]; simp
    | succ q =>
      have hx : x < m := by simpa using h1 0 (by omega)
      rw [if_neg (by omega), if_neg (by omega)]
      have ih := ins_at (m := m) (X := r) (q := q) (by simpa using hq) (fun i hi => by simpa using h1 (i + 1) (by omega)) (fun i hi hl => by simpa using h2 (i + 1) (by omega) (by simpa using hl))
      refine ⟨by simp [ih.1], fun i hi => ?_⟩
      cases i with
      | zero => rw [if_pos (by omega)]; rfl
      | succ i =>
        rw [List.getD_cons_succ, ih.2 i (by simpa using hi)]
        by_cases hiq : i < q
        · rw [if_pos hiq, if_pos (by omega), List.getD_cons_succ]
        · rw [if_neg hiq, if_neg (show ¬ i + 1 < q + 1 by omega)]
          by_cases he : i = q
          · rw [if_pos he, if_pos (show i + 1 = q + 1 by omega)]
          · rw [if_neg he, if_neg (show ¬ i + 1 = q + 1 by omega)]
            cases i with
            | zero => omega
            | succ j => simp
theorem ins_len {m : Nat} : ∀ {X : List Nat}, srt X → (ins m X).length = X.length → m ∈ X
  | [], _, h => by simp [ins] at h
  | y :: r, hs, h => by
    unfold ins at h
    split at h
    · simp at h
    · split at h
      · rename_i e; rw [e]; exact List.mem_cons_self
      · exact List.mem_cons_of_mem _ (ins_len (List.pairwise_cons.mp hs).2 (by simpa using h))
theorem srt_get {X : List Nat} (h : srt X) {i j : Nat} (hij : i < j) (hj : j < X.length) : X.getD i 0 < X.getD j 0 := by
  rw [List.getD_eq_getElem?_getD, List.getD_eq_getElem?_getD, List.getElem?_eq_getElem (by omega), List.getElem?_eq_getElem hj]
  exact List.pairwise_iff_getElem.mp h i j (by omega) hj hij
theorem gd_mem {X : List Nat} {i : Nat} (h : i < X.length) : X.getD i 0 ∈ X := by
  rw [List.getD_eq_getElem?_getD, List.getElem?_eq_getElem h]; exact List.getElem_mem h
theorem mem_gd {X : List Nat} {m : Nat} (h : m ∈ X) : ∃ i, i < X.length ∧ X.getD i 0 = m := by
  obtain ⟨i, hi, e⟩ := List.getElem_of_mem h
  exact ⟨i, hi, by rw [List.getD_eq_getElem?_getD, List.getElem?_eq_getElem hi]; exact e⟩
theorem srt_ext : ∀ {X Y : List Nat}, srt X → srt Y → (∀ m, m ∈ X ↔ m ∈ Y) → X = Y
  | [], [], _, _, _ => rfl
  | [], y :: s, _, _, h => by have := (h y).mpr (by simp); cases this
  | x :: r, [], _, _, h => by have := (h x).mp (by simp); cases this
  | x :: r, y :: s, hX, hY, h => by
    have h1 := List.pairwise_cons.mp hX
    have h2 := List.pairwise_cons.mp hY
    have hxy : x = y := by
      rcases List.mem_cons.mp ((h x).mp (by simp)) with e | e
      · exact e
      · rcases List.mem_cons.mp ((h y).mpr (by simp)) with e2 | e2
        · exact e2.symm
        · have a := h2.1 x e; have b := h1.1 y e2; omega
    subst hxy
    congr 1
    refine srt_ext h1.2 h2.2 (fun m => ?_)
    constructor
    · intro hm
      rcases List.mem_cons.mp ((h m).mp (List.mem_cons_of_mem _ hm)) with e | e
      · have := h1.1 m hm; omega
      · exact e
    · intro hm
      rcases List.mem_cons.mp ((h m).mpr (List.mem_cons_of_mem _ hm)) with e | e
      · have := h2.1 m hm; omega
      · exact e
def insL (X : List Nat) : List Nat → List Nat
  | [] => X
  | m :: l => insL (ins m X) l
theorem insL_mem {x : Nat} : ∀ {l X : List Nat}, x ∈ insL X l ↔ x ∈ X ∨ x ∈ l
  | [], X => by simp [insL]
  | m :: l, X => by
    rw [insL, insL_mem (l := l), mem_ins, List.mem_cons]
    constructor
    · rintro ((h | h) | h) <;> simp [h]
    · rintro (h | h | h) <;> simp [h]
theorem insL_srt : ∀ {l X : List Nat}, srt X → srt (insL X l)
  | [], _, h => h
  | _ :: l, _, h => insL_srt (l := l) (srt_ins h)
theorem insL_le : ∀ {l X : List Nat}, X.length ≤ (insL X l).length ∧ (insL X l).length ≤ X.length + l.length
  | [], X => ⟨Nat.le_refl _, Nat.le_refl _⟩
  | m :: l, X => by
    have h1 := insL_le (l := l) (X := ins m X)
    have h2 := ins_le (m := m) (X := X)
    rw [insL, List.length_cons]; omega
theorem insL_app {a b X : List Nat} : insL X (a ++ b) = insL (insL X a) b := by
  induction a generalizing X with
  | nil => rfl
  | cons m a ih => rw [List.cons_append, insL, insL, ih]
def allM (X : List Nat) : Prop := ∀ m, m ∈ X → okM m
theorem allM_ins {m : Nat} {X : List Nat} (h : allM X) (hm : okM m) : allM (ins m X) := fun x hx => by
  rcases mem_ins.mp hx with e | e
  · rw [e]; exact hm
  · exact h x e
/-! the class's list -/
def repC (S : LSt) (X : List Nat) : Prop := S.2 = X.length ∧ ∀ i, i < X.length → S.1 i = nI (cc (X.getD i 0))
theorem plc_spec (f : Nat → Int32) (v : Int32) : ∀ n, plc f v n ≤ n ∧ (0 < plc f v n → f (plc f v n - 1) ≤ v) ∧ ∀ i, plc f v n ≤ i → i < n → ¬ f i ≤ v
  | 0 => ⟨Nat.le_refl _, fun h => absurd h (by unfold plc; omega), fun i _ h => absurd h (by omega)⟩
  | n + 1 => by
    have ih := plc_spec f v n
    unfold plc
    by_cases h : f n ≤ v
    · rw [if_pos h]; exact ⟨Nat.le_refl _, fun _ => h, fun i h1 h2 => by omega⟩
    · rw [if_neg h]
      refine ⟨by omega, ih.2.1, fun i h1 h2 => ?_⟩
      by_cases hi : i = n
      · subst hi; exact h
      · exact ih.2.2 i h1 (by omega)
theorem repC_enter {S : LSt} {X : List Nat} {m : Nat} (h : repC S X) (hs : srt X) (hX : allM X) (hm : okM m) (hl : X.length < 72 ∨ m ∈ X) : repC (enterF S.1 S.2 (nI (cc m))) (ins m X) := by
  have hle : ∀ i, i < X.length → (S.1 i ≤ nI (cc m) ↔ X.getD i 0 ≤ m) := fun i hi => by
    rw [h.2 i hi, nI_leI (cc_lt (hX _ (gd_mem hi))) (cc_lt hm), cc_le]
  have heq : ∀ i, i < X.length → (S.1 i = nI (cc m) ↔ X.getD i 0 = m) := fun i hi => by
    rw [h.2 i hi, nI_eq (cc_lt (hX _ (gd_mem hi))) (cc_lt hm)]
    constructor
    · intro e
      have a : X.getD i 0 ≤ m := cc_le.mp (by omega)
      have b : m ≤ X.getD i 0 := cc_le.mp (by omega)
      omega
    · intro e; rw [e]
  have hp := plc_spec S.1 (nI (cc m)) S.2
  unfold enterF
  rw [h.1] at hp ⊢
  by_cases hk : 0 < plc S.1 (nI (cc m)) X.length ∧ S.1 (plc S.1 (nI (cc m)) X.length - 1) = nI (cc m)
  · rw [if_pos (Or.inl hk)]
    have hmem : m ∈ X := by
      rw [← (heq _ (by omega)).mp hk.2]; exact gd_mem (by omega)
    rw [ins_mem hs hmem]
    exact ⟨rfl, h.2⟩
  · have hnm : m ∉ X := by
      intro hmem
      obtain ⟨i, hi, ei⟩ := mem_gd hmem
      apply hk
      have h1 : i < plc S.1 (nI (cc m)) X.length := by
        rcases Nat.lt_or_ge i (plc S.1 (nI (cc m)) X.length) with a | a
        · exact a
        · exact absurd ((hle i hi).mpr (by omega)) (hp.2.2 i a hi)
      refine ⟨by omega, (heq _ (by omega)).mpr ?_⟩
      have h2 := (hle _ (by omega)).mp (hp.2.1 (by omega))
      rcases Nat.lt_or_ge i (plc S.1 (nI (cc m)) X.length - 1) with a | a
      · have := srt_get hs a (by omega); omega
      · have : i = plc S.1 (nI (cc m)) X.length - 1 := by omega
        rw [← this]; exact ei
    have h72 : ¬ 72 ≤ X.length := by
      rcases hl with a | a
      · omega
      · exact absurd a hnm
    rw [if_neg (fun c => by rcases c with c | c; exact hk c; exact h72 c)]
    have hat := ins_at (m := m) (X := X) (q := plc S.1 (nI (cc m)) X.length) hp.1 (fun i hi => by
      have h2 := (hle _ (by omega)).mp (hp.2.1 (by omega))
      have h3 : X.getD i 0 ≤ m := by
        rcases Nat.lt_or_ge i (plc S.1 (nI (cc m)) X.length - 1) with a | a
        · have := srt_get hs a (by omega); omega
        · have : i = plc S.1 (nI (cc m)) X.length - 1 := by omega
          rw [this]; exact h2
      rcases Nat.lt_or_ge (X.getD i 0) m with a | a
      · exact a
      · exact absurd (by rw [show m = X.getD i 0 by omega]; exact gd_mem (by omega)) hnm) (fun i h1 h2 => by
      have := hp.2.2 i h1 h2
      rw [hle i h2] at this
      omega)
    refine ⟨hat.1.symm, fun i hi => ?_⟩
    rw [hat.1] at hi
    show (if i < plc S.1 (nI (cc m)) X.length then S.1 i else if i = plc S.1 (nI (cc m)) X.length then nI (cc m) else if i ≤ X.length then S.1 (i - 1) else S.1 i) = _
    rw [hat.2 i (by omega)]
    by_cases a : i < plc S.1 (nI (cc m)) X.length
    · rw [if_pos a, if_pos a, h.2 i (by omega)]
    · rw [if_neg a, if_neg a]
      by_cases b : i = plc S.1 (nI (cc m)) X.length
      · rw [if_pos b, if_pos b]
      · rw [if_neg b, if_neg b, if_pos (by omega), h.2 (i - 1) (by omega)]
def etL (S : LSt) : List Nat → LSt
  | [] => S
  | m :: l => etL (enterF S.1 S.2 (nI (cc m))) l
theorem etL_app {a b : List Nat} {S : LSt} : etL S (a ++ b) = etL (etL S a) b := by
  induction a generalizing S with
  | nil => rfl
  | cons m a ih => rw [List.cons_append, etL, etL, ih]
theorem repC_L : ∀ {l : List Nat} {S : LSt} {X : List Nat}, repC S X → srt X → allM X → allM l → (insL X l).length ≤ 72 → repC (etL S l) (insL X l) ∧ allM (insL X l)
  | [], S, X, h, _, hX, _, _ => ⟨h, hX⟩
  | m :: l, S, X, h, hs, hX, hl, h72 => by
    rw [insL] at h72
    have hm : okM m := hl m (by simp)
    have h1 : X.length < 72 ∨ m ∈ X := by
      by_cases hmem : m ∈ X
      · exact Or.inr hmem
      · left
        have a := insL_le (l := l) (X := ins m X)
        rcases Nat.lt_or_ge X.length 72 with b | b
        · exact b
        · exfalso
          have c : (ins m X).length = X.length := by have := ins_le (m := m) (X := X); omega
          apply hmem
          exact ins_len hs c
    exact repC_L (l := l) (repC_enter h hs hX hm h1) (srt_ins hs) (allM_ins hX hm) (fun x hx => hl x (List.mem_cons_of_mem _ hx)) h72
/-! the reference's list -/
def repR (S : Nat → Nat → Int32) (p : Nat) (X : List Nat) : Prop := S 3 p = nI X.length ∧ ∀ i, i < X.length → S 2 (80 * p + i) = nI (X.getD i 0)
def nfr (p : Nat) (S R : Nat → Nat → Int32) : Prop := (∀ k, k ≠ 2 → k ≠ 3 → R k = S k) ∧ (∀ i, i < 80 * p → R 2 i = S 2 i) ∧ ∀ i, i ≠ p → R 3 i = S 3 i
theorem nfr.rf {p : Nat} {S : Nat → Nat → Int32} : nfr p S S := ⟨fun _ _ _ => rfl, fun _ _ => rfl, fun _ _ => rfl⟩
theorem nfr.tr {p : Nat} {S R Q : Nat → Nat → Int32} (h : nfr p S R) (h2 : nfr p R Q) : nfr p S Q := ⟨fun k a b => (h2.1 k a b).trans (h.1 k a b), fun i a => (h2.2.1 i a).trans (h.2.1 i a), fun i a => (h2.2.2 i a).trans (h.2.2 i a)⟩
theorem rplc_spec (f : Nat → Int32) (v : Int32) : ∀ k b, b ≤ rplc f v k b ∧ rplc f v k b ≤ b + k ∧ (∀ i, b ≤ i → i < rplc f v k b → ¬ v ≤ f i) ∧ (rplc f v k b < b + k → v ≤ f (rplc f v k b))
  | 0, b => ⟨Nat.le_refl _, Nat.le_refl _, fun i h1 h2 => absurd h2 (by unfold rplc; omega), fun h => absurd h (by unfold rplc; omega)⟩
  | k + 1, b => by
    have ih := rplc_spec f v k (b + 1)
    unfold rplc
    by_cases h : v ≤ f b
    · rw [if_pos h]; exact ⟨Nat.le_refl _, by omega, fun i h1 h2 => by omega, fun _ => h⟩
    · rw [if_neg h]
      refine ⟨by omega, by omega, fun i h1 h2 => ?_, fun hh => ih.2.2.2 (by omega)⟩
      by_cases hi : i = b
      · subst hi; exact h
      · exact ih.2.2.1 i (by omega) h2
theorem ok31 {m : Nat} (h : okM m) : m < 2 ^ 31 := by unfold okM at h; omega
theorem repR_note {S : Nat → Nat → Int32} {p : Nat} {X : List Nat} {m : Nat} (h : repR S p X) (hs : srt X) (hX : allM X) (hm : okM m) (hl : X.length < 80) : ∃ R, noteO p S (nI m) = some R ∧ repR R p (ins m X) ∧ nfr p S R := by
  have hc : cntR S p = X.length := by unfold cntR; rw [h.1]; exact nI_clamp (by omega)
  have hle : ∀ i, i < X.length → (nI m ≤ S 2 (80 * p + i) ↔ m ≤ X.getD i 0) := fun i hi => by
    rw [h.2 i hi, nI_leI (ok31 hm) (ok31 (hX _ (gd_mem hi)))]
  have heq : ∀ i, i < X.length → (S 2 (80 * p + i) = nI m ↔ X.getD i 0 = m) := fun i hi => by
    rw [h.2 i hi, nI_eq (ok31 (hX _ (gd_mem hi))) (ok31 hm)]
  have hp := rplc_spec (S 2) (nI m) X.length (80 * p)
  obtain ⟨q, hq⟩ : ∃ q, rplc (S 2) (nI m) X.length (80 * p) = 80 * p + q := ⟨rplc (S 2) (nI m) X.length (80 * p) - 80 * p, by omega⟩
  rw [hq] at hp
  unfold noteO
  rw [hc, if_pos ⟨h.1, hl⟩]
  refine ⟨_, rfl, ?_⟩
  unfold noteR
  rw [hq]
  have hlo : ∀ i, i < q → X.getD i 0 < m := fun i hi => by
    have := hp.2.2.1 (80 * p + i) (by omega) (by omega)
    rw [hle i (by omega)] at this
    omega
  by_cases hk : 80 * p + q < 80 * p + X.length ∧ S 2 (80 * p + q) = nI m
  · rw [if_pos hk]
    have hmem : m ∈ X := by
      rw [← (heq q (by omega)).mp hk.2]; exact gd_mem (by omega)
    rw [ins_mem hs hmem]
    exact ⟨h, nfr.rf⟩
  · rw [if_neg hk]
    have hhi : ∀ i, q ≤ i → i < X.length → m < X.getD i 0 := fun i h1 h2 => by
      have a : m ≤ X.getD q 0 := (hle q (by omega)).mp (hp.2.2.2 (by omega))
      have b : X.getD q 0 ≠ m := fun e => hk ⟨by omega, (heq q (by omega)).mpr e⟩
      rcases Nat.lt_or_ge q i with c | c
      · have := srt_get hs c h2; omega
      · have : i = q := by omega
        rw [this]; omega
    have hat := ins_at (m := m) (X := X) (q := q) (by omega) hlo hhi
    refine ⟨⟨?_, fun i hi => ?_⟩, fun k h2 h3 => ?_, fun i hi => ?_, fun i hi => ?_⟩
    · rw [va_up_self, pk_us, hat.1]
    · rw [hat.1] at hi
      rw [va_up_ne _ _ (by decide), va_up_self, hat.2 i (by omega)]
      unfold insF
      by_cases a : i < q
      · rw [if_pos (show 80 * p + i < 80 * p + q by omega), if_pos a, h.2 i (by omega)]
      · rw [if_neg (show ¬ 80 * p + i < 80 * p + q by omega), if_neg a]
        by_cases b : i = q
        · rw [if_pos (show 80 * p + i = 80 * p + q by omega), if_pos b]
        · rw [if_neg (show ¬ 80 * p + i = 80 * p + q by omega), if_neg b, if_pos (show 80 * p + i ≤ 80 * p + X.length by omega), show 80 * p + i - 1 = 80 * p + (i - 1) by omega, h.2 (i - 1) (by omega)]
    · rw [va_up_ne _ _ h3, va_up_ne _ _ h2]
    · rw [va_up_ne _ _ (by decide), va_up_self]
      unfold insF
      rw [if_pos (by omega)]
    · rw [va_up_self, pk_un hi]
def ntL (p : Nat) : List Nat → (Nat → Nat → Int32) → Option (Nat → Nat → Int32)
  | [], S => some S
  | m :: l, S => (noteO p S (nI m)).bind (ntL p l)
theorem ntL_app {p : Nat} {a b : List Nat} {S : Nat → Nat → Int32} : ntL p (a ++ b) S = (ntL p a S).bind (ntL p b) := by
  induction a generalizing S with
  | nil => rfl
  | cons m a ih =>
    rw [List.cons_append, ntL, ntL]
    cases noteO p S (nI m) with
    | none => rfl
    | some R => exact ih
theorem repR_L : ∀ {l : List Nat} {S : Nat → Nat → Int32} {p : Nat} {X : List Nat}, repR S p X → srt X → allM X → allM l → (insL X l).length ≤ 79 → ∃ R, ntL p l S = some R ∧ repR R p (insL X l) ∧ nfr p S R
  | [], S, p, X, h, _, _, _, _ => ⟨S, rfl, h, nfr.rf⟩
  | m :: l, S, p, X, h, hs, hX, hl, h79 => by
    rw [insL] at h79
    have hm : okM m := hl m (by simp)
    have a := insL_le (l := l) (X := ins m X)
    have b := ins_le (m := m) (X := X)
    obtain ⟨R, h1, h2, h3⟩ := repR_note h hs hX hm (by omega)
    obtain ⟨Q, g1, g2, g3⟩ := repR_L (l := l) h2 (srt_ins hs) (allM_ins hX hm) (fun x hx => hl x (List.mem_cons_of_mem _ hx)) h79
    refine ⟨Q, ?_, g2, h3.tr g3⟩
    rw [ntL, h1]; exact g1
