/-! endings of one piece against one -/
theorem cnt_z {f : Nat → Bool} : ∀ {n : Nat}, cnt f n = 0 → ∀ j, j < n → f j = false
  | 0, _, j, hj => by omega
  | n + 1, h, j, hj => by
    unfold cnt at h
    by_cases hf : f n = true
    · rw [if_pos hf] at h; omega
    · rw [if_neg hf] at h
      by_cases e : j = n
      · rw [e]; simpa using hf
      · exact cnt_z (by omega) j (by omega)
theorem cnt_o {f : Nat → Bool} : ∀ {n : Nat}, cnt f n = 1 → ∃ a, a < n ∧ ∀ j, j < n → f j = decide (j = a)
  | 0, h => by unfold cnt at h; omega
  | n + 1, h => by
    unfold cnt at h
    by_cases hf : f n = true
    · rw [if_pos hf] at h
      refine ⟨n, by omega, fun j hj => ?_⟩
      by_cases e : j = n
      · rw [e, hf]; simp
      · rw [cnt_z (f := f) (n := n) (by omega) j (by omega), decide_eq_false e]
    · rw [if_neg hf] at h
      obtain ⟨a, ha, hh⟩ := cnt_o (f := f) (n := n) (by omega)
      refine ⟨a, by omega, fun j hj => ?_⟩
      by_cases e : j = n
      · rw [e, decide_eq_false (show ¬ n = a by omega)]; simpa using hf
      · exact hh j (by omega)
def lastI (f : Nat → Bool) : Nat → Int32
  | 0 => -1
  | i + 1 => if f i = true then nI i else lastI f i
theorem lastI_n {f : Nat → Bool} : ∀ {n : Nat}, n < 100 → (lastI f n < 0 ↔ cnt f n = 0)
  | 0, _ => by unfold lastI cnt; decide
  | n + 1, h => by
    unfold lastI cnt
    by_cases hf : f n = true
    · rw [if_pos hf, if_pos hf]
      constructor
      · intro c; exact absurd c (nI_pos (by omega))
      · intro c; omega
    · rw [if_neg hf, if_neg hf]; exact lastI_n (by omega)
theorem lastI_1 {f : Nat → Bool} {a : Nat} : ∀ {n : Nat}, a < n → (∀ j, j < n → f j = decide (j = a)) → lastI f n = nI a
  | 0, h, _ => by omega
  | n + 1, h, hf => by
    unfold lastI
    rw [hf n (by omega)]
    by_cases e : n = a
    · rw [decide_eq_true e, if_pos rfl, e]
    · rw [decide_eq_false e, if_neg (by decide)]
      exact lastI_1 (by omega) (fun j hj => hf j (by omega))
theorem en_L {P : Ps} (hP : WFp P) {S : Nat → Nat → Int32} {p : Nat} (hrow : rowOK S p P) : ∀ i, i ≤ 18 → enL S p i = (lastI (bt (ownP P)) i, lastI (bt (othP P)) i, nI (cnt (bt (fulP P)) i))
  | 0, _ => rfl
  | i + 1, hi => by
    have hso := side_own hP (show i < 18 by omega)
    unfold enL lastI cnt
    rw [en_L hP hrow i (by omega), hrow.1 i (by omega), hrow.2]
    simp only [hso.1, hso.2.1, hso.2.2.2]
    refine Prod.ext rfl (Prod.ext rfl ?_)
    show (if bt (fulP P) i = false then nI (cnt (bt (fulP P)) i) else nI (cnt (bt (fulP P)) i) + 1) = nI (cnt (bt (fulP P)) i + if bt (fulP P) i = true then 1 else 0)
    by_cases h : bt (fulP P) i = false
    · rw [if_pos h, h, if_neg (by decide)]; rfl
    · rw [if_neg h, if_pos (by simpa using h), nI_1]
theorem cnt_or {f g h : Nat → Bool} : ∀ {n : Nat}, (∀ j, j < n → h j = (f j || g j)) → (∀ j, j < n → f j = true → g j = false) → cnt h n = cnt f n + cnt g n
  | 0, _, _ => rfl
  | n + 1, h1, h2 => by
    unfold cnt
    rw [cnt_or (n := n) (fun j hj => h1 j (by omega)) (fun j hj => h2 j (by omega)), h1 n (by omega)]
    have := h2 n (by omega)
    cases hf : f n <;> cases hg : g n
    · simp
    · simp; omega
    · simp; omega
    · rw [hf, hg] at this; exact absurd (this rfl) (by decide)
theorem ful_cnt {P : Ps} (hP : WFp P) : cnt (bt (fulP P)) 18 = cnt (bt P.1) 18 + cnt (bt P.2.1) 18 := cnt_or (fun j _ => ful_bits P j) (fun j hj => hP.dj j hj)
theorem own_cnt {P : Ps} (hP : WFp P) : (cnt (bt (ownP P)) 18 = cnt (bt P.1) 18 ∧ cnt (bt (othP P)) 18 = cnt (bt P.2.1) 18) ∨ (cnt (bt (ownP P)) 18 = cnt (bt P.2.1) 18 ∧ cnt (bt (othP P)) 18 = cnt (bt P.1) 18) := by
  rcases hP.mo with hm | hm
  · left; exact ⟨cnt_congr (fun j _ => ((own_bits j).1 hm).1), cnt_congr (fun j _ => ((own_bits j).1 hm).2)⟩
  · right; exact ⟨cnt_congr (fun j _ => ((own_bits j).2 hm).1), cnt_congr (fun j _ => ((own_bits j).2 hm).2)⟩
def codeN (s k a q b : Nat) : Nat := ((2 * s + k) * 18 + a) * 36 + 18 * q + b
def seenN (s a : Nat) : Nat := if s = 0 then a else 17 - a
def idxN (s k a q b : Nat) : Nat := (seenN s a + 18 * k) * 36 + (seenN s b + 18 * q)
def valN (s k a q b : Nat) : Bool := !(a == b) && (k == 1 || (if s = 0 then decide (a < 15) else decide (3 ≤ a))) && (q == 1 || (if s = 0 then decide (3 ≤ b) else decide (b < 15)))
theorem idx_all : ((List.range 2).all fun s => (List.range 2).all fun k => (List.range 18).all fun a => (List.range 2).all fun q => (List.range 18).all fun b => !valN s k a q b || kg (codeN s k a q b) == dg (idxN s k a q b)) = true := by decide +kernel
theorem idx_eq {s k a q b : Nat} (hs : s < 2) (hk : k < 2) (ha : a < 18) (hq : q < 2) (hb : b < 18) (hv : valN s k a q b = true) : kg (codeN s k a q b) = dg (idxN s k a q b) := by
  have h := idx_all
  have h := List.all_eq_true.mp h s (List.mem_range.mpr hs)
  have h := List.all_eq_true.mp h k (List.mem_range.mpr hk)
  have h := List.all_eq_true.mp h a (List.mem_range.mpr ha)
  have h := List.all_eq_true.mp h q (List.mem_range.mpr hq)
  have h := List.all_eq_true.mp h b (List.mem_range.mpr hb)
  rw [hv] at h
  simpa using h
theorem val_d : ∀ d, d < 12 → vdV (kl d) = (if d = 0 then 0 else vl d) ∧ aoV (kl d) = wvF (if d = 0 then 0 else vl d) ∧ (-1000 ≤ (wvF (if d = 0 then 0 else vl d)).toInt ∧ (wvF (if d = 0 then 0 else vl d)).toInt ≤ 1000) := by decide +kernel
theorem ntz_a : ∀ a, a < 18 → ntzF ((1 : Int32) <<< (nI a &&& 31)) - ntzF ((1 : Int32) <<< (nI a &&& 31)) / 18 * 18 = nI a ∧ ¬ (1 : Int32) <<< (nI a &&& 31) = 0 ∧ (17 - nI a : Int32) = nI (17 - a) := by decide +kernel
def sdN (P : Ps) : Nat := if P.2.2.2.1 = 0 then 0 else 1
def kbN (P : Ps) (a : Nat) : Nat := if bt P.2.2.1 a = true then 1 else 0
theorem kind_a {P : Ps} {a : Nat} (ha : a < 18) : kindF P ((1 : Int32) <<< (nI a &&& 31)) = nI (seenN (sdN P) a + 18 * kbN P a) := by
  have n := ntz_a a ha
  unfold kindF
  simp only [n.1]
  unfold seenN sdN kbN
  by_cases hm : P.2.2.2.1 = 0
  · rw [if_pos hm, if_pos hm, if_pos rfl]
    by_cases hk : bt P.2.2.1 a = true
    · rw [if_neg (fun c => by rw [kingP_z P (by omega), hk] at c; cases c), if_pos hk, show (18 : Int32) = nI 18 from rfl, nI_add]
      congr 1; omega
    · rw [if_pos ((kingP_z P (by omega)).mpr (by simpa using hk)), if_neg hk]
      congr 1
  · rw [if_neg hm, if_neg hm, if_neg (show ¬ 1 = 0 by decide), n.2.2]
    by_cases hk : bt P.2.2.1 a = true
    · rw [if_neg (fun c => by rw [kingP_z P (by omega), hk] at c; cases c), if_pos hk, show (18 : Int32) = nI 18 from rfl, nI_add]
      congr 1; omega
    · rw [if_pos ((kingP_z P (by omega)).mpr (by simpa using hk)), if_neg hk]
      congr 1
theorem single {x : Int32} (h : b18 x) (hc : cnt (bt x) 18 = 1) : ∃ a, a < 18 ∧ x = (1 : Int32) <<< (nI a &&& 31) ∧ ∀ j, j < 18 → bt x j = decide (j = a) := by
  obtain ⟨a, ha, hh⟩ := cnt_o hc
  refine ⟨a, ha, ?_, hh⟩
  refine b_ext (fun i hi => ?_)
  rw [bt_sh (by omega) hi]
  by_cases h18 : i < 18
  · exact hh i h18
  · rw [h i (by omega) hi, decide_eq_false (by omega)]
theorem one_ab {P : Ps} (hP : WFp P) (h1 : ¬ oneP P = 0) : ∃ a b, a < 18 ∧ b < 18 ∧ ownP P = (1 : Int32) <<< (nI a &&& 31) ∧ othP P = (1 : Int32) <<< (nI b &&& 31) ∧ (∀ j, j < 18 → bt (ownP P) j = decide (j = a)) ∧ (∀ j, j < 18 → bt (othP P) j = decide (j = b)) ∧ numF P = nI (idxN (sdN P) (kbN P a) a (kbN P b) b) ∧ valN (sdN P) (kbN P a) a (kbN P b) b = true := by
  have hc := (one_cnt hP).mp h1
  have ho := own_18 hP
  have hoc : cnt (bt (ownP P)) 18 = 1 ∧ cnt (bt (othP P)) 18 = 1 := by
    rcases own_cnt hP with q | q
    · rw [q.1, q.2]; exact hc
    · rw [q.1, q.2]; exact ⟨hc.2, hc.1⟩
  obtain ⟨a, ha, e1, b1⟩ := single ho.1 hoc.1
  obtain ⟨b, hb, e2, b2⟩ := single ho.2 hoc.2
  refine ⟨a, b, ha, hb, e1, e2, b1, b2, ?_, ?_⟩
  · unfold numF
    rw [if_neg (by rw [e1]; exact (ntz_a a ha).2.1), e1, e2, kind_a ha, kind_a hb, show (36 : Int32) = nI 36 from rfl, pk_mul, nI_add]
    rfl
  · have oa : bt (ownP P) a = true := by rw [b1 a ha]; simp
    have ob : bt (othP P) b = true := by rw [b2 b hb]; simp
    unfold valN sdN kbN
    rcases hP.mo with hm | hm
    · rw [((own_bits a).1 hm).1] at oa
      rw [((own_bits b).1 hm).2] at ob
      have hne : a ≠ b := by intro e; rw [e] at oa; rw [hP.dj b hb oa] at ob; cases ob
      have h1 := hP.wm a
      have h2 := hP.bm b
      rw [if_pos hm, if_pos rfl, if_pos rfl]
      by_cases ka : bt P.2.2.1 a = true
      · by_cases kb : bt P.2.2.1 b = true
        · simp [ka, kb, hne]
        · have : 3 ≤ b := by
            rcases Nat.lt_or_ge b 3 with q | q
            · exact absurd (h2 q ob) kb
            · exact q
          simp [ka, kb, hne, this]
      · have h15 : a < 15 := by
          rcases Nat.lt_or_ge a 15 with q | q
          · exact q
          · exact absurd (h1 q ha oa) ka
        by_cases kb : bt P.2.2.1 b = true
        · simp [ka, kb, hne, h15]
        · have : 3 ≤ b := by
            rcases Nat.lt_or_ge b 3 with q | q
            · exact absurd (h2 q ob) kb
            · exact q
          simp [ka, kb, hne, h15, this]
    · rw [((own_bits a).2 hm).1] at oa
      rw [((own_bits b).2 hm).2] at ob
      have hne : a ≠ b := by intro e; rw [← e] at ob; rw [hP.dj a ha ob] at oa; cases oa
      have h1 := hP.bm a
      have h2 := hP.wm b
      have hz : ¬ P.2.2.2.1 = 0 := by rw [hm]; decide
      rw [if_neg hz, if_neg (show ¬ 1 = 0 by decide), if_neg (show ¬ 1 = 0 by decide)]
      by_cases ka : bt P.2.2.1 a = true
      · by_cases kb : bt P.2.2.1 b = true
        · simp [ka, kb, hne]
        · have : b < 15 := by
            rcases Nat.lt_or_ge b 15 with q | q
            · exact q
            · exact absurd (h2 q hb ob) kb
          simp [ka, kb, hne, this]
      · have h15 : 3 ≤ a := by
          rcases Nat.lt_or_ge a 3 with q | q
          · exact absurd (h1 q oa) ka
          · exact q
        by_cases kb : bt P.2.2.1 b = true
        · simp [ka, kb, hne, h15]
        · have : b < 15 := by
            rcases Nat.lt_or_ge b 15 with q | q
            · exact q
            · exact absurd (h2 q hb ob) kb
          simp [ka, kb, hne, h15, this]
theorem sd_lt (P : Ps) : sdN P < 2 := by unfold sdN; split <;> omega
theorem kb_lt (P : Ps) (a : Nat) : kbN P a < 2 := by unfold kbN; split <;> omega
theorem idx_lt : ∀ {s k a q b : Nat}, s < 2 → k < 2 → a < 18 → q < 2 → b < 18 → idxN s k a q b < 1296 ∧ codeN s k a q b < 2592 := by
  intro s k a q b h1 h2 h3 h4 h5
  unfold idxN codeN seenN
  constructor
  · split <;> omega
  · omega
theorem wf1_ok : ∀ P, WFp P → ¬ oneP P = 0 → numF P = nI (numF P).toNatClampNeg ∧ (numF P).toNatClampNeg ≤ 1296 := by
  intro P hP h1
  obtain ⟨a, b, ha, hb, _, _, _, _, hn, _⟩ := one_ab hP h1
  have := (idx_lt (sd_lt P) (kb_lt P a) ha (kb_lt P b) hb).1
  rw [hn, nI_clamp (by omega)]
  exact ⟨rfl, by omega⟩
theorem king_kb {P : Ps} (hP : WFp P) {i : Nat} (hi : i < 18) (hf : bt (fulP P) i = true) : kingR (pieceP P ((1 : Int32) <<< (nI i &&& 31))) = nI (kbN P i) := by
  rw [pc_bits P (by omega)]
  rw [ful_bits] at hf
  unfold kbN
  generalize bt P.1 i = a at *
  generalize bt P.2.1 i = b at *
  generalize bt P.2.2.1 i = c at *
  cases a <;> cases b <;> cases c <;> first | exact absurd hf (by decide) | decide
theorem code_N {s k a q b : Nat} (hk : k < 2) (hq : q < 2) : codeR (nI s) (nI k) (nI a) (nI q) (nI b) = nI (codeN s k a q b) := by
  unfold codeR codeN
  have h1 : (if nI k = 0 then (0 : Int32) else 1) = nI k := by
    have : k = 0 ∨ k = 1 := by omega
    rcases this with e | e <;> subst e <;> decide
  have h2 : (if nI q = 0 then (0 : Int32) else 18) = nI (18 * q) := by
    have : q = 0 ∨ q = 1 := by omega
    rcases this with e | e <;> subst e <;> decide
  rw [h1, h2, show (2 : Int32) = nI 2 from rfl, show (18 : Int32) = nI 18 from rfl, show (36 : Int32) = nI 36 from rfl, pk_mul, nI_add, pk_mul, nI_add, pk_mul, nI_add, nI_add]
theorem end_sem {KT : Nat → Int32} (hKT : ∀ e, e < 2592 → KT e = kl (kg e)) : EndSem WFp KT := by
  intro S p P hp hrow hP
  have hen := en_L hP hrow 18 (by omega)
  have hfc := ful_cnt hP
  have hoc := own_cnt hP
  have l18 := cnt_le (bt (fulP P)) 18
  constructor
  · intro h0
    have hn : ¬ (cnt (bt P.1) 18 = 1 ∧ cnt (bt P.2.1) 18 = 1) := fun c => (one_cnt hP).mpr c h0
    unfold enR
    rw [hen]
    simp only []
    by_cases h2 : nI (cnt (bt (fulP P)) 18) = 2
    · rw [if_pos h2]
      rw [show (2 : Int32) = nI 2 from rfl, nI_eq (by omega) (by omega)] at h2
      by_cases h3 : lastI (bt (ownP P)) 18 < 0
      · rw [if_pos h3]; decide
      · rw [if_neg h3]
        by_cases h4 : lastI (bt (othP P)) 18 < 0
        · rw [if_neg (fun c => absurd h4 (Int32.not_lt.mpr c))]; decide
        · exfalso
          rw [lastI_n (by omega)] at h3 h4
          apply hn
          rcases hoc with q | q
          · rw [q.1] at h3; rw [q.2] at h4; omega
          · rw [q.1] at h3; rw [q.2] at h4; omega
    · rw [if_neg h2]; decide
  · intro h1
    have hc := (one_cnt hP).mp h1
    obtain ⟨a, b, ha, hb, e1, e2, b1, b2, hnum, hval⟩ := one_ab hP h1
    have hidx := idx_lt (sd_lt P) (kb_lt P a) ha (kb_lt P b) hb
    have oa : bt (ownP P) a = true := by rw [b1 a ha]; simp
    have ob : bt (othP P) b = true := by rw [b2 b hb]; simp
    have fa : bt (fulP P) a = true := by
      rw [ful_bits]
      rcases hP.mo with hm | hm
      · rw [((own_bits a).1 hm).1] at oa; rw [oa]; rfl
      · rw [((own_bits a).2 hm).1] at oa; rw [oa]; simp
    have fb := oth_ful ob
    have hmo : P.2.2.2.1 = nI (sdN P) := by
      unfold sdN
      rcases hP.mo with hm | hm
      · rw [if_pos hm, hm]; rfl
      · rw [if_neg (by rw [hm]; decide), hm]; rfl
    refine ⟨codeN (sdN P) (kbN P a) a (kbN P b) b, ?_, hidx.2, ?_⟩
    · unfold enR
      rw [hen]
      simp only []
      rw [lastI_1 ha b1, lastI_1 hb b2, if_pos (by rw [hfc, hc.1, hc.2]; rfl), if_neg (nI_pos (by omega)), if_pos (nI_pos' (by omega)), nI_clamp (by omega), nI_clamp (by omega), hrow.1 a ha, hrow.1 b hb, hrow.2, king_kb hP ha fa, king_kb hP hb fb, hmo, code_N (kb_lt P a) (kb_lt P b)]
    · have hd := idx_eq (sd_lt P) (kb_lt P a) ha (kb_lt P b) hb hval
      have hdl := dg_le (e := idxN (sdN P) (kbN P a) a (kbN P b) b) (by omega)
      unfold wgE
      rw [hnum, nI_clamp (by omega), VT_dg (by omega), hKT _ hidx.2, hd]
      have v := val_d (dg (idxN (sdN P) (kbN P a) a (kbN P b) b)) (by omega)
      exact ⟨v.2.1, v.1⟩
theorem wgE_b {P : Ps} (hP : WFp P) (h1 : ¬ oneP P = 0) : -1000 ≤ (wgE P).toInt ∧ (wgE P).toInt ≤ 1000 := by
  obtain ⟨a, b, ha, hb, _, _, _, _, hnum, _⟩ := one_ab hP h1
  have hidx := idx_lt (sd_lt P) (kb_lt P a) ha (kb_lt P b) hb
  have hdl := dg_le (e := idxN (sdN P) (kbN P a) a (kbN P b) b) (by omega)
  unfold wgE
  rw [hnum, nI_clamp (by omega), VT_dg (by omega)]
  exact (val_d (dg (idxN (sdN P) (kbN P a) a (kbN P b) b)) (by omega)).2.2
