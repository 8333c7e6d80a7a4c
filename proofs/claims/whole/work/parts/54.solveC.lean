/-! the class's table of verdicts comes to the digits -/
def vl (d : Nat) : Int32 := if d = 1 then -100 else if d % 2 = 0 then nI (d - 1) else -nI (d - 1)
def Vn (n e : Nat) : Int32 := if 1 ≤ dg e ∧ dg e ≤ n + 1 then vl (dg e) else 0
def Vm (n i x : Nat) : Int32 := if x < i then Vn n x else Vn (n - 1) x
def chkV (n e : Nat) : Bool := if Vn (n - 1) e = 0 then (if n % 2 = 1 then decide (llK (Vm n e) (NL e) (CL e) 0 = 0) else decide (CL e = 0 ∨ lwK (Vm n e) (NL e) (CL e) 0 = 0)) == !(dg e == n + 1) else true
theorem chkV_all : ((List.range 10).all fun k => (List.range 1296).all fun e => chkV (k + 1) e) = true := by decide +kernel
theorem dg_lev : (((List.range 9).all fun k => (List.range 1296).any fun e => dg e == k + 2) && ((List.range 1296).all fun e => decide (dg e ≤ 10)) && dg 1296 == 1) = true := by decide +kernel
theorem vl_n : ∀ n, n < 11 → 1 ≤ n → (n % 2 = 1 → (nI n).toInt8.toInt32 = vl (n + 1)) ∧ (n % 2 = 0 → (-nI n).toInt8.toInt32 = vl (n + 1)) := by decide +kernel
theorem vl_ne : ∀ d, d < 12 → 1 ≤ d → vl d ≠ 0 ∨ d = 1 := by decide +kernel
theorem dg_le {e : Nat} (he : e ≤ 1296) : dg e ≤ 10 := by
  have h := dg_lev
  simp only [Bool.and_eq_true, List.all_eq_true, decide_eq_true_eq, beq_iff_eq] at h
  by_cases h2 : e < 1296
  · exact h.1.2 e (List.mem_range.mpr h2)
  · have : e = 1296 := by omega
    rw [this, h.2]; omega
theorem dg_end : dg 1296 = 1 := by
  have h := dg_lev
  simp only [Bool.and_eq_true, List.all_eq_true, decide_eq_true_eq, beq_iff_eq] at h
  exact h.2
theorem dg_some {n : Nat} (h1 : 1 ≤ n) (h9 : n ≤ 9) : ∃ e, e < 1296 ∧ dg e = n + 1 := by
  have h := dg_lev
  simp only [Bool.and_eq_true, List.all_eq_true, List.any_eq_true, decide_eq_true_eq, beq_iff_eq] at h
  obtain ⟨e, a, b⟩ := h.1.1 (n - 1) (List.mem_range.mpr (by omega))
  exact ⟨e, List.mem_range.mp a, by omega⟩
theorem tC {e : Nat} (he : e < 1296) : CNx e = CL e ∧ CL e ≤ 4 := by
  have h := tab_C
  rw [List.all_eq_true] at h
  have h := h e (List.mem_range.mpr he)
  simp only [Bool.and_eq_true, decide_eq_true_eq, beq_iff_eq] at h
  exact h
theorem tN {e : Nat} (he : e < 1296) {j : Nat} (hj : j < CL e) : NXv e j = nI (NL e j) ∧ NL e j < 1297 ∧ NXx e j = NL e j := by
  have h := tab_N
  rw [List.all_eq_true] at h
  have h := h e (List.mem_range.mpr he)
  rw [List.all_eq_true] at h
  have h := h j (List.mem_range.mpr hj)
  simp only [Bool.and_eq_true, decide_eq_true_eq, beq_iff_eq] at h
  exact ⟨h.1, h.2, by unfold NXx; rw [h.1]; exact nI_clamp (by omega)⟩
theorem htb_ok : ∀ e, e < 1296 → ∀ j, j < CNx e → NXv e j = nI (NXx e j) ∧ NXx e j < 1297 := by
  intro e he j hj
  rw [(tC he).1] at hj
  have := tN he hj
  rw [this.2.2]; exact ⟨this.1, this.2.1⟩
theorem llK_congr {f g : Nat → Int32} {a b : Nat → Nat} : ∀ k j, (∀ i, j ≤ i → i < j + k → f (a i) = g (b i)) → llK f a k j = llK g b k j
  | 0, _, _ => rfl
  | k + 1, j, h => by
    unfold llK
    rw [h j (by omega) (by omega), llK_congr k (j + 1) (fun i h1 h2 => h i (by omega) (by omega))]
theorem lwK_congr {f g : Nat → Int32} {a b : Nat → Nat} : ∀ k j, (∀ i, j ≤ i → i < j + k → f (a i) = g (b i)) → lwK f a k j = lwK g b k j
  | 0, _, _ => rfl
  | k + 1, j, h => by
    unfold lwK
    rw [h j (by omega) (by omega), lwK_congr k (j + 1) (fun i h1 h2 => h i (by omega) (by omega))]
theorem Vn_step {n e : Nat} (hn : 1 ≤ n) (h : dg e ≠ n + 1) : Vn n e = Vn (n - 1) e := by
  unfold Vn
  by_cases h1 : 1 ≤ dg e ∧ dg e ≤ n + 1
  · rw [if_pos h1, if_pos ⟨h1.1, by omega⟩]
  · rw [if_neg h1, if_neg (fun c => h1 ⟨c.1, by omega⟩)]
theorem Vn_at {n e : Nat} (h : dg e = n + 1) : Vn n e = vl (n + 1) := by
  unfold Vn; rw [if_pos ⟨by omega, by omega⟩, h]
theorem Vn_un {n e : Nat} (hn : 1 ≤ n) (h : dg e = n + 1) : Vn (n - 1) e = 0 := by
  unfold Vn; rw [if_neg (fun c => by omega)]
theorem Vm_end {n x : Nat} (hx : x ≤ 1296) : Vm n 1296 x = Vn n x := by
  unfold Vm
  by_cases h : x < 1296
  · rw [if_pos h]
  · have : x = 1296 := by omega
    subst this
    rw [if_neg h]
    unfold Vn
    rw [dg_end, if_pos ⟨by omega, by omega⟩, if_pos ⟨by omega, by omega⟩]
theorem chkV_at {n e : Nat} (h1 : 1 ≤ n) (h10 : n ≤ 10) (he : e < 1296) : chkV n e = true := by
  have h := chkV_all
  rw [List.all_eq_true] at h
  have h := h (n - 1) (List.mem_range.mpr (by omega))
  rw [List.all_eq_true] at h
  have h := h e (List.mem_range.mpr he)
  rw [show n - 1 + 1 = n by omega] at h
  exact h
def agV (n i : Nat) (vf : Nat → Int32) : Prop := ∀ x, x ≤ 1296 → vf x = Vm n i x
theorem agV_keep {n i : Nat} {vf : Nat → Int32} (hn : 1 ≤ n) (h : agV n i vf) (hd : dg i ≠ n + 1) : agV n (i + 1) vf := by
  intro x hx
  rw [h x hx]
  unfold Vm
  by_cases h1 : x < i
  · rw [if_pos h1, if_pos (by omega)]
  · by_cases h2 : x = i
    · subst h2
      rw [if_neg h1, if_pos (by omega), Vn_step hn hd]
    · rw [if_neg h1, if_neg (by omega)]
theorem agV_set {n i : Nat} {vf : Nat → Int32} (h : agV n i vf) (hd : dg i = n + 1) : agV n (i + 1) (upd vf i (vl (n + 1))) := by
  intro x hx
  unfold Vm
  by_cases h2 : x = i
  · subst h2
    rw [pk_us, if_pos (by omega), Vn_at hd]
  · rw [pk_un h2, h x hx]
    unfold Vm
    by_cases h1 : x < i
    · rw [if_pos h1, if_pos (by omega)]
    · rw [if_neg h1, if_neg (by omega)]
theorem fw_spec {n : Nat} (h1 : 1 ≤ n) (h10 : n ≤ 10) (hodd : n % 2 = 1) : ∀ k i vf fd, i + k = 1296 → agV n i vf → agV n 1296 (fwK (nI n) CNx NXx k i vf fd).1 ∧ ((fwK (nI n) CNx NXx k i vf fd).2 = 0 ↔ fd = 0 ∧ ∀ e, i ≤ e → e < 1296 → dg e ≠ n + 1)
  | 0, i, vf, fd, hi, h => by
    have : i = 1296 := by omega
    subst this
    exact ⟨h, ⟨fun c => ⟨c, fun e a b => by omega⟩, fun c => c.1⟩⟩
  | k + 1, i, vf, fd, hi, h => by
    have hi2 : i < 1296 := by omega
    have hc := tC hi2
    have hvi : vf i = Vn (n - 1) i := by rw [h i (by omega)]; unfold Vm; rw [if_neg (by omega)]
    have hch := chkV_at h1 h10 hi2
    unfold chkV at hch
    unfold fwK
    have next : ∀ vf' fd', agV n (i + 1) vf' → (fd' = 0 ↔ fd = 0 ∧ dg i ≠ n + 1) → agV n 1296 (fwK (nI n) CNx NXx k (i + 1) vf' fd').1 ∧ ((fwK (nI n) CNx NXx k (i + 1) vf' fd').2 = 0 ↔ fd = 0 ∧ ∀ e, i ≤ e → e < 1296 → dg e ≠ n + 1) := by
      intro vf' fd' ha hf
      have ih := fw_spec h1 h10 hodd k (i + 1) vf' fd' (by omega) ha
      refine ⟨ih.1, ih.2.trans ?_⟩
      rw [hf]
      constructor
      · rintro ⟨⟨a, b⟩, c⟩
        refine ⟨a, fun e e1 e2 => ?_⟩
        by_cases e3 : e = i
        · rw [e3]; exact b
        · exact c e (by omega) e2
      · rintro ⟨a, b⟩
        exact ⟨⟨a, b i (by omega) hi2⟩, fun e e1 e2 => b e (by omega) e2⟩
    by_cases h0 : vf i = 0
    · rw [if_pos h0]
      rw [if_pos (by rw [← hvi]; exact h0), if_pos hodd] at hch
      have hll : llK vf (NXx i) (CNx i) 0 = llK (Vm n i) (NL i) (CL i) 0 := by
        rw [hc.1]
        refine llK_congr _ _ (fun j a b => ?_)
        have := tN hi2 (show j < CL i by omega)
        rw [this.2.2, h _ (by omega)]
      rw [hll]
      by_cases hl : llK (Vm n i) (NL i) (CL i) 0 = 0
      · rw [if_pos hl]
        have hd : dg i ≠ n + 1 := by
          intro e
          rw [decide_eq_true hl, e] at hch
          simp at hch
        exact next vf fd (agV_keep h1 h hd) ⟨fun a => ⟨a, hd⟩, fun a => a.1⟩
      · rw [if_neg hl]
        have hd : dg i = n + 1 := by
          rw [decide_eq_false hl] at hch
          simpa using hch
        rw [(vl_n n (by omega) h1).1 hodd]
        exact next _ 1 (agV_set h hd) ⟨fun a => absurd a (by decide), fun a => absurd hd a.2⟩
    · rw [if_neg h0]
      have hd : dg i ≠ n + 1 := by
        intro e
        exact h0 (by rw [hvi]; exact Vn_un h1 e)
      exact next vf fd (agV_keep h1 h hd) ⟨fun a => ⟨a, hd⟩, fun a => a.1⟩
theorem fl_spec {n : Nat} (h1 : 1 ≤ n) (h10 : n ≤ 10) (hev : n % 2 = 0) : ∀ k i vf fd, i + k = 1296 → agV n i vf → agV n 1296 (flK (nI n) CNx NXx k i vf fd).1 ∧ ((flK (nI n) CNx NXx k i vf fd).2 = 0 ↔ fd = 0 ∧ ∀ e, i ≤ e → e < 1296 → dg e ≠ n + 1)
  | 0, i, vf, fd, hi, h => by
    have : i = 1296 := by omega
    subst this
    exact ⟨h, ⟨fun c => ⟨c, fun e a b => by omega⟩, fun c => c.1⟩⟩
  | k + 1, i, vf, fd, hi, h => by
    have hi2 : i < 1296 := by omega
    have hc := tC hi2
    have hvi : vf i = Vn (n - 1) i := by rw [h i (by omega)]; unfold Vm; rw [if_neg (by omega)]
    have hch := chkV_at h1 h10 hi2
    unfold chkV at hch
    unfold flK
    have next : ∀ vf' fd', agV n (i + 1) vf' → (fd' = 0 ↔ fd = 0 ∧ dg i ≠ n + 1) → agV n 1296 (flK (nI n) CNx NXx k (i + 1) vf' fd').1 ∧ ((flK (nI n) CNx NXx k (i + 1) vf' fd').2 = 0 ↔ fd = 0 ∧ ∀ e, i ≤ e → e < 1296 → dg e ≠ n + 1) := by
      intro vf' fd' ha hf
      have ih := fl_spec h1 h10 hev k (i + 1) vf' fd' (by omega) ha
      refine ⟨ih.1, ih.2.trans ?_⟩
      rw [hf]
      constructor
      · rintro ⟨⟨a, b⟩, c⟩
        refine ⟨a, fun e e1 e2 => ?_⟩
        by_cases e3 : e = i
        · rw [e3]; exact b
        · exact c e (by omega) e2
      · rintro ⟨a, b⟩
        exact ⟨⟨a, b i (by omega) hi2⟩, fun e e1 e2 => b e (by omega) e2⟩
    by_cases h0 : vf i = 0
    · rw [if_pos h0]
      rw [if_pos (by rw [← hvi]; exact h0), if_neg (show ¬ n % 2 = 1 by omega)] at hch
      have hll : lwK vf (NXx i) (CNx i) 0 = lwK (Vm n i) (NL i) (CL i) 0 := by
        rw [hc.1]
        refine lwK_congr _ _ (fun j a b => ?_)
        have := tN hi2 (show j < CL i by omega)
        rw [this.2.2, h _ (by omega)]
      rw [hll]
      by_cases hl : CL i = 0 ∨ lwK (Vm n i) (NL i) (CL i) 0 = 0
      · have hd : dg i ≠ n + 1 := by
          intro e
          rw [decide_eq_true hl, e] at hch
          simp at hch
        have goal := next vf fd (agV_keep h1 h hd) ⟨fun a => ⟨a, hd⟩, fun a => a.1⟩
        by_cases hz : CNx i = 0
        · rw [if_pos hz]; exact goal
        · rw [if_neg hz, if_pos (by
            rcases hl with q | q
            · exact absurd (by rw [hc.1]; exact q) hz
            · exact q)]
          exact goal
      · have hd : dg i = n + 1 := by
          rw [decide_eq_false hl] at hch
          simpa using hch
        rw [if_neg (fun c => hl (Or.inl (by rw [← hc.1]; exact c))), if_neg (fun c => hl (Or.inr c)), (vl_n n (by omega) h1).2 hev]
        exact next _ 1 (agV_set h hd) ⟨fun a => absurd a (by decide), fun a => absurd hd a.2⟩
    · rw [if_neg h0]
      have hd : dg i ≠ n + 1 := by
        intro e
        exact h0 (by rw [hvi]; exact Vn_un h1 e)
      exact next vf fd (agV_keep h1 h hd) ⟨fun a => ⟨a, hd⟩, fun a => a.1⟩
theorem agV_next {n : Nat} {vf : Nat → Int32} (h : agV n 1296 vf) : agV (n + 1) 0 vf := by
  intro x hx
  rw [h x hx, Vm_end hx]
  unfold Vm
  rw [if_neg (by omega)]; rfl
theorem st_step {n k : Nat} {vf : Nat → Int32} {fd : Int32} (h1 : 1 ≤ n) (h10 : n ≤ 10) (hf : fd ≠ 0) (h : agV n 0 vf) : ∃ fd' vf', stK CNx NXx (k + 1) n fd vf = stK CNx NXx k (n + 1) fd' vf' ∧ agV (n + 1) 0 vf' ∧ (fd' = 0 ↔ ∀ e, e < 1296 → dg e ≠ n + 1) := by
  rw [show stK CNx NXx (k + 1) n fd vf = (if fd = 0 then vf else if n % 2 = 1 then stK CNx NXx k (n + 1) (fwK (nI n) CNx NXx 1296 0 vf 0).2 (fwK (nI n) CNx NXx 1296 0 vf 0).1 else stK CNx NXx k (n + 1) (flK (nI n) CNx NXx 1296 0 vf 0).2 (flK (nI n) CNx NXx 1296 0 vf 0).1) from rfl]
  rw [if_neg hf]
  by_cases ho : n % 2 = 1
  · rw [if_pos ho]
    have := fw_spec h1 h10 ho 1296 0 vf 0 (by omega) h
    refine ⟨_, _, rfl, agV_next this.1, this.2.trans ?_⟩
    exact ⟨fun a e he => a.2 e (by omega) he, fun a => ⟨rfl, fun e _ he => a e he⟩⟩
  · rw [if_neg ho]
    have := fl_spec h1 h10 (by omega) 1296 0 vf 0 (by omega) h
    refine ⟨_, _, rfl, agV_next this.1, this.2.trans ?_⟩
    exact ⟨fun a e he => a.2 e (by omega) he, fun a => ⟨rfl, fun e _ he => a e he⟩⟩
theorem V0_ag : agV 1 0 (V0 1296) := by
  intro x hx
  unfold Vm V0
  rw [if_neg (show ¬ x < 0 by omega)]
  unfold Vn
  by_cases h : x < 1296
  · have t := tab_V
    rw [List.all_eq_true] at t
    have t := t x (List.mem_range.mpr h)
    rw [(tC h).1]
    by_cases hd : dg x = 1
    · rw [hd] at t
      simp at t
      rw [if_pos (Or.inl ⟨h, t.1, t.2⟩), if_pos ⟨by omega, by omega⟩, hd]; rfl
    · have hn : ¬ ((x < 1296 ∧ ¬ arrOK (nI x) = 0 ∧ CL x = 0) ∨ x = 1296) := by
        rintro (⟨_, b, c⟩ | e)
        · apply hd
          have hb : (arrOK (nI x) == 0) = false := beq_eq_false_iff_ne.mpr b
          rw [hb, c] at t
          simpa using t
        · omega
      rw [if_neg hn, if_neg (fun c => by omega)]
  · have : x = 1296 := by omega
    subst this
    rw [if_pos (Or.inr rfl), dg_end, if_pos ⟨by omega, by omega⟩]; rfl
theorem VT_chain : ∀ j, j ≤ 9 → ∃ fd vf, VT = stK CNx NXx (1295 - j) (j + 1) fd vf ∧ fd ≠ 0 ∧ agV (j + 1) 0 vf
  | 0, _ => ⟨1, V0 1296, rfl, by decide, V0_ag⟩
  | j + 1, hj => by
    obtain ⟨fd, vf, e, hf, h⟩ := VT_chain j (by omega)
    obtain ⟨fd', vf', e', h', hf'⟩ := st_step (n := j + 1) (k := 1295 - (j + 1)) (by omega) (by omega) hf h
    refine ⟨fd', vf', ?_, ?_, h'⟩
    · rw [e, show 1295 - j = 1295 - (j + 1) + 1 by omega, e']
    · intro c
      obtain ⟨x, hx, hd⟩ := dg_some (n := j + 1) (by omega) (by omega)
      exact hf'.mp c x hx hd
theorem VT_dg {e : Nat} (he : e ≤ 1296) : VT e = if dg e = 0 then 0 else vl (dg e) := by
  obtain ⟨fd, vf, e1, hf, h⟩ := VT_chain 9 (by omega)
  obtain ⟨fd', vf', e2, h2, hf2⟩ := st_step (n := 10) (k := 1285) (by omega) (by omega) hf h
  have hz : fd' = 0 := hf2.mpr (fun x hx => by have := dg_le (e := x) (by omega); omega)
  have e3 : VT = vf' := by
    rw [e1, show 1295 - 9 = 1285 + 1 by omega, e2, hz]
    rw [show stK CNx NXx 1285 (10 + 1) 0 vf' = (if (0 : Int32) = 0 then vf' else _) from rfl, if_pos rfl]
  have h3 := h2 e he
  rw [← e3] at h3
  rw [h3]
  unfold Vm Vn
  rw [if_neg (by omega)]
  have := dg_le he
  by_cases h0 : dg e = 0
  · rw [if_pos h0, if_neg (fun c => by omega)]
  · rw [if_neg h0, if_pos ⟨by omega, by omega⟩]
