theorem b18_and {x y : Int32} (h : b18 x) : b18 (x &&& y) := fun i h1 h2 => by rw [b_and, h i h1 h2]; rfl
theorem own_18 {P : Ps} (h : WFp P) : b18 (ownP P) ∧ b18 (othP P) := by
  unfold ownP othP
  by_cases hm : P.2.2.2.1 = 0
  · rw [if_pos hm, if_pos hm]; exact ⟨h.w, h.b⟩
  · rw [if_neg hm, if_neg hm]; exact ⟨h.b, h.w⟩
theorem one_cnt {P : Ps} (h : WFp P) : ¬ oneP P = 0 ↔ cnt (bt P.1) 18 = 1 ∧ cnt (bt P.2.1) 18 = 1 := by
  unfold oneP
  have a := cnt_le (bt P.1) 18
  have b := cnt_le (bt P.2.1) 18
  rw [bitC_cnt h.w, bitC_cnt h.b, show (1 : Int32) = nI 1 from rfl]
  by_cases h1 : cnt (bt P.1) 18 = 1
  · rw [if_pos (by rw [h1])]
    by_cases h2 : cnt (bt P.2.1) 18 = 1
    · rw [if_pos (by rw [h2])]; simp [h1, h2]; decide
    · rw [if_neg (fun c => h2 ((nI_eq (by omega) (by omega)).mp c))]; simp [h2]
  · rw [if_neg (fun c => h1 ((nI_eq (by omega) (by omega)).mp c))]; simp [h1]
theorem i_ap (a b c : Int32) : a - b + c = (a + c) - b := by
  rw [Int32.sub_eq_add_neg, Int32.sub_eq_add_neg, Int32.add_assoc, Int32.add_comm (-b) c, ← Int32.add_assoc]
theorem i_am (a b c : Int32) : a - b - c = a - (b + c) := by
  rw [Int32.sub_eq_add_neg, Int32.sub_eq_add_neg, Int32.sub_eq_add_neg, Int32.neg_add, Int32.add_assoc]
  try rw [Int32.sub_eq_add_neg]
theorem mat_i {P : Ps} (hP : WFp P) {S : Nat → Nat → Int32} {p : Nat} (hrow : rowOK S p P) : ∀ i, i ≤ 18 → mtL S p i = nI (2 * cnt (bt (ownP P)) i + cnt (bt (ownP P &&& P.2.2.1)) i) - nI (2 * cnt (bt (othP P)) i + cnt (bt (othP P &&& P.2.2.1)) i)
  | 0, _ => by
    show (0 : Int32) = nI (2 * 0 + 0) - nI (2 * 0 + 0)
    decide
  | i + 1, hi => by
    have ih := mat_i hP hrow i (by omega)
    have hso := side_own hP (show i < 18 by omega)
    have hd := hP.dj i (by omega)
    unfold mtL cnt
    rw [hrow.1 i (by omega), hrow.2, ih, b_and, b_and]
    simp only [hso.1]
    rw [pc_bits _ (by omega)]
    obtain ⟨a, ea⟩ : ∃ z, z = 2 * cnt (bt (ownP P)) i + cnt (bt (ownP P &&& P.2.2.1)) i := ⟨_, rfl⟩
    obtain ⟨b, eb⟩ : ∃ z, z = 2 * cnt (bt (othP P)) i + cnt (bt (othP P &&& P.2.2.1)) i := ⟨_, rfl⟩
    rw [← ea, ← eb]
    have h2 : ∀ x y c d : Nat, 2 * (x + c) + (y + d) = (2 * x + y) + (2 * c + d) := fun x y c d => by omega
    rw [h2, h2, ← ea, ← eb]
    rcases hP.mo with hm | hm
    · rw [((own_bits i).1 hm).1, ((own_bits i).1 hm).2]
      generalize bt P.1 i = w at *
      generalize bt P.2.1 i = u at *
      generalize bt P.2.2.1 i = k at *
      cases w <;> cases u <;> cases k <;> first
        | exact absurd (hd rfl) (by decide)
        | (simp [pcB, kingR, ← nI_add, i_ap, i_am, nI_0]; try rfl)
    · rw [((own_bits i).2 hm).1, ((own_bits i).2 hm).2]
      generalize bt P.1 i = w at *
      generalize bt P.2.1 i = u at *
      generalize bt P.2.2.1 i = k at *
      cases w <;> cases u <;> cases k <;> first
        | exact absurd (hd rfl) (by decide)
        | (simp [pcB, kingR, ← nI_add, i_ap, i_am, nI_0]; try rfl)
theorem mat_sem : MatSem WFp := by
  intro S p P hrow hP
  rw [mat_i hP hrow 18 (by omega)]
  have ho := own_18 hP
  unfold balP
  rw [bitC_cnt ho.1, bitC_cnt ho.2, bitC_cnt (b18_and ho.1), bitC_cnt (b18_and ho.2), show (2 : Int32) = nI 2 from rfl, pk_mul, pk_mul, nI_add, nI_add]
theorem tk_cnt {m : Nat} (h : okM m) : ∀ j, j ≤ 18 → tkC (nI m) j = nI (cnt (cT m).testBit j)
  | 0, _ => rfl
  | j + 1, hj => by
    unfold tkC cnt
    rw [(beg_m h).2.2, tk_cnt h j (by omega)]
    by_cases ht : (cT m).testBit j = true
    · rw [if_pos ((bit_o _ (by omega)).mpr (by rw [bt_nI _ (by omega)]; exact ht)), if_pos ht, nI_1]
    · have hn : ¬ (nI (cT m) >>> (nI j &&& 31)) &&& 1 = 1 := fun c => ht (by rw [bit_o _ (by omega), bt_nI _ (by omega)] at c; exact c)
      rw [if_neg hn, if_neg ht]; rfl
theorem tk_bit {m : Nat} (h : okM m) : tkC (nI m) 18 = bitC (mvT (nI (cc m))) := by
  rw [tk_cnt h 18 (by omega), (mv_cc h).2.2]
  have hT := (cd_of h).2.2.1
  rw [bitC_nI hT, bitN_cnt hT]
