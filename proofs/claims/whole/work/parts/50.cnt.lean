/-! how many bits -/
def cnt (f : Nat → Bool) : Nat → Nat
  | 0 => 0
  | n + 1 => cnt f n + if f n = true then 1 else 0
theorem cnt_congr {f g : Nat → Bool} : ∀ {n : Nat}, (∀ i, i < n → f i = g i) → cnt f n = cnt g n
  | 0, _ => rfl
  | n + 1, h => by unfold cnt; rw [cnt_congr (fun i hi => h i (by omega)), h n (by omega)]
theorem cnt_add (f : Nat → Bool) (a : Nat) : ∀ b, cnt f (a + b) = cnt f a + cnt (fun i => f (a + i)) b
  | 0 => rfl
  | b + 1 => by
    rw [show a + (b + 1) = (a + b) + 1 by omega, cnt, cnt_add f a b, cnt]; omega
theorem cnt_le (f : Nat → Bool) : ∀ n, cnt f n ≤ n
  | 0 => Nat.le_refl _
  | n + 1 => by have := cnt_le f n; unfold cnt; split <;> omega
def byA (x : Nat) : Nat := x - ((x / 2) &&& 85)
def byB (x : Nat) : Nat := (x &&& 51) + ((x / 4) &&& 51)
def byC (x : Nat) : Nat := (x + x / 16) % 16
theorem by_all : ∀ x, x < 256 → byA x < 256 ∧ ((x / 2) &&& 85) ≤ x ∧ byB (byA x) % 16 ≤ 4 ∧ byB (byA x) / 16 ≤ 4 ∧ byC (byB (byA x)) = cnt x.testBit 8 ∧ (byA x &&& 51) < 256 ∧ ((byA x / 4) &&& 51) < 256 := by decide +kernel
theorem by_h : ∀ x, x < 256 → ∀ e, e < 4 → ((x / 2 + 128 * (e % 2)) &&& 85) = ((x / 2) &&& 85) ∧ ((x / 4 + 64 * e) &&& 51) = ((x / 4) &&& 51) := by decide +kernel
theorem and_256 {l r p q : Nat} (hl : l < 256) (hp : p < 256) : (l + 256 * r) &&& (p + 256 * q) = (l &&& p) + 256 * (r &&& q) := by
  have h1 : ((l + 256 * r) &&& (p + 256 * q)) % 2 ^ 8 = l &&& p := by
    rw [Nat.and_mod_two_pow, show (2 : Nat) ^ 8 = 256 from rfl, show (l + 256 * r) % 256 = l by omega, show (p + 256 * q) % 256 = p by omega]
  have h2 : ((l + 256 * r) &&& (p + 256 * q)) / 2 ^ 8 = r &&& q := by
    rw [Nat.and_div_two_pow, show (2 : Nat) ^ 8 = 256 from rfl, show (l + 256 * r) / 256 = r by omega, show (p + 256 * q) / 256 = q by omega]
  rw [show (2 : Nat) ^ 8 = 256 from rfl] at h1 h2
  omega
theorem and_3 {l m h p t : Nat} (hl : l < 256) (hm : m < 256) (hp : p < 256) (hh : h < 256) : (l + 256 * (m + 256 * h)) &&& (p + 256 * (p + 256 * (p + 256 * t))) = (l &&& p) + 256 * ((m &&& p) + 256 * (h &&& p)) := by
  rw [and_256 hl hp, and_256 hm hp]
  have := and_256 (l := h) (r := 0) (q := t) hh hp
  rw [Nat.mul_zero, Nat.add_zero, Nat.zero_and, Nat.mul_zero, Nat.add_zero] at this
  rw [this]
def bitN (n : Nat) : Nat :=
  let a := n - ((n / 2) &&& 1431655765)
  let b := (a &&& 858993459) + ((a / 4) &&& 858993459)
  let c := (b + b / 16) &&& 252645135
  let d := c + c / 256
  let f := d + d / 65536
  f &&& 63
theorem by_sum {x y z : Nat} (hx : x < 16) (hy : y < 16) (hz : z < 16) : ((x + 256 * (y + 256 * z)) + (x + 256 * (y + 256 * z)) / 256 + ((x + 256 * (y + 256 * z)) + (x + 256 * (y + 256 * z)) / 256) / 65536) % 64 = x + y + z := by
  have h1 : (x + 256 * (y + 256 * z)) / 256 = y + 256 * z := by omega
  rw [h1]
  have h2 : (x + 256 * (y + 256 * z) + (y + 256 * z)) / 65536 = z := by omega
  rw [h2]; omega
theorem bitN_by {l m h : Nat} (hl : l < 256) (hm : m < 256) (hh : h < 256) : bitN (l + 256 * (m + 256 * h)) = cnt l.testBit 8 + cnt m.testBit 8 + cnt h.testBit 8 := by
  have al := by_all l hl
  have am := by_all m hm
  have ah := by_all h hh
  have e1 : (l + 256 * (m + 256 * h)) / 2 = (l / 2 + 128 * (m % 2)) + 256 * ((m / 2 + 128 * (h % 2)) + 256 * (h / 2)) := by omega
  have e2 : ((l + 256 * (m + 256 * h)) / 2) &&& 1431655765 = ((l / 2) &&& 85) + 256 * (((m / 2) &&& 85) + 256 * ((h / 2) &&& 85)) := by
    rw [e1, show (1431655765 : Nat) = 85 + 256 * (85 + 256 * (85 + 256 * 85)) from rfl, and_3 (by omega) (by omega) (by omega) (by omega)]
    have q1 := (by_h l hl (m % 2) (by omega)).1
    have q2 := (by_h m hm (h % 2) (by omega)).1
    rw [Nat.mod_mod] at q1 q2
    rw [q1, q2]
  have e3 : (l + 256 * (m + 256 * h)) - (((l + 256 * (m + 256 * h)) / 2) &&& 1431655765) = byA l + 256 * (byA m + 256 * byA h) := by
    rw [e2]; unfold byA; omega
  have e4 : (byA l + 256 * (byA m + 256 * byA h)) / 4 = (byA l / 4 + 64 * (byA m % 4)) + 256 * ((byA m / 4 + 64 * (byA h % 4)) + 256 * (byA h / 4)) := by omega
  have e5 : ((byA l + 256 * (byA m + 256 * byA h)) &&& 858993459) + (((byA l + 256 * (byA m + 256 * byA h)) / 4) &&& 858993459) = byB (byA l) + 256 * (byB (byA m) + 256 * byB (byA h)) := by
    rw [e4, show (858993459 : Nat) = 51 + 256 * (51 + 256 * (51 + 256 * 51)) from rfl, and_3 al.1 am.1 (by omega) ah.1, and_3 (by omega) (by omega) (by omega) (by omega), (by_h (byA l) al.1 (byA m % 4) (by omega)).2, (by_h (byA m) am.1 (byA h % 4) (by omega)).2]
    unfold byB; omega
  obtain ⟨bl, el⟩ : ∃ z, z = byB (byA l) := ⟨_, rfl⟩
  obtain ⟨bm, em⟩ : ∃ z, z = byB (byA m) := ⟨_, rfl⟩
  obtain ⟨bh, eh⟩ : ∃ z, z = byB (byA h) := ⟨_, rfl⟩
  rw [← el, ← em, ← eh] at e5
  rw [← el] at al; rw [← em] at am; rw [← eh] at ah
  have e6 : ((bl + 256 * (bm + 256 * bh)) + (bl + 256 * (bm + 256 * bh)) / 16) &&& 252645135 = byC bl + 256 * (byC bm + 256 * byC bh) := by
    rw [show (bl + 256 * (bm + 256 * bh)) + (bl + 256 * (bm + 256 * bh)) / 16 = (bl + bl / 16 + 16 * (bm % 16)) + 256 * ((bm + bm / 16 + 16 * (bh % 16)) + 256 * (bh + bh / 16)) by omega]
    rw [show (252645135 : Nat) = 15 + 256 * (15 + 256 * (15 + 256 * 15)) from rfl, and_3 (by omega) (by omega) (by omega) (by omega)]
    have m15 : ∀ x, x &&& 15 = x % 16 := fun x => Nat.and_two_pow_sub_one_eq_mod x 4
    rw [m15, m15, m15]
    unfold byC; omega
  unfold bitN
  simp only []
  rw [e3, e5, e6]
  have m63 : ∀ x, x &&& 63 = x % 64 := fun x => Nat.and_two_pow_sub_one_eq_mod x 6
  rw [m63]
  have c1 : byC bl < 16 := Nat.mod_lt _ (by decide)
  have c2 : byC bm < 16 := Nat.mod_lt _ (by decide)
  have c3 : byC bh < 16 := Nat.mod_lt _ (by decide)
  rw [← al.2.2.2.2.1, ← am.2.2.2.2.1, ← ah.2.2.2.2.1]
  exact by_sum c1 c2 c3
theorem bitN_cnt {n : Nat} (hn : n < 262144) : bitN n = cnt n.testBit 18 := by
  have e : n = n % 256 + 256 * (n / 256 % 256 + 256 * (n / 65536)) := by omega
  have h1 : bitN n = cnt (n % 256).testBit 8 + cnt (n / 256 % 256).testBit 8 + cnt (n / 65536).testBit 8 := by
    have := bitN_by (l := n % 256) (m := n / 256 % 256) (h := n / 65536) (by omega) (by omega) (by omega)
    rw [← e] at this; exact this
  rw [h1, show (18 : Nat) = 8 + (8 + 2) from rfl, cnt_add, cnt_add]
  have a1 : cnt (n % 256).testBit 8 = cnt n.testBit 8 := cnt_congr (fun i hi => by
    rw [show (256 : Nat) = 2 ^ 8 from rfl, Nat.testBit_mod_two_pow, decide_eq_true hi, Bool.true_and])
  have a2 : cnt (n / 256 % 256).testBit 8 = cnt (fun i => n.testBit (8 + i)) 8 := cnt_congr (fun i hi => by
    rw [show (256 : Nat) = 2 ^ 8 from rfl, Nat.testBit_mod_two_pow, decide_eq_true hi, Bool.true_and, Nat.testBit_div_two_pow, Nat.add_comm])
  have a3 : cnt (n / 65536).testBit 8 = cnt (fun i => n.testBit (8 + (8 + i))) 2 := by
    rw [show (8 : Nat) = 2 + 6 from rfl, cnt_add]
    have z : cnt (fun i => (n / 65536).testBit (2 + i)) 6 = 0 := by
      have : ∀ k, cnt (fun i => (n / 65536).testBit (2 + i)) k = 0 := by
        intro k
        induction k with
        | zero => rfl
        | succ k ih =>
          rw [cnt, ih, if_neg]
          rw [Nat.testBit_lt_two_pow (Nat.lt_of_lt_of_le (show n / 65536 < 2 ^ 2 by omega) (Nat.pow_le_pow_right (by decide) (by omega)))]
          decide
      exact this 6
    rw [z, Nat.add_zero]
    refine cnt_congr (fun i hi => ?_)
    rw [show (65536 : Nat) = 2 ^ 16 from rfl, Nat.testBit_div_two_pow]
    congr 1; omega
  rw [a1, a2, a3]; omega
theorem bitC_nI {n : Nat} (hn : n < 262144) : bitC (nI n) = nI (bitN n) := by
  unfold bitC bitN ush
  simp only []
  have an : ∀ a b : Nat, (a &&& b) ≤ a := fun a b => Nat.and_le_left
  rw [pk_ushrN (by omega) 1 1 (by decide), show (1431655765 : Int32) = nI 1431655765 from rfl, nx_and, pk_sub (Nat.le_trans (an _ _) (by omega))]
  generalize ea : n - (n / 2 ^ 1 &&& 1431655765) = a
  have ea' : n - (n / 2 &&& 1431655765) = a := ea
  have ha : a < 262144 := by omega
  rw [pk_ushrN (by omega) 2 2 (by decide), show (858993459 : Int32) = nI 858993459 from rfl, nx_and, nx_and, nI_add]
  generalize eb : (a &&& 858993459) + (a / 2 ^ 2 &&& 858993459) = b
  have eb' : (a &&& 858993459) + (a / 4 &&& 858993459) = b := eb
  have hb : b < 524288 := by
    have := an a 858993459; have := an (a / 2 ^ 2) 858993459
    have : a / 2 ^ 2 ≤ a := Nat.div_le_self _ _
    omega
  rw [pk_ushrN (by omega) 4 4 (by decide), nI_add, show (252645135 : Int32) = nI 252645135 from rfl, nx_and]
  generalize ec : (b + b / 2 ^ 4) &&& 252645135 = c
  have ec' : (b + b / 16) &&& 252645135 = c := ec
  have hc : c < 1048576 := by have := an (b + b / 2 ^ 4) 252645135; have : b / 2 ^ 4 ≤ b := Nat.div_le_self _ _; omega
  rw [pk_ushrN (by omega) 8 8 (by decide), nI_add]
  have : c / 2 ^ 8 ≤ c := Nat.div_le_self _ _
  rw [pk_ushrN (by omega) 16 16 (by decide), nI_add, show (63 : Int32) = nI 63 from rfl, nx_and]
theorem bitC_cnt {x : Int32} (h : b18 x) : bitC x = nI (cnt (bt x) 18) := by
  obtain ⟨n, hn, e⟩ := b18_nI h
  have hn' : n < 262144 := hn
  rw [e, bitC_nI hn', bitN_cnt hn']
  congr 1
  exact cnt_congr (fun i hi => (bt_nI n (by omega)).symm)
