/-! bits of an int: pasted out of the given laws -/
def bt (x : Int32) (i : Nat) : Bool := x.toBitVec.getLsbD i
theorem b_ext {x y : Int32} (h : ∀ i, i < 32 → bt x i = bt y i) : x = y := Int32.toBitVec_inj.mp (BitVec.eq_of_getLsbD_eq (fun i hi => h i hi))
theorem b_or (x y : Int32) (i : Nat) : bt (x ||| y) i = (bt x i || bt y i) := by unfold bt; rw [Int32.toBitVec_or, BitVec.getLsbD_or]
theorem b_and (x y : Int32) (i : Nat) : bt (x &&& y) i = (bt x i && bt y i) := by unfold bt; rw [Int32.toBitVec_and, BitVec.getLsbD_and]
theorem b_xor (x y : Int32) (i : Nat) : bt (x ^^^ y) i = (bt x i ^^ bt y i) := by unfold bt; rw [Int32.toBitVec_xor, BitVec.getLsbD_xor]
theorem b_big {x : Int32} {i : Nat} (h : 32 ≤ i) : bt x i = false := BitVec.getLsbD_of_ge _ _ h
theorem b_255 (i : Nat) : bt 255 i = decide (i < 8) := by
  rcases Nat.lt_or_ge i 32 with h | h
  · exact (by decide +kernel : ∀ i, i < 32 → bt 255 i = decide (i < 8)) i h
  · rw [b_big h, decide_eq_false (by omega)]
theorem b_65535 (i : Nat) : bt 65535 i = decide (i < 16) := by
  rcases Nat.lt_or_ge i 32 with h | h
  · exact (by decide +kernel : ∀ i, i < 32 → bt 65535 i = decide (i < 16)) i h
  · rw [b_big h, decide_eq_false (by omega)]
theorem b_m1 : ∀ i, i < 32 → bt (-1) i = true := by decide +kernel
theorem b_0 (i : Nat) : bt 0 i = false := BitVec.getLsbD_zero
theorem s_l : ∀ n, n < 32 → ((nI n &&& 31).toBitVec.smod 32).toNat = n := by decide +kernel
theorem s_u : ∀ n, n < 32 → (((nI n).toUInt32 &&& Int32.toUInt32 31).toBitVec % 32).toNat = n := by decide +kernel
theorem b_shl (n : Nat) (hn : n < 32) (x : Int32) {i : Nat} (hi : i < 32) : bt (x <<< (nI n &&& 31)) i = (decide (n ≤ i) && bt x (i - n)) := by
  unfold bt
  rw [Int32.toBitVec_shiftLeft]
  show (x.toBitVec <<< ((nI n &&& 31).toBitVec.smod 32).toNat).getLsbD i = _
  rw [s_l n hn, BitVec.getLsbD_shiftLeft]
  rcases Nat.lt_or_ge i n with h | h
  · simp [h, Nat.not_le.mpr h]
  · simp [hi, h, Nat.not_lt.mpr h]
theorem b_ushr (n : Nat) (hn : n < 32) (x : Int32) (i : Nat) : bt ((x.toUInt32 >>> ((nI n).toUInt32 &&& Int32.toUInt32 31)).toInt32) i = bt x (n + i) := by
  show (x.toUInt32 >>> ((nI n).toUInt32 &&& Int32.toUInt32 31)).toBitVec.getLsbD i = x.toUInt32.toBitVec.getLsbD (n + i)
  rw [UInt32.toBitVec_shiftRight]
  show (x.toUInt32.toBitVec >>> (((nI n).toUInt32 &&& Int32.toUInt32 31).toBitVec % 32).toNat).getLsbD i = _
  rw [s_u n hn, BitVec.getLsbD_ushiftRight]
theorem b_sshr (n : Nat) (hn : n < 32) (x : Int32) {i : Nat} (hi : i < 32) : bt (x >>> (nI n &&& 31)) i = if n + i < 32 then bt x (n + i) else bt x 31 := by
  unfold bt
  rw [Int32.toBitVec_shiftRight]
  show (x.toBitVec.sshiftRight ((nI n &&& 31).toBitVec.smod 32).toNat).getLsbD i = _
  rw [s_l n hn, BitVec.getLsbD_sshiftRight, BitVec.msb_eq_getLsbD_last]
  simp [hi]
theorem nx_and (a b : Nat) : nI a &&& nI b = nI (a &&& b) := by
  apply Int32.toBitVec_inj.1
  show BitVec.ofNat 32 a &&& BitVec.ofNat 32 b = BitVec.ofNat 32 (a &&& b)
  apply BitVec.eq_of_getLsbD_eq
  intro i hi
  simp [hi]
theorem nx_xor (a b : Nat) : nI a ^^^ nI b = nI (a ^^^ b) := by
  apply Int32.toBitVec_inj.1
  show BitVec.ofNat 32 a ^^^ BitVec.ofNat 32 b = BitVec.ofNat 32 (a ^^^ b)
  apply BitVec.eq_of_getLsbD_eq
  intro i hi
  simp [hi]
/-! own -/
theorem nx_or (a b : Nat) : nI a ||| nI b = nI (a ||| b) := by
  apply Int32.toBitVec_inj.1
  show BitVec.ofNat 32 a ||| BitVec.ofNat 32 b = BitVec.ofNat 32 (a ||| b)
  apply BitVec.eq_of_getLsbD_eq
  intro i hi
  simp [hi]
theorem bt_nI (n : Nat) {i : Nat} (hi : i < 32) : bt (nI n) i = n.testBit i := by
  show (BitVec.ofNat 32 n).getLsbD i = _
  rw [BitVec.getLsbD_ofNat]; simp [hi]
theorem bt_not (x : Int32) {i : Nat} (hi : i < 32) : bt (x ^^^ (-1)) i = !bt x i := by
  rw [b_xor, b_m1 i hi]; cases bt x i <;> rfl
theorem bt_one : ∀ i, i < 32 → bt 1 i = decide (i = 0) := by decide +kernel
theorem bt_sh {t i : Nat} (ht : t < 32) (hi : i < 32) : bt ((1 : Int32) <<< (nI t &&& 31)) i = decide (i = t) := by
  rw [b_shl t ht 1 hi, bt_one _ (by omega)]
  by_cases h : i = t
  · subst h; simp
  · by_cases h2 : t ≤ i
    · simp [h, h2]; omega
    · simp [h, h2]
theorem sh_nI : ∀ t, t < 32 → (1 : Int32) <<< (nI t &&& 31) = nI (2 ^ t) := by decide +kernel
theorem b_z0 {x : Int32} : x = 0 ↔ ∀ i, i < 32 → bt x i = false := by
  constructor
  · intro h i _; rw [h, b_0]
  · intro h; exact b_ext (fun i hi => by rw [h i hi, b_0])
theorem bit_and1 (y : Int32) : (y &&& 1 = 0 ↔ bt y 0 = false) ∧ (y &&& 1 = 1 ↔ bt y 0 = true) := by
  constructor
  · constructor
    · intro h
      have := b_z0.mp h 0 (by omega)
      rw [b_and, bt_one 0 (by omega)] at this
      simpa using this
    · intro h
      refine b_z0.mpr (fun i hi => ?_)
      rw [b_and, bt_one i hi]
      by_cases h0 : i = 0
      · subst h0; rw [h]; rfl
      · simp [h0]
  · constructor
    · intro h
      have : bt (y &&& 1) 0 = bt 1 0 := by rw [h]
      rw [b_and, bt_one 0 (by omega)] at this
      simpa using this
    · intro h
      refine b_ext (fun i hi => ?_)
      rw [b_and, bt_one i hi]
      by_cases h0 : i = 0
      · subst h0; rw [h]; rfl
      · simp [h0]
theorem bit_z (x : Int32) {s : Nat} (hs : s < 32) : (x >>> (nI s &&& 31)) &&& 1 = 0 ↔ bt x s = false := by
  rw [(bit_and1 _).1, b_sshr s hs x (by omega), if_pos (by omega)]; rfl
theorem bit_o (x : Int32) {s : Nat} (hs : s < 32) : (x >>> (nI s &&& 31)) &&& 1 = 1 ↔ bt x s = true := by
  rw [(bit_and1 _).2, b_sshr s hs x (by omega), if_pos (by omega)]; rfl
theorem and_z (x : Int32) {s : Nat} (hs : s < 32) : x &&& ((1 : Int32) <<< (nI s &&& 31)) = 0 ↔ bt x s = false := by
  constructor
  · intro h
    have := b_z0.mp h s hs
    rw [b_and, bt_sh hs hs] at this
    simpa using this
  · intro h
    refine b_z0.mpr (fun i hi => ?_)
    rw [b_and, bt_sh hs hi]
    by_cases h0 : i = s
    · subst h0; rw [h]; rfl
    · simp [h0]
/-- a set of squares: nothing from 18 on -/
def b18 (x : Int32) : Prop := ∀ i, 18 ≤ i → i < 32 → bt x i = false
theorem b18_ext {x y : Int32} (hx : b18 x) (hy : b18 y) (h : ∀ i, i < 18 → bt x i = bt y i) : x = y := b_ext (fun i hi => by
  by_cases h18 : i < 18
  · exact h i h18
  · rw [hx i (by omega) hi, hy i (by omega) hi])
theorem b18_nI {x : Int32} (hx : b18 x) : ∃ n, n < 2 ^ 18 ∧ x = nI n := by
  refine ⟨x.toBitVec.toNat % 2 ^ 18, Nat.mod_lt _ (by decide), ?_⟩
  refine b_ext (fun i hi => ?_)
  rw [bt_nI _ hi, Nat.testBit_mod_two_pow]
  by_cases h18 : i < 18
  · simp only [h18, decide_true, Bool.true_and]; rfl
  · rw [hx i (by omega) hi]; simp [h18]
theorem nI_b18 {n : Nat} (h : n < 2 ^ 18) : b18 (nI n) := fun i h1 h2 => by
  rw [bt_nI _ h2]
  exact Nat.testBit_lt_two_pow (Nat.lt_of_lt_of_le h (Nat.pow_le_pow_right (by decide) h1))
