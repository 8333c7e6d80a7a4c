/-! the reference's table of verdicts comes to the digits -/
def kl (d : Nat) : Int32 := if d % 2 = 1 then -nI d else nI d
def Kn (n e : Nat) : Int32 := if kg e ≤ n + 1 then kl (kg e) else 0
def Km (n i x : Nat) : Int32 := if x < i then Kn n x else Kn (n - 1) x
def chkK (n e : Nat) : Bool := if kg e = 0 ∨ n < kg e then jdR FL (Km n e) e (nI n) == Kn n e else true
theorem kl_ne : ∀ d, d < 12 → (kl d = 0 ↔ d = 0) := by decide +kernel
theorem kg_lev : (((List.range 9).all fun k => (List.range 2592).any fun e => kg e == k + 2) && ((List.range 2592).all fun e => decide (kg e ≤ 10))) = true := by decide +kernel
theorem kg_ini : ((List.range 2592).all fun e => (FL (4 * e) == -1) == (kg e == 1)) = true := by decide +kernel
theorem chkK_1 : ((List.range 2592).all fun e => chkK 1 e) = true := by decide +kernel
theorem chkK_2 : ((List.range 2592).all fun e => chkK 2 e) = true := by decide +kernel
theorem chkK_3 : ((List.range 2592).all fun e => chkK 3 e) = true := by decide +kernel
theorem chkK_4 : ((List.range 2592).all fun e => chkK 4 e) = true := by decide +kernel
theorem chkK_5 : ((List.range 2592).all fun e => chkK 5 e) = true := by decide +kernel
theorem chkK_6 : ((List.range 2592).all fun e => chkK 6 e) = true := by decide +kernel
theorem chkK_7 : ((List.range 2592).all fun e => chkK 7 e) = true := by decide +kernel
theorem chkK_8 : ((List.range 2592).all fun e => chkK 8 e) = true := by decide +kernel
theorem chkK_9 : ((List.range 2592).all fun e => chkK 9 e) = true := by decide +kernel
theorem chkK_10 : ((List.range 2592).all fun e => chkK 10 e) = true := by decide +kernel
