/-! the jumps of one piece, as a search over numbers -/
def nb (k u w : Nat) : Nat :=
  if (if w < 2 then u / 3 + 3 - k else u / 3 + 3 + k) < 3 then 99 else if 8 < (if w < 2 then u / 3 + 3 - k else u / 3 + 3 + k) then 99 else
  if (if w % 2 = 0 then 2 * (u % 3) + u / 3 % 2 + 3 - k else 2 * (u % 3) + u / 3 % 2 + 3 + k) < 3 then 99 else if 8 < (if w % 2 = 0 then 2 * (u % 3) + u / 3 % 2 + 3 - k else 2 * (u % 3) + u / 3 % 2 + 3 + k) then 99 else
  3 * ((if w < 2 then u / 3 + 3 - k else u / 3 + 3 + k) - 3) + ((if w % 2 = 0 then 2 * (u % 3) + u / 3 % 2 + 3 - k else 2 * (u % 3) + u / 3 % 2 + 3 + k) - 3) / 2
theorem nb_near : ∀ u, u < 18 → ∀ w, w < 4 → nearT (4 * u + w) = (if nb 1 u w = 99 then -1 else nI (nb 1 u w)) ∧ behT (4 * u + w) = (if nb 2 u w = 99 then -1 else nI (nb 2 u w)) ∧ nearR (4 * u + w) = (if nb 1 u ((w + 2) % 4) = 99 then -1 else nI (nb 1 u ((w + 2) % 4))) ∧ farR (4 * u + w) = (if nb 2 u ((w + 2) % 4) = 99 then -1 else nI (nb 2 u ((w + 2) % 4))) := by decide +kernel
theorem nb_lt : ∀ u, u < 18 → ∀ w, w < 4 → (nb 1 u w < 18 ∨ nb 1 u w = 99) ∧ (nb 2 u w < 18 ∨ nb 2 u w = 99) ∧ (nb 2 u w ≠ 99 → nb 1 u w < 18) := by decide +kernel
def kd (pr fr : Nat → Bool) (T u w : Nat) : Bool := !(nb 2 u w == 99) && (pr (nb 1 u w) && (!T.testBit (nb 1 u w) && fr (nb 2 u w)))
def lf (s u T : Nat) : List Nat := if T = 0 then [] else [cd s u T]
def jv (ds : List Nat) (pr fr : Nat → Bool) (s : Nat) : Nat → Nat → Nat → List Nat
  | 0, u, T => lf s u T
  | d + 1, u, T => match ds.filter (kd pr fr T u) with
    | [] => lf s u T
    | w :: r => (w :: r).flatMap (fun w => jv ds pr fr s d (nb 2 u w) (T ||| 2 ^ nb 1 u w))
def dp (ds : List Nat) (pr fr : Nat → Bool) : Nat → Nat → Nat → Bool
  | 0, _, _ => false
  | d + 1, u, T => (ds.filter (kd pr fr T u)).all (fun w => dp ds pr fr d (nb 2 u w) (T ||| 2 ^ nb 1 u w))
def dC (m : Nat) : List Nat := if m = 0 then [2, 3] else if m = 1 then [0, 1] else [0, 1, 2, 3]
def dR (m : Nat) : List Nat := if m = 0 then [2, 3] else if m = 1 then [0, 1] else [2, 3, 0, 1]
/-! one piece jumps within a cross or a ring -/
def cmpI (s : Nat) : Nat := 2 * (s / 3 % 2) + (s / 6 + s % 3) % 2
def cmpL (c : Nat) : List Nat := if c = 0 then [0, 2, 7, 12, 14] else if c = 1 then [1, 6, 8, 13] else if c = 2 then [3, 5, 10, 15, 17] else [4, 9, 11, 16]
def edgL (c : Nat) : List Nat := if c = 0 then [3, 4, 9, 10] else if c = 1 then [3, 4, 9, 10] else if c = 2 then [7, 8, 13, 14] else [7, 8, 13, 14]
theorem cmp_cl : ∀ u, u < 18 → u ∈ cmpL (cmpI u) ∧ ∀ w, w < 4 → nb 2 u w ≠ 99 → cmpI (nb 2 u w) = cmpI u ∧ nb 1 u w ∈ edgL (cmpI u) := by decide +kernel
theorem dC_lt : ∀ m, m < 3 → ∀ w, w ∈ dC m → w < 4 := by decide
theorem dR_lt : ∀ m, m < 3 → ∀ w, w ∈ dR m → w < 4 := by decide
def mkB2 (p : Nat → Bool) : List Nat → Nat
  | [] => 0
  | j :: l => (if p j then 1 else 0) + 2 * mkB2 p l
def unB (l : List Nat) : Nat → Nat → Bool := match l with
  | [] => fun _ _ => false
  | j :: r => fun x i => if i == j then x % 2 == 1 else unB r (x / 2) i
theorem mkB2_lt (p : Nat → Bool) : ∀ l : List Nat, mkB2 p l < 2 ^ l.length
  | [] => by show 0 < 1; omega
  | j :: l => by
    have := mkB2_lt p l
    unfold mkB2
    rw [List.length_cons, Nat.pow_succ]
    split <;> omega
theorem unB_mk (p : Nat → Bool) : ∀ {l : List Nat} {i : Nat}, i ∈ l → unB l (mkB2 p l) i = p i
  | j :: l, i, h => by
    unfold unB mkB2
    by_cases e : i = j
    · subst e
      simp only [beq_self_eq_true, if_true]
      cases p i <;> simp <;> omega
    · have hi : i ∈ l := by
        rcases List.mem_cons.mp h with a | a
        · exact absurd a e
        · exact a
      simp only [beq_iff_eq, e, if_false]
      rw [show ((if p j then 1 else 0) + 2 * mkB2 p l) / 2 = mkB2 p l by split <;> omega]
      exact unB_mk p hi
theorem unB_no : ∀ {l : List Nat} {x i : Nat}, i ∉ l → unB l x i = false
  | [], _, _, _ => rfl
  | j :: l, x, i, h => by
    unfold unB
    have h2 : i ≠ j ∧ i ∉ l := by simpa [List.mem_cons, not_or] using h
    simp only [beq_iff_eq, h2.1, if_false]
    exact unB_no h2.2
theorem jv_congr {ds : List Nat} {pr fr pr' fr' : Nat → Bool} {s c : Nat} (hds : ∀ w, w ∈ ds → w < 4) (h1 : ∀ j, j ∈ edgL c → pr j = pr' j) (h2 : ∀ j, j ∈ cmpL c → fr j = fr' j) : ∀ d u T, u < 18 → cmpI u = c → jv ds pr fr s d u T = jv ds pr' fr' s d u T ∧ dp ds pr fr d u T = dp ds pr' fr' d u T ∧ ds.filter (kd pr fr T u) = ds.filter (kd pr' fr' T u) := by
  have key : ∀ T u, u < 18 → cmpI u = c → ds.filter (kd pr fr T u) = ds.filter (kd pr' fr' T u) := by
    intro T u hu hc
    refine List.filter_congr (fun w hw => ?_)
    unfold kd
    by_cases h99 : nb 2 u w = 99
    · simp [h99]
    · have a := (cmp_cl u hu).2 w (hds w hw) h99
      have b := nb_lt u hu w (hds w hw)
      have hg : nb 2 u w < 18 := by rcases b.2.1 with z | z; exact z; exact absurd z h99
      have e1 := h1 (nb 1 u w) (by rw [← hc]; exact a.2)
      have e2 := h2 (nb 2 u w) (by rw [← hc, ← a.1]; exact (cmp_cl _ hg).1)
      rw [e1, e2]
  intro d
  induction d with
  | zero => intro u T hu hc; exact ⟨rfl, rfl, key T u hu hc⟩
  | succ d ih =>
    intro u T hu hc
    have hk := key T u hu hc
    have hkid : ∀ w, w ∈ ds.filter (kd pr' fr' T u) → nb 2 u w < 18 ∧ cmpI (nb 2 u w) = c := by
      intro w hw
      have hw' := List.mem_filter.mp hw
      have h99 : nb 2 u w ≠ 99 := by
        intro e
        have := hw'.2
        unfold kd at this
        rw [e] at this
        simp at this
      have a := (cmp_cl u hu).2 w (hds w hw'.1) h99
      have b := nb_lt u hu w (hds w hw'.1)
      exact ⟨by rcases b.2.1 with z | z; exact z; exact absurd z h99, by rw [a.1, hc]⟩
    refine ⟨?_, ?_, hk⟩
    · unfold jv
      rw [hk]
      cases hf : ds.filter (kd pr' fr' T u) with
      | nil => rfl
      | cons w r =>
        show (w :: r).flatMap _ = (w :: r).flatMap _
        rw [← hf]
        rw [List.flatMap_def, List.flatMap_def]
        congr 1
        refine List.map_congr_left (fun z hz => ?_)
        have := hkid z hz
        exact (ih (nb 2 u z) _ this.1 this.2).1
    · unfold dp
      rw [hk]
      rw [Bool.eq_iff_iff, List.all_eq_true, List.all_eq_true]
      constructor
      · intro h w hw
        rw [← (ih (nb 2 u w) _ (hkid w hw).1 (hkid w hw).2).2.1]; exact h w hw
      · intro h w hw
        rw [(ih (nb 2 u w) _ (hkid w hw).1 (hkid w hw).2).2.1]; exact h w hw
def chkM (c s : Nat) (pr fr : Nat → Bool) (m : Nat) : Bool := cF m == s && (decide (m < 84934656) && (fr (cG m) && (!(cT m == 0) && (List.range 18).all (fun j => !(cT m).testBit j || (edgL c).contains j && pr j))))
def chkL (c s m : Nat) (pr fr : Nat → Bool) (LC LR : List Nat) : Bool := dp (dR m) pr fr 8 s 0 && (decide (LC.length ≤ 4) && (decide (LR.length ≤ 4) && (LC.all (fun z => LR.contains z && chkM c s pr fr z) && (LR.all (fun z => LC.contains z) && (LC.isEmpty == !((dC m).any (kd pr fr 0 s)))))))
def chk (s m x y : Nat) : Bool := chkL (cmpI s) s m (unB (edgL (cmpI s)) x) (fun j => j == s || unB (cmpL (cmpI s)) y j) (jv (dC m) (unB (edgL (cmpI s)) x) (fun j => j == s || unB (cmpL (cmpI s)) y j) s 18 s 0) (jv (dR m) (unB (edgL (cmpI s)) x) (fun j => j == s || unB (cmpL (cmpI s)) y j) s 8 s 0)
theorem chk_all : ((List.range 18).all fun s => (List.range 3).all fun m => (List.range 16).all fun x => (List.range (2 ^ (cmpL (cmpI s)).length)).all fun y => chk s m x y) = true := by decide +kernel
