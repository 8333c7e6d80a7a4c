/-! the class's jumps and steps are those of the search -/
def prP (P : Ps) (j : Nat) : Bool := bt (othP P) j
def frP (P : Ps) (s j : Nat) : Bool := j == s || !bt (fulP P) j
def mdP (P : Ps) (s : Nat) : Nat := if bt P.2.2.1 s = true then 2 else if P.2.2.2.1 = 0 then 0 else 1
theorem mdP_lt (P : Ps) (s : Nat) : mdP P s < 3 := by unfold mdP; split; omega; split <;> omega
theorem kingP_z (P : Ps) {s : Nat} (hs : s < 32) : kingP P (nI s) = 0 ↔ bt P.2.2.1 s = false := by
  unfold kingP
  by_cases h : bt P.2.2.1 s = false
  · rw [if_pos ((bit_z _ hs).mpr h)]; simp [h]
  · rw [if_neg (fun c => h ((bit_z _ hs).mp c))]
    constructor
    · intro c; exact absurd c (by decide)
    · intro c; exact absurd c h
def wsL (e : Nat) : Nat → Nat → List Nat
  | 0, _ => []
  | k + 1, w => if e < w then [] else w :: wsL e k (w + 1)
theorem ws_dC {P : Ps} {s : Nat} (hs : s < 18) (hm : P.2.2.2.1 = 0 ∨ P.2.2.2.1 = 1) : wsL (lstN P s) (4 - fstN P s) (fstN P s) = dC (mdP P s) := by
  unfold lstN fstN mdP
  by_cases hk : bt P.2.2.1 s = false
  · rw [if_pos ((kingP_z P (by omega)).mpr hk), if_pos ((kingP_z P (by omega)).mpr hk), if_neg (show ¬ bt P.2.2.1 s = true by rw [hk]; decide)]
    rcases hm with h | h <;> rw [h] <;> decide
  · rw [if_neg (fun c => hk ((kingP_z P (by omega)).mp c)), if_neg (fun c => hk ((kingP_z P (by omega)).mp c)), if_pos (show bt P.2.2.1 s = true by simpa using hk)]
    decide
theorem pack_cd {s u T : Nat} (hs : s < 18) (hu : u < 18) (hT : T < 262144) : packF (nI s) (nI u) (nI T) = nI (cc (cd s u T)) := by
  have hc := cd_ok hs hu hT
  unfold packF cc
  rw [hc.2.1, hc.2.2.1, hc.2.2.2]
  rw [pk_shlN ((23 : Int32) &&& 31) 23 (by decide) (by omega), pk_shlN ((18 : Int32) &&& 31) 18 (by decide) (by omega), nx_or, nx_or]
  congr 1
  have p23 : (2 : Nat) ^ 23 = 8388608 := by decide
  have p18 : (2 : Nat) ^ 18 = 262144 := by decide
  have e1 : s * 2 ^ 23 ||| u * 2 ^ 18 = s * 2 ^ 23 + u * 2 ^ 18 := by
    have := Nat.shiftLeft_add_eq_or_of_lt (show u * 2 ^ 18 < 2 ^ 23 by simp only [p23, p18]; omega) s
    rw [Nat.shiftLeft_eq] at this
    exact this.symm
  have e3 : ∀ a b : Nat, (a * 32 + b) * 262144 = a * 8388608 + b * 262144 := fun a b => by omega
  have e2 : (s * 2 ^ 23 + u * 2 ^ 18) ||| T = s * 2 ^ 23 + u * 2 ^ 18 + T := by
    have := Nat.shiftLeft_add_eq_or_of_lt (show T < 2 ^ 18 by simp only [p18]; omega) (s * 32 + u)
    rw [Nat.shiftLeft_eq, p18, e3] at this
    rw [p18, p23]
    exact this.symm
  rw [e1, e2, p23, p18]
theorem nb_cl {u w : Nat} (hu : u < 18) (hw : w < 4) (h : nb 2 u w ≠ 99) : nb 1 u w < 18 ∧ nb 2 u w < 18 ∧ nearT (4 * u + w) = nI (nb 1 u w) ∧ behT (4 * u + w) = nI (nb 2 u w) := by
  have a := nb_lt u hu w hw
  have b := nb_near u hu w hw
  have h1 := a.2.2 h
  refine ⟨h1, by rcases a.2.1 with z | z; exact z; exact absurd z h, ?_, ?_⟩
  · rw [b.1, if_neg (by omega)]
  · rw [b.2.1, if_neg h]
theorem kd_cls (P : Ps) {s u w T : Nat} (hs : s < 18) (hu : u < 18) (hw : w < 4) : (¬ behT (4 * u + w) = -1 ∧ ¬ ((othP P &&& (nI T ^^^ (-1))) >>> (nearT (4 * u + w) &&& 31)) &&& 1 = 0 ∧ ((fulP P &&& (((1 : Int32) <<< (nI s &&& 31)) ^^^ (-1))) >>> (behT (4 * u + w) &&& 31)) &&& 1 = 0) ↔ kd (prP P) (frP P s) T u w = true := by
  unfold kd
  by_cases h : nb 2 u w = 99
  · have b := nb_near u hu w hw
    rw [b.2.1, if_pos h, h]
    simp
  · obtain ⟨h1, h2, e1, e2⟩ := nb_cl hu hw h
    rw [e1, e2]
    have n1 : ¬ nI (nb 2 u w) = -1 := by
      intro e
      have := congrArg Int32.toInt e
      rw [nI_toInt (by omega)] at this
      have : ((nb 2 u w : Nat) : Int) = -1 := this
      omega
    rw [bit_z _ (by omega), bit_z _ (by omega), b_and, b_and, bt_not _ (by omega), bt_not _ (by omega), bt_nI _ (by omega), bt_sh (by omega) (by omega)]
    unfold prP frP
    by_cases es : nb 2 u w = s
    · simp [es, show ¬ nI s = -1 from es ▸ n1, show ¬ s = 99 by omega]
    · simp [n1, h, es, and_assoc]
theorem or_lt18 {T o : Nat} (hT : T < 262144) (ho : o < 18) : T ||| 2 ^ o < 262144 := by
  have : (2 : Nat) ^ o < 2 ^ 18 := Nat.pow_lt_pow_right (by decide) ho
  exact Nat.or_lt_two_pow (n := 18) hT this
theorem lpW_jv {P : Ps} {s d u T : Nat} {rc : Nat → Int32 → LSt → LSt} {G : Nat → Nat → List Nat} (hs : s < 18) (hu : u < 18) (hT : T < 262144) (hd : d ≠ 0) (hrc : ∀ w S, w < 4 → nb 2 u w ≠ 99 → rc (nb 2 u w) (nI (T ||| 2 ^ nb 1 u w)) S = etL S (G (nb 2 u w) (T ||| 2 ^ nb 1 u w))) : ∀ k w en S, w + k ≤ 4 → lpW P s d u (nI T) rc k w en S = (etL S (((wsL (lstN P s) k w).filter (kd (prP P) (frP P s) T u)).flatMap (fun w => G (nb 2 u w) (T ||| 2 ^ nb 1 u w))), if ((wsL (lstN P s) k w).filter (kd (prP P) (frP P s) T u)) = [] then en else 0)
  | 0, w, en, S, _ => rfl
  | k + 1, w, en, S, hk => by
    unfold lpW wsL
    by_cases hl : lstN P s < w
    · rw [if_pos hl, if_pos hl]; rfl
    · rw [if_neg hl, if_neg hl, if_neg hd]
      by_cases hc : kd (prP P) (frP P s) T u w = true
      · rw [if_pos ((kd_cls P hs hu (by omega)).mpr hc), List.filter_cons_of_pos hc, List.flatMap_cons, if_neg (List.cons_ne_nil _ _)]
        have h99 : nb 2 u w ≠ 99 := by
          intro e
          unfold kd at hc
          rw [e] at hc
          simp at hc
        obtain ⟨h1, h2, e1, e2⟩ := nb_cl hu (by omega) h99
        rw [e1, e2, nI_clamp (by omega), sh_nI _ (by omega), nx_or, hrc w S (by omega) h99, lpW_jv hs hu hT hd hrc k (w + 1) 0 _ (by omega), etL_app]
        congr 1
        split <;> rfl
      · rw [if_neg (fun c => hc ((kd_cls P hs hu (by omega)).mp c)), List.filter_cons_of_neg hc, lpW_jv hs hu hT hd hrc k (w + 1) en _ (by omega)]
theorem lf_lpE {s u T : Nat} (hs : s < 18) (hu : u < 18) (hT : T < 262144) (S : LSt) : lpE s u (nI T) (S, 1) = etL S (lf s u T) := by
  unfold lpE lf
  rw [if_neg (show ¬ (1 : Int32) = 0 by decide)]
  by_cases h : T = 0
  · subst h; rfl
  · rw [if_neg (nI_ne0 (by omega) (by omega)), if_neg h, pack_cd hs hu hT]; rfl
theorem fst_le (P : Ps) (s : Nat) : fstN P s ≤ 2 := by unfold fstN; split; split <;> omega; omega
theorem leap_jv {P : Ps} {s : Nat} (hs : s < 18) (hm : P.2.2.2.1 = 0 ∨ P.2.2.2.1 = 1) : ∀ d u T S, u < 18 → T < 262144 → leapF P s d u (nI T) S = etL S (jv (dC (mdP P s)) (prP P) (frP P s) s d u T)
  | 0, u, T, S, hu, hT => by
    unfold leapF lpF jv
    have h0 : ∀ k w, lpW P s 0 u (nI T) (fun _ _ S => S) k w 1 S = (S, 1) := by
      intro k w
      cases k with
      | zero => rfl
      | succ k => unfold lpW; split; rfl; rw [if_pos rfl]
    rw [h0]
    exact lf_lpE hs hu hT S
  | d + 1, u, T, S, hu, hT => by
    unfold leapF lpF jv
    have hf := fst_le P s
    rw [lpW_jv (G := fun a b => jv (dC (mdP P s)) (prP P) (frP P s) s d a b) hs hu hT (by omega) (fun w S hw h99 => by
      obtain ⟨h1, h2, e1, e2⟩ := nb_cl hu hw h99
      exact leap_jv hs hm d _ _ S h2 (or_lt18 hT h1)) _ _ _ _ (by omega), ws_dC hs hm]
    cases hfl : (dC (mdP P s)).filter (kd (prP P) (frP P s) T u) with
    | nil => exact lf_lpE hs hu hT S
    | cons w r => rw [if_neg (List.cons_ne_nil _ _)]; rfl
/-! steps -/
def sv (ds : List Nat) (ful : Nat → Bool) (s : Nat) : List Nat := (ds.filter (fun w => !(nb 1 s w == 99) && !ful (nb 1 s w))).map (fun w => cd s (nb 1 s w) 0)
theorem step_sv {P : Ps} {s : Nat} (hs : s < 18) : ∀ k w S, w + k ≤ 4 → stepL P s k w S = etL S (sv (wsL (lstN P s) k w) (bt (fulP P)) s)
  | 0, w, S, _ => rfl
  | k + 1, w, S, hk => by
    unfold stepL wsL
    by_cases hl : lstN P s < w
    · rw [if_pos hl, if_pos hl]; rfl
    · rw [if_neg hl, if_neg hl, step_sv hs k (w + 1) _ (by omega)]
      unfold step1 sv
      have b := nb_near s hs w (by omega)
      have a := nb_lt s hs w (by omega)
      by_cases h : nb 1 s w = 99
      · rw [b.1, if_pos h, if_pos rfl, List.filter_cons_of_neg (by simp [h])]
      · have h1 : nb 1 s w < 18 := by rcases a.1 with z | z; exact z; exact absurd z h
        have n1 : ¬ nI (nb 1 s w) = -1 := by
          intro e
          have := congrArg Int32.toInt e
          rw [nI_toInt (by omega)] at this
          have : ((nb 1 s w : Nat) : Int) = -1 := this
          omega
        rw [b.1, if_neg h, if_neg n1]
        by_cases hf : bt (fulP P) (nb 1 s w) = false
        · rw [if_pos ((bit_z _ (by omega)).mpr hf), List.filter_cons_of_pos (by simp [h, hf]), List.map_cons]
          rw [show packF (nI s) (nI (nb 1 s w)) 0 = nI (cc (cd s (nb 1 s w) 0)) from pack_cd (T := 0) hs h1 (by omega)]
          rfl
        · rw [if_neg (fun c => hf ((bit_z _ (by omega)).mp c)), List.filter_cons_of_neg (by simp [h]; simpa using hf)]
theorem steps_sv {P : Ps} {s : Nat} (hs : s < 18) (hm : P.2.2.2.1 = 0 ∨ P.2.2.2.1 = 1) (S : LSt) : stepsF P s S = etL S (sv (dC (mdP P s)) (bt (fulP P)) s) := by
  unfold stepsF
  have hf := fst_le P s
  rw [step_sv hs _ _ _ (by omega), ws_dC hs hm]
