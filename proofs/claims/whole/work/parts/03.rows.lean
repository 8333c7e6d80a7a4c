/-! The memory: one pool; L holds the addresses, M says what stands at each. Array classes: dA 0 int, 1 byte, 2 short, 3 boolean, 4 Position, 5 MoveList. -/
abbrev mm_M : Type := Nat → va_E
/-- no address stands twice -/
def mm_nd (L : List Nat) : Prop := ∀ (i j a : Nat), L[i]? = some a → L[j]? = some a → i = j
def mm_tys (dA : Nat → ClassId) : List (ClassId × FieldType) := [(dA 0, .int), (dA 1, .byte), (dA 2, .short), (dA 3, .boolean), (dA 4, .object "JumpBoard$Position"), (dA 5, .object "JumpBoard$MoveList")]
def mm_N (U : State) : Prop := va_Nw (.methodLinkNest RX0 24 yX1_init RX4) U ∧ va_Nw (.methodLinkNest RX0 27 yX2_init RX4) U ∧ va_Nw (.methodLinkNest RX4 32 yX1_init RX4) U ∧ va_Nw (.methodLinkNest RX4 37 yX2_init RX4) U ∧ va_AO "JumpBoard$Position" U ∧ va_AO "JumpBoard$MoveList" U
def mm_K (D : va_G) (dA : Nat → ClassId) (U : State) : Prop := va_K D vwCl (mm_tys dA) U ∧ mm_N U
theorem mm_K.warm {D : va_G} {dA : Nat → ClassId} {s U : State} (hW : s.WarmedH U.vm) (h : mm_K D dA s) : mm_K D dA U :=
  ⟨va_K.moved hW.alike h.1, va_Nw.warmM hW h.2.1, va_Nw.warmM hW h.2.2.1, va_Nw.warmM hW h.2.2.2.1, va_Nw.warmM hW h.2.2.2.2.1, va_AO.moved hW.alike h.2.2.2.2.2.1, va_AO.moved hW.alike h.2.2.2.2.2.2⟩
def mm_A (L : List Nat) (sz : Nat) : Nat → Prop := fun q => q ∈ L ∨ sz ≤ q
/-- the world in a walk: the pool, apart, inside A; nothing else has changed since s -/
def mm_V (A : Nat → Prop) (D : va_G) (L : List Nat) (M : mm_M) (s : State) (H : Heap) (locs : List Loc) : Prop :=
  va_P D vwCl (va_pl L M) H ∧ mm_nd L ∧ (∀ a ∈ L, A a) ∧ va_S A s.heap H locs ∧ (∀ q, s.heap.size ≤ q → A q)
def mm_B (D : va_G) (dA : Nat → ClassId) (L : List Nat) (M : mm_M) (sz : Nat) (U : State) : Prop :=
  U.heap.size = sz ∧ va_P D vwCl (va_pl L M) U.heap ∧ mm_nd L ∧ mm_K D dA U
def mm_rm (k mc ms : Nat) : Room := { frames := k, cells := mc, slots := ms, locals := 40 * k }
def mm_Eb (D : va_G) (A : Nat → Prop) (u : List Nat × mm_M) (t : State) : Prop := va_P D vwCl (va_pl u.1 u.2) t.heap ∧ mm_nd u.1 ∧ ∀ a ∈ u.1, A a
def mm_Qi (D : va_G) (A : Nat → Prop) (post : Int32 → List Nat → mm_M → Prop) : Array Value → State → Outcome → State → Prop := va_Qi (S := List Nat × mm_M) (fun r u => post r u.1 u.2) (mm_Eb D A) A
def mm_Qv (D : va_G) (A : Nat → Prop) (post : List Nat → mm_M → Prop) : Array Value → State → Outcome → State → Prop := va_Qv (S := List Nat × mm_M) (fun u => post u.1 u.2) (mm_Eb D A) A
/-- contracts: a method that answers an int (or a boolean), one that answers nothing; k its level (frames, locals), mc cells of ms slots may come -/
def mm_Ci (l : Launch) (D : va_G) (dA : Nat → ClassId) (y : MethodName) (ws : List Cond) (k mc ms : Nat) (av : List Value) (L : List Nat) (M : mm_M) (post : Int32 → List Nat → mm_M → Prop) : Prop :=
  ∀ sz, Met l y ws (mm_rm k mc ms) (va_Pc av (mm_B D dA L M sz)) (mm_Qi D (mm_A L sz) post) mc ms (mm_A L sz)
def mm_Cv (l : Launch) (D : va_G) (dA : Nat → ClassId) (y : MethodName) (ws : List Cond) (k mc ms : Nat) (av : List Value) (L : List Nat) (M : mm_M) (post : List Nat → mm_M → Prop) : Prop :=
  ∀ sz, Met l y ws (mm_rm k mc ms) (va_Pc av (mm_B D dA L M sz)) (mm_Qv D (mm_A L sz) post) mc ms (mm_A L sz)
theorem mm_plfst (L : List Nat) (M : mm_M) (i : Nat) : (va_pl L M)[i]? = L[i]?.map (fun a => (a, M a)) := by simp [va_pl]
theorem mm_D {A : Nat → Prop} {L : List Nat} (M : mm_M) (hn : mm_nd L) (hA : ∀ a ∈ L, A a) : va_D A (va_pl L M) := by
  refine ⟨fun i j p q hi hj e => ?_, fun k q hk => ?_⟩
  · rw [mm_plfst] at hi hj
    cases h1 : L[i]? with
    | none => rw [h1] at hi; cases hi
    | some a =>
      cases h2 : L[j]? with
      | none => rw [h2] at hj; cases hj
      | some b =>
        rw [h1] at hi; rw [h2] at hj
        cases hi; cases hj
        cases (show a = b from e)
        exact hn i j a h1 h2
  · rw [mm_plfst] at hk
    cases h1 : L[k]? with
    | none => rw [h1] at hk; cases hk
    | some a =>
      rw [h1] at hk; cases hk
      exact hA a (List.mem_of_getElem? h1)
theorem mm_D_nodup {A : Nat → Prop} {L : List Nat} {M : mm_M} (h : va_D A (va_pl L M)) : mm_nd L := by
  intro i j a hi hj
  have e1 : (va_pl L M)[i]? = some (a, M a) := by rw [mm_plfst, hi]; rfl
  have e2 : (va_pl L M)[j]? = some (a, M a) := by rw [mm_plfst, hj]; rfl
  exact h.1 i j _ _ e1 e2 rfl
theorem mm_D_in {A : Nat → Prop} {L : List Nat} {M : mm_M} (h : va_D A (va_pl L M)) : ∀ a ∈ L, A a := by
  intro a ha
  obtain ⟨k, hk⟩ := va_pl_get (X := []) (f := M) ha
  exact h.2 k _ hk
theorem mm_V.D {A : Nat → Prop} {D : va_G} {L : List Nat} {M : mm_M} {s : State} {H : Heap} {locs : List Loc} (h : mm_V A D L M s H locs) : va_D A (va_pl L M) := mm_D M h.2.1 h.2.2.1
theorem mm_get_k {L : List Nat} {M : mm_M} {a : Nat} {x : va_E} (ha : a ∈ L) (he : M a = x) : ∃ k : Nat, (va_pl L M)[k]? = some (a, x) := by
  obtain ⟨k, hk⟩ := va_pl_get (X := []) (f := M) ha
  exact ⟨k, by rw [he] at hk; exact hk⟩
section MMR
variable {p : Program} {l : Launch} {e : Env} {R : Room} {s : State} {m : MethodId} {args : Array Value} {below : List Frame} {meth : Method} {c : Code} {H : Heap} {locs : List Loc} {cells slots : Nat} {Q : State → Prop}
variable {cc : ByteArray} {pc : Nat} {ls : Array Slot} {rest : List Value} {D : va_G} {dA : Nat → ClassId} {A : Nat → Prop} {a : Nat} {L : List Nat} {M : mm_M}
theorem mm_set {k : Nat} {x y : va_E} {A : Nat → Prop} (hn : mm_nd L) (hA : ∀ a ∈ L, A a) (ha : a ∈ L) (he : M a = x) (hk : (va_pl L M)[k]? = some (a, x)) : (va_pl L M).set k (a, y) = va_pl L (va_up M a y) := by
  have h := va_pl_set (X := []) (e := y) (mm_D M hn hA) ha (by rw [List.nil_append, he]; exact hk)
  simpa using h
/-- getfield -/
theorem mm_get (hexec : p.tables.exec = Jvm.exec) (hb : c.code = cc) {own ref C : String} {T : u_T} {N ci index : Nat} {Ts : List Cond} (hts : ∀ w ∈ Ts, w.before args s = true) (hin : ∀ w ∈ u_ws C T N, w ∈ Ts) (hown : s.vm.findClass own = some m.cls) (hK : mm_K D dA s) (hV : mm_V A D L M s H locs) {fs : List Value} (ha : a ∈ L) (he : M a = .inr (ci, fs)) (hc : vwCl[ci]? = some (C, T, N)) (k : Nat) (hk : k < N) (hlink : (Cond.fieldLink own index ref (T k).2.1 (T k).2.2.1).before args s = true) (hsame : ∀ x, s.fieldFound? (T k).1 (T k).2.1 (T k).2.2.1 = some x → s.fieldFound? ref (T k).2.1 (T k).2.2.1 = some x) {v : Value} (hv : fs[k]? = some v) (hdg : decode cc pc = .ok (.getfield index, 3))
    (kk : W p l e R s m args below meth c H locs cells slots Q (F0 m (pc + 3) ls (v :: rest))) : W p l e R s m args below meth c H locs cells slots Q (F0 m pc ls (.ref a :: rest)) := by
  obtain ⟨q, hq⟩ := mm_get_k ha he
  exact va_get hexec hb hts hin hown hK.1 hV.1 q hq hc k hk hlink hsame hv hdg kk
/-- putfield -/
theorem mm_put (hexec : p.tables.exec = Jvm.exec) (hb : c.code = cc) {own ref C : String} {T : u_T} {N ci index : Nat} {Ts : List Cond} (hts : ∀ w ∈ Ts, w.before args s = true) (hin : ∀ w ∈ u_ws C T N, w ∈ Ts) (ty0 : Nat → FieldType) (hty : ∀ k, k < N → parseFieldDescriptor (T k).2.2.1 = some (ty0 k)) (hnm : ∀ a, a < N → ∀ b, b < N → a ≠ b → (T a).2.1 ≠ (T b).2.1) (hown : s.vm.findClass own = some m.cls) (hK : mm_K D dA s) (hV : mm_V A D L M s H locs) {fs : List Value} (ha : a ∈ L) (he : M a = .inr (ci, fs)) (hc : vwCl[ci]? = some (C, T, N)) (k : Nat) (hk : k < N) (hlink : (Cond.fieldLink own index ref (T k).2.1 (T k).2.2.1).before args s = true) (hsame : ∀ x, s.fieldFound? (T k).1 (T k).2.1 (T k).2.2.1 = some x → s.fieldFound? ref (T k).2.1 (T k).2.2.1 = some x) (hfin : (T k).2.2.2 = false) {ty : FieldType} {v : Value} (hd : parseFieldDescriptor (T k).2.2.1 = some ty) (hn : narrow ty v = v) (hfit : fits ty v = true) (hl : k < fs.length) {fs' : List Value} (hfs : fs.set k v = fs')
    (hdg : decode cc pc = .ok (.putfield index, 3)) (kk : ∀ (M1 : mm_M) (H1 : Heap) (locs1 : List Loc), M1 = va_up M a (.inr (ci, fs')) → mm_V A D L M1 s H1 locs1 → W p l e R s m args below meth c H1 locs1 cells slots Q (F0 m (pc + 3) ls rest)) : W p l e R s m args below meth c H locs cells slots Q (F0 m pc ls (v :: .ref a :: rest)) := by
  obtain ⟨q, hq⟩ := mm_get_k ha he
  refine va_put hexec hb hts hin ty0 hty hnm hown hK.1 hV.1 hV.D hV.2.2.2.1 q hq hc k hk hlink hsame hfin hd hn hfit hl hdg (fun H1 locs1 h1 _ h3 => kk _ H1 locs1 rfl ?_)
  rw [mm_set hV.2.1 hV.2.2.1 ha he hq, hfs] at h1
  exact ⟨h1, hV.2.1, hV.2.2.1, h3, hV.2.2.2.2⟩
theorem mm_putF (hexec : p.tables.exec = Jvm.exec) (hb : c.code = cc) {own ref C : String} {T : u_T} {N ci index : Nat} {Ts : List Cond} (hts : ∀ w ∈ Ts, w.before args s = true) (hin : ∀ w ∈ u_ws C T N, w ∈ Ts) (ty0 : Nat → FieldType) (hty : ∀ k, k < N → parseFieldDescriptor (T k).2.2.1 = some (ty0 k)) (hnm : ∀ a, a < N → ∀ b, b < N → a ≠ b → (T a).2.1 ≠ (T b).2.1) (hown : s.vm.findClass own = some m.cls) (hK : mm_K D dA s) (hV : mm_V A D L M s H locs) {fs : List Value} (ha : a ∈ L) (he : M a = .inr (ci, fs)) (hc : vwCl[ci]? = some (C, T, N)) (k : Nat) (hk : k < N) (hlink : (Cond.fieldLink own index ref (T k).2.1 (T k).2.2.1).before args s = true) (hsame : ∀ x, s.fieldFound? (T k).1 (T k).2.1 (T k).2.2.1 = some x → s.fieldFound? ref (T k).2.1 (T k).2.2.1 = some x) (hfin : (T k).2.2.2 = true) (hin2 : meth.name = "<init>") (hdecl : (T k).1 = own) {ty : FieldType} {v : Value} (hd : parseFieldDescriptor (T k).2.2.1 = some ty) (hn : narrow ty v = v) (hfit : fits ty v = true) (hl : k < fs.length) {fs' : List Value} (hfs : fs.set k v = fs')
    (hdg : decode cc pc = .ok (.putfield index, 3)) (kk : ∀ (M1 : mm_M) (H1 : Heap) (locs1 : List Loc), M1 = va_up M a (.inr (ci, fs')) → mm_V A D L M1 s H1 locs1 → W p l e R s m args below meth c H1 locs1 cells slots Q (F0 m (pc + 3) ls rest)) : W p l e R s m args below meth c H locs cells slots Q (F0 m pc ls (v :: .ref a :: rest)) := by
  obtain ⟨q, hq⟩ := mm_get_k ha he
  refine va_putF hexec hb hts hin ty0 hty hnm hown hK.1 hV.1 hV.D hV.2.2.2.1 q hq hc k hk hlink hsame hfin hin2 hdecl hd hn hfit hl hdg (fun H1 locs1 h1 _ h3 => kk _ H1 locs1 rfl ?_)
  rw [mm_set hV.2.1 hV.2.2.1 ha he hq, hfs] at h1
  exact ⟨h1, hV.2.1, hV.2.2.1, h3, hV.2.2.2.2⟩
/-- array loads -/
theorem mm_iald (hexec : p.tables.exec = Jvm.exec) (hb : c.code = cc) (hK : mm_K D dA s) (hV : mm_V A D L M s H locs) {n : Nat} {f : Nat → Int32} (ha : a ∈ L) (he : M a = .inl (dA 0, n, .inl f)) {i : Int32} (hin : vp_in i n) (hdg : decode cc pc = .ok (.iaload, 1))
    (kk : W p l e R s m args below meth c H locs cells slots Q (F0 m (pc + 1) ls (.int (f i.toNatClampNeg) :: rest))) : W p l e R s m args below meth c H locs cells slots Q (F0 m pc ls (.int i :: .ref a :: rest)) := by
  obtain ⟨q, hq⟩ := mm_get_k ha he
  exact va_iald hexec hb hK.1 hV.1 q 0 hq rfl hin hdg kk
theorem mm_bald (hexec : p.tables.exec = Jvm.exec) (hb : c.code = cc) (hK : mm_K D dA s) (hV : mm_V A D L M s H locs) {n : Nat} {f : Nat → Int32} (ha : a ∈ L) (he : M a = .inl (dA 1, n, .inl f)) {i : Int32} (hin : vp_in i n) (hdg : decode cc pc = .ok (.baload, 1))
    (kk : W p l e R s m args below meth c H locs cells slots Q (F0 m (pc + 1) ls (.int (f i.toNatClampNeg) :: rest))) : W p l e R s m args below meth c H locs cells slots Q (F0 m pc ls (.int i :: .ref a :: rest)) := by
  obtain ⟨q, hq⟩ := mm_get_k ha he
  exact va_bald hexec hb hK.1 hV.1 q 1 hq rfl hin hdg kk
theorem mm_sald (hexec : p.tables.exec = Jvm.exec) (hb : c.code = cc) (hK : mm_K D dA s) (hV : mm_V A D L M s H locs) {n : Nat} {f : Nat → Int32} (ha : a ∈ L) (he : M a = .inl (dA 2, n, .inl f)) {i : Int32} (hin : vp_in i n) (hdg : decode cc pc = .ok (.saload, 1))
    (kk : W p l e R s m args below meth c H locs cells slots Q (F0 m (pc + 1) ls (.int (f i.toNatClampNeg) :: rest))) : W p l e R s m args below meth c H locs cells slots Q (F0 m pc ls (.int i :: .ref a :: rest)) := by
  obtain ⟨q, hq⟩ := mm_get_k ha he
  exact va_sald hexec hb hK.1 hV.1 q 2 hq rfl hin hdg kk
theorem mm_zald (hexec : p.tables.exec = Jvm.exec) (hb : c.code = cc) (hK : mm_K D dA s) (hV : mm_V A D L M s H locs) {n : Nat} {f : Nat → Int32} (ha : a ∈ L) (he : M a = .inl (dA 3, n, .inl f)) {i : Int32} (hin : vp_in i n) (hdg : decode cc pc = .ok (.baload, 1))
    (kk : W p l e R s m args below meth c H locs cells slots Q (F0 m (pc + 1) ls (.int (f i.toNatClampNeg) :: rest))) : W p l e R s m args below meth c H locs cells slots Q (F0 m pc ls (.int i :: .ref a :: rest)) := by
  obtain ⟨q, hq⟩ := mm_get_k ha he
  exact va_zald hexec hb hK.1 hV.1 q 3 hq rfl hin hdg kk
/-- aaload: t = 4 Position, 5 MoveList -/
theorem mm_aald (hexec : p.tables.exec = Jvm.exec) (hb : c.code = cc) (hK : mm_K D dA s) (hV : mm_V A D L M s H locs) (t : Nat) {C : String} {n : Nat} {f : Nat → Option Nat} (ha : a ∈ L) (he : M a = .inl (dA t, n, .inr (.inr (.inr (.inr f))))) (ht : (mm_tys dA)[t]? = some (dA t, .object C)) {i : Int32} (hin : vp_in i n) {b : Nat} (hb2 : f i.toNatClampNeg = some b) (hdg : decode cc pc = .ok (.aaload, 1))
    (kk : W p l e R s m args below meth c H locs cells slots Q (F0 m (pc + 1) ls (.ref b :: rest))) : W p l e R s m args below meth c H locs cells slots Q (F0 m pc ls (.int i :: .ref a :: rest)) := by
  obtain ⟨q, hq⟩ := mm_get_k ha he
  exact va_aldq hexec hb hK.1 hV.1 q t hq ht hin hdg (by rw [hb2]; exact kk)
/-- array stores -/
theorem mm_iast (hexec : p.tables.exec = Jvm.exec) (hb : c.code = cc) (hK : mm_K D dA s) (hV : mm_V A D L M s H locs) {n : Nat} {f : Nat → Int32} (ha : a ∈ L) (he : M a = .inl (dA 0, n, .inl f)) {i x : Int32} (hin : vp_in i n) (hdg : decode cc pc = .ok (.iastore, 1))
    (kk : ∀ (H1 : Heap) (locs1 : List Loc), mm_V A D L (va_up M a (.inl (dA 0, n, .inl (upd f i.toNatClampNeg x)))) s H1 locs1 → W p l e R s m args below meth c H1 locs1 cells slots Q (F0 m (pc + 1) ls rest)) : W p l e R s m args below meth c H locs cells slots Q (F0 m pc ls (.int x :: .int i :: .ref a :: rest)) := by
  obtain ⟨q, hq⟩ := mm_get_k ha he
  refine va_iast hexec hb hK.1 hV.1 hV.D hV.2.2.2.1 q 0 hq rfl hin hdg (fun H1 locs1 h1 _ h3 => kk H1 locs1 ?_)
  rw [mm_set hV.2.1 hV.2.2.1 ha he hq] at h1
  exact ⟨h1, hV.2.1, hV.2.2.1, h3, hV.2.2.2.2⟩
theorem mm_bast (hexec : p.tables.exec = Jvm.exec) (hb : c.code = cc) (hK : mm_K D dA s) (hV : mm_V A D L M s H locs) {n : Nat} {f : Nat → Int32} (ha : a ∈ L) (he : M a = .inl (dA 1, n, .inl f)) {i x : Int32} (hin : vp_in i n) (hdg : decode cc pc = .ok (.bastore, 1))
    (kk : ∀ (H1 : Heap) (locs1 : List Loc), mm_V A D L (va_up M a (.inl (dA 1, n, .inl (upd f i.toNatClampNeg (vp_nar .byte x))))) s H1 locs1 → W p l e R s m args below meth c H1 locs1 cells slots Q (F0 m (pc + 1) ls rest)) : W p l e R s m args below meth c H locs cells slots Q (F0 m pc ls (.int x :: .int i :: .ref a :: rest)) := by
  obtain ⟨q, hq⟩ := mm_get_k ha he
  refine va_bast hexec hb hK.1 hV.1 hV.D hV.2.2.2.1 q 1 hq rfl hin hdg (fun H1 locs1 h1 _ h3 => kk H1 locs1 ?_)
  rw [mm_set hV.2.1 hV.2.2.1 ha he hq] at h1
  exact ⟨h1, hV.2.1, hV.2.2.1, h3, hV.2.2.2.2⟩
theorem mm_sast (hexec : p.tables.exec = Jvm.exec) (hb : c.code = cc) (hK : mm_K D dA s) (hV : mm_V A D L M s H locs) {n : Nat} {f : Nat → Int32} (ha : a ∈ L) (he : M a = .inl (dA 2, n, .inl f)) {i x : Int32} (hin : vp_in i n) (hdg : decode cc pc = .ok (.sastore, 1))
    (kk : ∀ (H1 : Heap) (locs1 : List Loc), mm_V A D L (va_up M a (.inl (dA 2, n, .inl (upd f i.toNatClampNeg (vp_nar .short x))))) s H1 locs1 → W p l e R s m args below meth c H1 locs1 cells slots Q (F0 m (pc + 1) ls rest)) : W p l e R s m args below meth c H locs cells slots Q (F0 m pc ls (.int x :: .int i :: .ref a :: rest)) := by
  obtain ⟨q, hq⟩ := mm_get_k ha he
  refine va_sast hexec hb hK.1 hV.1 hV.D hV.2.2.2.1 q 2 hq rfl hin hdg (fun H1 locs1 h1 _ h3 => kk H1 locs1 ?_)
  rw [mm_set hV.2.1 hV.2.2.1 ha he hq] at h1
  exact ⟨h1, hV.2.1, hV.2.2.1, h3, hV.2.2.2.2⟩
theorem mm_zast (hexec : p.tables.exec = Jvm.exec) (hb : c.code = cc) (hK : mm_K D dA s) (hV : mm_V A D L M s H locs) {n : Nat} {f : Nat → Int32} (ha : a ∈ L) (he : M a = .inl (dA 3, n, .inl f)) {i x : Int32} (hin : vp_in i n) (hdg : decode cc pc = .ok (.bastore, 1))
    (kk : ∀ (H1 : Heap) (locs1 : List Loc), mm_V A D L (va_up M a (.inl (dA 3, n, .inl (upd f i.toNatClampNeg (vp_nar .boolean x))))) s H1 locs1 → W p l e R s m args below meth c H1 locs1 cells slots Q (F0 m (pc + 1) ls rest)) : W p l e R s m args below meth c H locs cells slots Q (F0 m pc ls (.int x :: .int i :: .ref a :: rest)) := by
  obtain ⟨q, hq⟩ := mm_get_k ha he
  refine va_zast hexec hb hK.1 hV.1 hV.D hV.2.2.2.1 q 3 hq rfl hin hdg (fun H1 locs1 h1 _ h3 => kk H1 locs1 ?_)
  rw [mm_set hV.2.1 hV.2.2.1 ha he hq] at h1
  exact ⟨h1, hV.2.1, hV.2.2.1, h3, hV.2.2.2.2⟩
theorem mm_aast (hexec : p.tables.exec = Jvm.exec) (hb : c.code = cc) (hK : mm_K D dA s) (hV : mm_V A D L M s H locs) (t : Nat) {n ci v : Nat} {r : vw_C} {vs : List Value} {f : Nat → Option Nat} (ha : a ∈ L) (he : M a = .inl (dA t, n, .inr (.inr (.inr (.inr f))))) (ht : (mm_tys dA)[t]? = some (dA t, .object r.1)) (hv : v ∈ L) (hve : M v = .inr (ci, vs)) (hc : vwCl[ci]? = some r) {i : Int32} (hin : vp_in i n) (hdg : decode cc pc = .ok (.aastore, 1))
    (kk : ∀ (H1 : Heap) (locs1 : List Loc), mm_V A D L (va_up M a (.inl (dA t, n, .inr (.inr (.inr (.inr (va_up f i.toNatClampNeg (some v)))))))) s H1 locs1 → W p l e R s m args below meth c H1 locs1 cells slots Q (F0 m (pc + 1) ls rest)) : W p l e R s m args below meth c H locs cells slots Q (F0 m pc ls (.ref v :: .int i :: .ref a :: rest)) := by
  obtain ⟨q, hq⟩ := mm_get_k ha he
  obtain ⟨q2, hq2⟩ := mm_get_k hv hve
  refine va_astq hexec hb hK.1 hV.1 hV.D hV.2.2.2.1 q t q2 ci hq ht hq2 hc hin hdg (fun H1 locs1 h1 _ h3 => kk H1 locs1 ?_)
  rw [mm_set hV.2.1 hV.2.2.1 ha he hq] at h1
  exact ⟨h1, hV.2.1, hV.2.2.1, h3, hV.2.2.2.2⟩
theorem mm_push {x : va_E} {q : Nat} {s : State} {H1 : Heap} {locs : List Loc} (hV : mm_V A D L M s H locs) (h1 : va_P D vwCl (va_pl L M ++ [(q, x)]) H1) (h2 : va_D A (va_pl L M ++ [(q, x)])) (h3 : va_S A s.heap H1 locs) : q ∉ L ∧ mm_V A D (L ++ [q]) (va_up M q x) s H1 locs := by
  have hq : q ∉ L := by
    intro hq
    obtain ⟨k, hk⟩ := va_pl_get (X := []) (f := M) hq
    rw [List.nil_append] at hk
    have hl := (List.getElem?_eq_some_iff.mp hk).1
    have e1 : (va_pl L M ++ [(q, x)])[k]? = some (q, M q) := by rw [List.getElem?_append_left hl]; exact hk
    have e2 : (va_pl L M ++ [(q, x)])[(va_pl L M).length]? = some (q, x) := by simp
    have := h2.1 _ _ _ _ e1 e2 rfl
    omega
  rw [va_pl_push hq] at h1 h2
  exact ⟨hq, h1, mm_D_nodup h2, mm_D_in h2, h3, hV.2.2.2.2⟩
/-- new -/
theorem mm_new (hexec : p.tables.exec = Jvm.exec) (hb : c.code = cc) {own C : String} {T : u_T} {N ci index : Nat} {Ts : List Cond} (hts : ∀ w ∈ Ts, w.before args s = true) (hin : ∀ w ∈ u_ws C T N, w ∈ Ts) (ty : Nat → FieldType) (hty : ∀ k, k < N → parseFieldDescriptor (T k).2.2.1 = some (ty k)) (hown : s.vm.findClass own = some m.cls) (hcl : (Cond.classLink own index C).before args s = true) (hinst : (Cond.instantiable C N).before args s = true) (hini : (Cond.initialized C).before args s = true)
    (hK : mm_K D dA s) (hV : mm_V A D L M s H locs) (hc : vwCl[ci]? = some (C, T, N)) {fs : List Value} (hfs : ∀ j, j < N → defaultValue (ty j) = vp_V fs j) (hcells : cells + 1 ≤ R.cells) (hslots : slots + N ≤ R.slots) (hdg : decode cc pc = .ok (.new index, 3))
    (kk : ∀ (q : Nat) (H1 : Heap), q ∉ L → mm_V A D (L ++ [q]) (va_up M q (.inr (ci, fs))) s H1 locs →
      W p l e R s m args below meth c H1 locs (cells + 1) (slots + N) Q (F0 m (pc + 3) ls (.ref q :: rest))) : W p l e R s m args below meth c H locs cells slots Q (F0 m pc ls rest) := by
  refine va_new hexec hb hts hin ty hty hown hcl hinst hini hK.1 hV.1 hV.D hV.2.2.2.1 hV.2.2.2.2 hc hfs hcells hslots hdg (fun q H1 h1 h2 h3 => ?_)
  obtain ⟨g1, g2⟩ := mm_push hV h1 h2 h3
  exact kk q H1 g1 g2
end MMR
theorem mm_lastK {D : va_G} {cl : List vw_C} {tys : List (ClassId × FieldType)} {cA : ClassId} {ty : FieldType} {s : State} (h : va_K D cl (tys ++ [(cA, ty)]) s) : va_RA s cA ty := (h.2 tys.length (cA, ty) (by simp)).2
theorem mm_newcls {D : va_G} {dA : Nat → ClassId} {s : State} (hK : mm_K D dA s) (t : Nat) {cA : ClassId} {ty : FieldType} (ht : (mm_tys dA)[t]? = some (dA t, ty)) (hp : ∀ c, va_RA s c ty → s.vm.findClass ("[" ++ ty.toString) = some c) (h : va_K D vwCl (mm_tys dA ++ [(cA, ty)]) s) : cA = dA t := by
  have h1 := hp _ (mm_lastK h)
  have h2 := hp _ (hK.1.2 t _ ht).2
  exact Option.some.inj (h1.symm.trans h2)
section MMR2
variable {p : Program} {l : Launch} {e : Env} {R : Room} {s : State} {m : MethodId} {args : Array Value} {below : List Frame} {meth : Method} {c : Code} {H : Heap} {locs : List Loc} {cells slots : Nat} {Q : State → Prop}
variable {cc : ByteArray} {pc : Nat} {ls : Array Slot} {rest : List Value} {D : va_G} {dA : Nat → ClassId} {A : Nat → Prop} {a : Nat} {L : List Nat} {M : mm_M}
/-- newarray of numbers: t = 0 int, 1 byte, 2 short, 3 boolean -/
theorem mm_newa (hexec : p.tables.exec = Jvm.exec) (hb : c.code = cc) {atype : ArrayType} (harr : (Cond.arrayClass (newarray.typeOf atype)).before args s = true) {ty : FieldType} (hty : newarray.typeOf atype = ty) (t : Nat) (ht : (mm_tys dA)[t]? = some (dA t, ty)) (hp : ∀ c, va_RA s c ty → s.vm.findClass ("[" ++ ty.toString) = some c) (hd : defaultValue ty = .int 0) (hK : mm_K D dA s) (hV : mm_V A D L M s H locs)
    {n : Int32} {N' : Nat} (hn : ¬ n < 0) (hN : n.toNatClampNeg = N') (hbytes : N' * componentBytes ty ≤ 536870912) (hcells : cells + 1 ≤ R.cells) (hslots : slots + N' ≤ R.slots) (hdg : decode cc pc = .ok (.newarray atype, 2))
    (kk : ∀ (q : Nat) (H1 : Heap), q ∉ L → mm_V A D (L ++ [q]) (va_up M q (.inl (dA t, N', .inl (fun _ => 0)))) s H1 locs →
      W p l e R s m args below meth c H1 locs (cells + 1) (slots + N') Q (F0 m (pc + 2) ls (.ref q :: rest))) : W p l e R s m args below meth c H locs cells slots Q (F0 m pc ls (.int n :: rest)) := by
  refine va_newa (a0 := (N', .inl (fun _ => 0))) hexec hb harr hty hK.1 hV.1 hV.D hV.2.2.2.1 hV.2.2.2.2 (fun cA => by rw [hd]; rfl) hn hN hbytes hcells hslots hdg (fun q cA H1 hk h1 h2 h3 => ?_)
  have hc := mm_newcls hK t ht hp hk
  subst hc
  obtain ⟨g1, g2⟩ := mm_push hV h1 h2 h3
  exact kk q H1 g1 g2
/-- anewarray: t = 4 Position, 5 MoveList -/
theorem mm_newq (hexec : p.tables.exec = Jvm.exec) (hb : c.code = cc) {own C : String} {index : Nat} (hown : s.vm.findClass own = some m.cls) (hclink : (Cond.classLink own index C).before args s = true) (hover : va_AO C s) (t : Nat) (ht : (mm_tys dA)[t]? = some (dA t, .object C)) (hK : mm_K D dA s) (hV : mm_V A D L M s H locs)
    {n : Int32} {N' : Nat} (hn : ¬ n < 0) (hN : n.toNatClampNeg = N') (hbytes : N' * 4 ≤ 536870912) (hcells : cells + 1 ≤ R.cells) (hslots : slots + N' ≤ R.slots) (hdg : decode cc pc = .ok (.anewarray index, 3))
    (kk : ∀ (q : Nat) (H1 : Heap), q ∉ L → mm_V A D (L ++ [q]) (va_up M q (.inl (dA t, N', .inr (.inr (.inr (.inr (fun _ => none))))))) s H1 locs →
      W p l e R s m args below meth c H1 locs (cells + 1) (slots + N') Q (F0 m (pc + 3) ls (.ref q :: rest))) : W p l e R s m args below meth c H locs cells slots Q (F0 m pc ls (.int n :: rest)) := by
  refine va_newq hexec hb hown hclink hover hK.1 hV.1 hV.D hV.2.2.2.1 hV.2.2.2.2 hn hN hbytes hcells hslots hdg (fun q cA H1 hk h1 h2 h3 => ?_)
  have hc := mm_newcls hK t ht (fun c h => by obtain ⟨_, _, _, _, _, h4⟩ := h; exact h4) hk
  subst hc
  obtain ⟨g1, g2⟩ := mm_push hV h1 h2 h3
  exact kk q H1 g1 g2
end MMR2
theorem mm_neq {M : mm_M} {a b : Nat} {x y : va_E} (ha : M a = x) (hb : M b = y) (h : x ≠ y) : a ≠ b := fun e => h (by rw [← ha, ← hb, e])
section MMN
variable {p : Program} {l : Launch} {e : Env} {R : Room} {s : State} {m : MethodId} {args : Array Value} {below : List Frame} {meth : Method} {c : Code} {H : Heap} {locs : List Loc} {cells slots : Nat} {Q : State → Prop}
variable {cc : ByteArray} {pc : Nat} {ls : Array Slot} {rest : List Value} {D : va_G} {dA : Nat → ClassId} {A : Nat → Prop} {a : Nat} {L : List Nat} {M : mm_M}
/-- the same, with indices that are naturals -/
theorem mm_ialdN (hexec : p.tables.exec = Jvm.exec) (hb : c.code = cc) (hK : mm_K D dA s) (hV : mm_V A D L M s H locs) {n : Nat} {f : Nat → Int32} (ha : a ∈ L) (he : M a = .inl (dA 0, n, .inl f)) {i : Int32} {j : Nat} (hi : i = nI j) (hj : j < n) (hn : n < 2 ^ 31) (hdg : decode cc pc = .ok (.iaload, 1))
    (kk : W p l e R s m args below meth c H locs cells slots Q (F0 m (pc + 1) ls (.int (f j) :: rest))) : W p l e R s m args below meth c H locs cells slots Q (F0 m pc ls (.int i :: .ref a :: rest)) := by
  subst hi
  refine mm_iald hexec hb hK hV ha he (vp_in_nI hj hn) hdg ?_
  rw [nI_clamp (by omega)]
  exact kk
theorem mm_baldN (hexec : p.tables.exec = Jvm.exec) (hb : c.code = cc) (hK : mm_K D dA s) (hV : mm_V A D L M s H locs) {n : Nat} {f : Nat → Int32} (ha : a ∈ L) (he : M a = .inl (dA 1, n, .inl f)) {i : Int32} {j : Nat} (hi : i = nI j) (hj : j < n) (hn : n < 2 ^ 31) (hdg : decode cc pc = .ok (.baload, 1))
    (kk : W p l e R s m args below meth c H locs cells slots Q (F0 m (pc + 1) ls (.int (f j) :: rest))) : W p l e R s m args below meth c H locs cells slots Q (F0 m pc ls (.int i :: .ref a :: rest)) := by
  subst hi
  refine mm_bald hexec hb hK hV ha he (vp_in_nI hj hn) hdg ?_
  rw [nI_clamp (by omega)]
  exact kk
theorem mm_saldN (hexec : p.tables.exec = Jvm.exec) (hb : c.code = cc) (hK : mm_K D dA s) (hV : mm_V A D L M s H locs) {n : Nat} {f : Nat → Int32} (ha : a ∈ L) (he : M a = .inl (dA 2, n, .inl f)) {i : Int32} {j : Nat} (hi : i = nI j) (hj : j < n) (hn : n < 2 ^ 31) (hdg : decode cc pc = .ok (.saload, 1))
    (kk : W p l e R s m args below meth c H locs cells slots Q (F0 m (pc + 1) ls (.int (f j) :: rest))) : W p l e R s m args below meth c H locs cells slots Q (F0 m pc ls (.int i :: .ref a :: rest)) := by
  subst hi
  refine mm_sald hexec hb hK hV ha he (vp_in_nI hj hn) hdg ?_
  rw [nI_clamp (by omega)]
  exact kk
theorem mm_zaldN (hexec : p.tables.exec = Jvm.exec) (hb : c.code = cc) (hK : mm_K D dA s) (hV : mm_V A D L M s H locs) {n : Nat} {f : Nat → Int32} (ha : a ∈ L) (he : M a = .inl (dA 3, n, .inl f)) {i : Int32} {j : Nat} (hi : i = nI j) (hj : j < n) (hn : n < 2 ^ 31) (hdg : decode cc pc = .ok (.baload, 1))
    (kk : W p l e R s m args below meth c H locs cells slots Q (F0 m (pc + 1) ls (.int (f j) :: rest))) : W p l e R s m args below meth c H locs cells slots Q (F0 m pc ls (.int i :: .ref a :: rest)) := by
  subst hi
  refine mm_zald hexec hb hK hV ha he (vp_in_nI hj hn) hdg ?_
  rw [nI_clamp (by omega)]
  exact kk
theorem mm_aaldN (hexec : p.tables.exec = Jvm.exec) (hb : c.code = cc) (hK : mm_K D dA s) (hV : mm_V A D L M s H locs) (t : Nat) {C : String} {n : Nat} {f : Nat → Option Nat} (ha : a ∈ L) (he : M a = .inl (dA t, n, .inr (.inr (.inr (.inr f))))) (ht : (mm_tys dA)[t]? = some (dA t, .object C)) {i : Int32} {j : Nat} (hi : i = nI j) (hj : j < n) (hn : n < 2 ^ 31) {b : Nat} (hb2 : f j = some b) (hdg : decode cc pc = .ok (.aaload, 1))
    (kk : W p l e R s m args below meth c H locs cells slots Q (F0 m (pc + 1) ls (.ref b :: rest))) : W p l e R s m args below meth c H locs cells slots Q (F0 m pc ls (.int i :: .ref a :: rest)) := by
  subst hi
  exact mm_aald hexec hb hK hV t ha he ht (vp_in_nI hj hn) (by rw [nI_clamp (by omega)]; exact hb2) hdg kk
theorem mm_iastN (hexec : p.tables.exec = Jvm.exec) (hb : c.code = cc) (hK : mm_K D dA s) (hV : mm_V A D L M s H locs) {n : Nat} {f : Nat → Int32} (ha : a ∈ L) (he : M a = .inl (dA 0, n, .inl f)) {i x : Int32} {j : Nat} (hi : i = nI j) (hj : j < n) (hn : n < 2 ^ 31) (hdg : decode cc pc = .ok (.iastore, 1))
    (kk : ∀ (M1 : mm_M) (H1 : Heap) (locs1 : List Loc), M1 = va_up M a (.inl (dA 0, n, .inl (upd f j x))) → mm_V A D L M1 s H1 locs1 → W p l e R s m args below meth c H1 locs1 cells slots Q (F0 m (pc + 1) ls rest)) : W p l e R s m args below meth c H locs cells slots Q (F0 m pc ls (.int x :: .int i :: .ref a :: rest)) := by
  subst hi
  refine mm_iast hexec hb hK hV ha he (vp_in_nI hj hn) hdg (fun H1 locs1 h => kk _ H1 locs1 rfl ?_)
  rw [nI_clamp (by omega)] at h
  exact h
theorem mm_bastN (hexec : p.tables.exec = Jvm.exec) (hb : c.code = cc) (hK : mm_K D dA s) (hV : mm_V A D L M s H locs) {n : Nat} {f : Nat → Int32} (ha : a ∈ L) (he : M a = .inl (dA 1, n, .inl f)) {i x : Int32} {j : Nat} (hi : i = nI j) (hj : j < n) (hn : n < 2 ^ 31) (hdg : decode cc pc = .ok (.bastore, 1))
    (kk : ∀ (M1 : mm_M) (H1 : Heap) (locs1 : List Loc), M1 = va_up M a (.inl (dA 1, n, .inl (upd f j (vp_nar .byte x)))) → mm_V A D L M1 s H1 locs1 → W p l e R s m args below meth c H1 locs1 cells slots Q (F0 m (pc + 1) ls rest)) : W p l e R s m args below meth c H locs cells slots Q (F0 m pc ls (.int x :: .int i :: .ref a :: rest)) := by
  subst hi
  refine mm_bast hexec hb hK hV ha he (vp_in_nI hj hn) hdg (fun H1 locs1 h => kk _ H1 locs1 rfl ?_)
  rw [nI_clamp (by omega)] at h
  exact h
theorem mm_sastN (hexec : p.tables.exec = Jvm.exec) (hb : c.code = cc) (hK : mm_K D dA s) (hV : mm_V A D L M s H locs) {n : Nat} {f : Nat → Int32} (ha : a ∈ L) (he : M a = .inl (dA 2, n, .inl f)) {i x : Int32} {j : Nat} (hi : i = nI j) (hj : j < n) (hn : n < 2 ^ 31) (hdg : decode cc pc = .ok (.sastore, 1))
    (kk : ∀ (M1 : mm_M) (H1 : Heap) (locs1 : List Loc), M1 = va_up M a (.inl (dA 2, n, .inl (upd f j (vp_nar .short x)))) → mm_V A D L M1 s H1 locs1 → W p l e R s m args below meth c H1 locs1 cells slots Q (F0 m (pc + 1) ls rest)) : W p l e R s m args below meth c H locs cells slots Q (F0 m pc ls (.int x :: .int i :: .ref a :: rest)) := by
  subst hi
  refine mm_sast hexec hb hK hV ha he (vp_in_nI hj hn) hdg (fun H1 locs1 h => kk _ H1 locs1 rfl ?_)
  rw [nI_clamp (by omega)] at h
  exact h
theorem mm_zastN (hexec : p.tables.exec = Jvm.exec) (hb : c.code = cc) (hK : mm_K D dA s) (hV : mm_V A D L M s H locs) {n : Nat} {f : Nat → Int32} (ha : a ∈ L) (he : M a = .inl (dA 3, n, .inl f)) {i x : Int32} {j : Nat} (hi : i = nI j) (hj : j < n) (hn : n < 2 ^ 31) (hdg : decode cc pc = .ok (.bastore, 1))
    (kk : ∀ (M1 : mm_M) (H1 : Heap) (locs1 : List Loc), M1 = va_up M a (.inl (dA 3, n, .inl (upd f j (vp_nar .boolean x)))) → mm_V A D L M1 s H1 locs1 → W p l e R s m args below meth c H1 locs1 cells slots Q (F0 m (pc + 1) ls rest)) : W p l e R s m args below meth c H locs cells slots Q (F0 m pc ls (.int x :: .int i :: .ref a :: rest)) := by
  subst hi
  refine mm_zast hexec hb hK hV ha he (vp_in_nI hj hn) hdg (fun H1 locs1 h => kk _ H1 locs1 rfl ?_)
  rw [nI_clamp (by omega)] at h
  exact h
theorem mm_aastN (hexec : p.tables.exec = Jvm.exec) (hb : c.code = cc) (hK : mm_K D dA s) (hV : mm_V A D L M s H locs) (t : Nat) {n ci v : Nat} {r : vw_C} {vs : List Value} {f : Nat → Option Nat} (ha : a ∈ L) (he : M a = .inl (dA t, n, .inr (.inr (.inr (.inr f))))) (ht : (mm_tys dA)[t]? = some (dA t, .object r.1)) (hv : v ∈ L) (hve : M v = .inr (ci, vs)) (hc : vwCl[ci]? = some r) {i : Int32} {j : Nat} (hi : i = nI j) (hj : j < n) (hn : n < 2 ^ 31) (hdg : decode cc pc = .ok (.aastore, 1))
    (kk : ∀ (M1 : mm_M) (H1 : Heap) (locs1 : List Loc), M1 = va_up M a (.inl (dA t, n, .inr (.inr (.inr (.inr (va_up f j (some v))))))) → mm_V A D L M1 s H1 locs1 → W p l e R s m args below meth c H1 locs1 cells slots Q (F0 m (pc + 1) ls rest)) : W p l e R s m args below meth c H locs cells slots Q (F0 m pc ls (.ref v :: .int i :: .ref a :: rest)) := by
  subst hi
  refine mm_aast hexec hb hK hV t ha he ht hv hve hc (vp_in_nI hj hn) hdg (fun H1 locs1 h => kk _ H1 locs1 rfl ?_)
  rw [nI_clamp (by omega)] at h
  exact h
end MMN
