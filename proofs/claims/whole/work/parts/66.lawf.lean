/-! the law: what stays fixed in its loop -/
def LF (p : Program) (s : State) (m : MethodId) (c : Code) (b Ln : Nat) (xs : Nat → Int32) (D : va_G) (dA : Nat → ClassId) (KT : Nat → Int32) (z : Nat → Nat) (ob : Nat) (ad : Nat → Nat) : Prop := p.tables.exec = Jvm.exec ∧ c.code = code ∧ c.maxLocals = 4 ∧ s.vm.findClass RL = some m.cls ∧ (∀ w ∈ wsL_law, w.before #[Value.ref b] s = true) ∧ va_X b Ln xs s s.heap ∧ b < s.heap.size ∧ Ln ≤ 1536 ∧ mm_K D dA s ∧ slvR (FTi 2592) 10 1 (K0i 2592) = some KT ∧ (∀ e, e < 2592 → KT e = kl (kg e)) ∧ (∀ i, i < 126 → z i ≠ ob) ∧ ∀ i, i < 126 → ∀ k, rak k = true → z i ≠ ad k
theorem lf_room (eb : Bool) : 144 + kc false eb ≤ room_1.cells ∧ 16918 + ks false eb ≤ room_1.slots := by
  cases eb <;> exact ⟨Nat.le_of_ble_eq_true rfl, Nat.le_of_ble_eq_true rfl⟩
theorem lf_more {eb eb1 : Bool} (h : eb = true → eb1 = true) : 144 + kc false eb + kc eb eb1 = 144 + kc false eb1 ∧ 16918 + ks false eb + ks eb eb1 = 16918 + ks false eb1 := by
  have := kc_tr (a := false) (b := eb) (c := eb1) (fun c => by cases c) h
  constructor
  · rw [Nat.add_assoc, this.1]
  · rw [Nat.add_assoc, this.2]
theorem lf_roomM {eb eb1 : Bool} (h : eb = true → eb1 = true) : 144 + kc false eb + kc eb eb1 ≤ room_1.cells ∧ 16918 + ks false eb + ks eb eb1 ≤ room_1.slots := by
  rw [(lf_more h).1, (lf_more h).2]; exact lf_room eb1
theorem mm_sldN {p : Program} {l : Launch} {e : Env} {R : Room} {s : State} {m : MethodId} {args : Array Value} {below : List Frame} {meth : Method} {c : Code} {H : Heap} {locs : List Loc} {cells slots : Nat} {Q : State → Prop} {cc : ByteArray} {pc : Nat} {ls : Array Slot} {rest : List Value} {D : va_G} {L : List Nat} {M : mm_M} (hexec : p.tables.exec = Jvm.exec) (hb : c.code = cc) {b Ln : Nat} {xs : Nat → Int32} (hX : va_X b Ln xs s s.heap) (hbl : b < s.heap.size) (hLn : Ln ≤ 1536) (hV : mm_V (fun q : Nat => s.heap.size ≤ q) D L M s H locs) {i : Int32} {j : Nat} (hi : i = nI j) (hj : j < Ln) (hdg : decode cc pc = .ok (.iaload, 1))
    (kk : W p l e R s m args below meth c H locs cells slots Q (F0 m (pc + 1) ls (.int (xs j) :: rest))) : W p l e R s m args below meth c H locs cells slots Q (F0 m pc ls (.int i :: .ref b :: rest)) := by
  refine va_sld hexec hb hX hbl (A := fun q : Nat => s.heap.size ≤ q) (Nat.not_le.mpr hbl) hV.2.2.2.1 ?_ hdg ?_
  · rw [hi]; exact vp_in_nI hj (by omega)
  · rw [hi, nI_clamp (by omega)]; exact kk
theorem ix1 {x : Int32} {i : Nat} (h : x = nI i) : x + 1 = nI (i + 1) := by rw [h]; exact nI_1 i
theorem ix2 {x : Int32} {i : Nat} (h : x = nI i) : x + 2 = nI (i + 2) := by rw [h, show (2 : Int32) = nI 2 from rfl, nI_add]
/-! what one side's call leaves of the other's cells -/
def FZ (L : List Nat) (z : Nat → Nat) (M M1 : mm_M) : Prop := ∀ q, q ∈ L → (∀ k, k < 126 → q ≠ z k) → M1 q = M q
theorem RI.keepZ {dA : Nat → ClassId} {KT : Nat → Int32} {L L1 : List Nat} {M M1 : mm_M} {z : Nat → Nat} {ob : Nat} {ad : Nat → Nat} {S : Nat → Nat → Int32} {so : Int32} {lt : Nat} {ln : Nat → Ps} (d1 : ∀ i, i < 126 → z i ≠ ob) (d2 : ∀ i, i < 126 → ∀ k, rak k = true → z i ≠ ad k) (h : RI dA KT L M ob ad S so lt ln) (hF : FZ L z M M1) (hL : ∀ q, q ∈ L → q ∈ L1) : RI dA KT L1 M1 ob ad S so lt ln :=
  h.keep (hF ob h.1 (fun k hk e => d1 k hk e.symm)) (fun j hj => hF (ad j) (h.2.2.1.1 j hj).1 (fun k hk e => d2 k hk j hj e.symm)) hL
theorem rl_len {k : Nat} (h : rak k = true) : rlK k ≠ 1297 ∧ rlK k ≠ 1296 ∧ rlK k ≠ 5184 := by
  rcases rak_c h with e | e | e | e | e | e | e | e | e | e | e | e | e | e | e | e | e <;> subst e <;> decide
theorem CI.keepR {dA : Nat → ClassId} {KT : Nat → Int32} {L : List Nat} {M M1 : mm_M} {z : Nat → Nat} {ev : Value} {lt lt2 : Nat} {ln ln2 : Nat → Ps} {eb : Bool} {ob : Nat} {ad : Nat → Nat} {S : Nat → Nat → Int32} {so : Int32} (hlt : lt ≤ 100) (d1 : ∀ i, i < 126 → z i ≠ ob) (d2 : ∀ i, i < 126 → ∀ k, rak k = true → z i ≠ ad k) (h : CI dA L M z ev lt ln eb) (hR : RI dA KT L M ob ad S so lt2 ln2) (hF : rF L ad ob M M1) : CI dA L M1 z ev lt ln eb := by
  refine h.keep hlt (fun k hk => hF (z k) (fun j hj => d2 k hk j hj) (d1 k hk)) (fun q hq he => hF q (fun j hj e => ?_) (fun e => ?_)) (fun _ h => h)
  · rw [e, (hR.2.2.1.1 j hj).2] at he
    have := rl_len hj
    exact eK_a this.1 this.2.1 this.2.2 he
  · rw [e, hR.2.1] at he
    exact eK_o (by decide) he
theorem FZ.up {L : List Nat} {z : Nat → Nat} {M M1 M2 : mm_M} {k : Nat} {x : va_E} (h : FZ L z M M1) (hk : k < 126) (e : M2 = va_up M1 (z k) x) : FZ L z M M2 := fun q hq hz => by rw [e, va_up_ne _ _ (hz k hk)]; exact h q hq hz
theorem FZ.rf {L : List Nat} {z : Nat → Nat} {M : mm_M} : FZ L z M M := fun _ _ _ => rfl
theorem wfR.Z {L : List Nat} {z : Nat → Nat} {M M1 : mm_M} (h : wfR L z 126 M M1) : FZ L z M M1 := fun q hq hz => h q hq (hz 0 (by omega)) (fun k _ hk => hz k hk)
theorem wfB.Z {L : List Nat} {z : Nat → Nat} {M M1 : mm_M} (h : wfB L z M M1) : FZ L z M M1 := fun q hq hz => h q hq (fun k _ hk => hz k hk)
theorem CI.b0 {dA : Nat → ClassId} {L : List Nat} {M M1 : mm_M} {z : Nat → Nat} {ev : Value} {lt : Nat} {ln : Nat → Ps} {eb : Bool} {P : Ps} (h : CI dA L M z ev lt ln eb) (e : M1 = va_up (va_up M (z 0) (jO z ev 0)) (z 10) (oP P)) : CI dA L M1 z ev 0 (fun _ => P) eb ∧ FZ L z M M1 := by
  have hz := h.1
  refine ⟨h.pos (t := 0) (P := P) (by omega) ?_ ?_ (fun q h0 h1 => ?_) (fun i hi => by omega) rfl, (FZ.rf.up (k := 0) (by omega) rfl).up (k := 10) (by omega) e⟩
  · rw [e, va_up_ne _ _ (hz.ne (by omega) (by omega) (by omega)), va_up_self]
  · rw [e]; exact va_up_self _ _ _
  · rw [e, va_up_ne _ _ h1, va_up_ne _ _ h0]
theorem CI.b1 {dA : Nat → ClassId} {L : List Nat} {M M1 : mm_M} {z : Nat → Nat} {ev : Value} {lt : Nat} {ln : Nat → Ps} {eb : Bool} {P : Ps} (h : CI dA L M z ev lt ln eb) (e : M1 = va_up (va_up M (z 10) (oP P)) (z 0) (jO z ev 0)) : CI dA L M1 z ev 0 (fun _ => P) eb ∧ FZ L z M M1 := by
  have hz := h.1
  refine ⟨h.pos (t := 0) (P := P) (by omega) ?_ ?_ (fun q h0 h1 => ?_) (fun i hi => by omega) rfl, (FZ.rf.up (k := 10) (by omega) rfl).up (k := 0) (by omega) e⟩
  · rw [e]; exact va_up_self _ _ _
  · rw [e, va_up_ne _ _ (hz.ne (by omega) (by omega) (by omega))]; exact va_up_self _ _ _
  · rw [e, va_up_ne _ _ h0, va_up_ne _ _ h1]
theorem CI.ls {dA : Nat → ClassId} {L : List Nat} {M M1 : mm_M} {z : Nat → Nat} {ev : Value} {lt : Nat} {ln : Nat → Ps} {eb : Bool} {P : Ps} {f0 : Nat → Int32} (hlt : lt ≤ 100) (h : CI dA L M z ev lt ln eb) (e : M1 = mvM dA M z P f0) : CI dA L M1 z ev lt ln eb ∧ FZ L z M M1 := by
  unfold mvM at e
  refine ⟨by rw [e]; exact h.list hlt (by rw [mvN_eq]; exact mvN_le P), (FZ.rf.up (k := 5) (by omega) rfl).up (k := 6) (by omega) e⟩
theorem CI.psh {dA : Nat → ClassId} {L : List Nat} {M M1 : mm_M} {z : Nat → Nat} {ev : Value} {lt : Nat} {ln : Nat → Ps} {eb : Bool} {P Q : Ps} {f0 : Nat → Int32} (hlt : lt < 100) (h : CI dA L M z ev lt ln eb) (e : M1 = va_up (va_up (mvM dA M z P f0) (z (10 + (lt + 1))) (oP Q)) (z 0) (jO z ev (lt + 1))) : CI dA L M1 z ev (lt + 1) (lnP ln (lt + 1) Q) eb ∧ FZ L z M M1 := by
  have h2 := h.ls (by omega) (M1 := mvM dA M z P f0) (P := P) (f0 := f0) rfl
  have hz := h.1
  refine ⟨h2.1.pos (t := lt + 1) (P := Q) (by omega) ?_ ?_ (fun q h0 h1 => ?_) (fun i hi => ⟨by omega, by unfold lnP; rw [if_neg (by omega)]⟩) (by unfold lnP; rw [if_pos rfl]), (h2.2.up (k := 10 + (lt + 1)) (by omega) rfl).up (k := 0) (by omega) e⟩
  · rw [e]; exact va_up_self _ _ _
  · rw [e, va_up_ne _ _ (hz.ne (by omega) (by omega) (by omega))]; exact va_up_self _ _ _
  · rw [e, va_up_ne _ _ h0, va_up_ne _ _ h1]
