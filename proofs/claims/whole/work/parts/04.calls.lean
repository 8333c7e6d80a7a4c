theorem mm_K.same {D : va_G} {dA : Nat → ClassId} {s U : State} (h : s.vm = U.vm) (hK : mm_K D dA s) : mm_K D dA U :=
  ⟨va_K.moved (h ▸ Vm.Alike.refl s.vm) hK.1, va_Nw.same rfl h hK.2.1, va_Nw.same rfl h hK.2.2.1, va_Nw.same rfl h hK.2.2.2.1, va_Nw.same rfl h hK.2.2.2.2.1, va_AO.moved (h ▸ Vm.Alike.refl s.vm) hK.2.2.2.2.2.1, va_AO.moved (h ▸ Vm.Alike.refl s.vm) hK.2.2.2.2.2.2⟩
theorem mm_blind {D : va_G} {dA : Nat → ClassId} {L : List Nat} {M : mm_M} {sz : Nat} {av : List Value} : FrameBlind (va_Pc av (mm_B D dA L M sz)) := by
  intro a U g mk q
  obtain ⟨q0, q1, qP, qN, qK⟩ := q
  exact ⟨q0, q1, qP, qN, mm_K.same (s := U) (U := U.calling g mk a) rfl qK⟩
theorem mm_start {D : va_G} {dA : Nat → ClassId} {A : Nat → Prop} {L : List Nat} {M : mm_M} {s : State} {H : Heap} {locs : List Loc} {av : List Value} (hK : mm_K D dA s) (hV : mm_V A D L M s H locs) : ∀ U : State, U.heap = H → s.WarmedH U.vm → va_Pc av (mm_B D dA L M H.size) av.toArray U := by
  intro U hU hW
  exact ⟨rfl, by rw [hU], by rw [hU]; exact hV.1, hV.2.1, mm_K.warm hW hK⟩
theorem mm_A0 {D : va_G} {A : Nat → Prop} {L : List Nat} {M : mm_M} {s : State} {H : Heap} {locs : List Loc} (hV : mm_V A D L M s H locs) : ∀ q, mm_A L H.size q → A q := by
  intro q h
  rcases h with h | h
  · exact hV.2.2.1 q h
  · exact hV.2.2.2.2 q (Nat.le_trans hV.2.2.2.1.1 h)
theorem mm_after {D : va_G} {A : Nat → Prop} {L : List Nat} {M : mm_M} {s t : State} {H H1 : Heap} {locs locs1 : List Loc} {u : List Nat × mm_M} (hV : mm_V A D L M s H locs) (ht : t.heap = H1) (hB : mm_Eb D (mm_A L H.size) u t) (hS : va_S A s.heap H1 locs1) : mm_V A D u.1 u.2 s H1 locs1 :=
  ⟨by rw [← ht]; exact hB.1, hB.2.1, fun a ha => mm_A0 hV a (hB.2.2 a ha), hS, hV.2.2.2.2⟩
theorem mm_lev {k2 k mc ms mc2 ms2 maxL : Nat} (h : k2 < k) (hm : maxL ≤ 21) : (mm_rm k2 mc2 ms2).frames + 1 ≤ (mm_rm k mc ms).frames ∧ 8 + (maxL + 11) + (mm_rm k2 mc2 ms2).locals ≤ (mm_rm k mc ms).locals := by
  simp only [mm_rm]; omega
theorem mm_levL {k2 mc2 ms2 maxL : Nat} (h : k2 < 2000) (hm : maxL ≤ 21) : (mm_rm k2 mc2 ms2).frames + 1 ≤ room_1.frames ∧ 8 + (maxL + 11) + (mm_rm k2 mc2 ms2).locals ≤ room_1.locals := by
  simp only [mm_rm, room_1]; omega
section MMC
variable {p : Program} {l : Launch} {e : Env} {R : Room} {s : State} {m : MethodId} {args : Array Value} {below : List Frame} {meth : Method} {c : Code} {H : Heap} {locs : List Loc} {cells slots : Nat} {Q : State → Prop}
variable {cc : ByteArray} {pc : Nat} {ls : Array Slot} {rest st : List Value} {D : va_G} {dA : Nat → ClassId} {A : Nat → Prop} {L : List Nat} {M : mm_M}
variable {y : MethodName} {bytes : ByteArray} {maxL nL k2 mc ms n index : Nat} {ret : Option FieldType} {ws : List Cond} {Ts : List Cond} {own C : String} {b : Addr} {As : List Value}
theorem mm_recv {ci : Nat} {fs : List Value} {T : u_T} {N : Nat} (hK : mm_K D dA s) (hV : mm_V A D L M s H locs) (hbL : b ∈ L) (hbe : M b = .inr (ci, fs)) (hc : vwCl[ci]? = some (C, T, N)) : ∃ cell : Cell, H[b]? = some cell ∧ cell.vm.isStatics = false ∧ s.vm.findClass C = some cell.cls := by
  obtain ⟨q, hq⟩ := mm_get_k hbL hbe
  exact va_recv hK.1 hV.1 hc hq
theorem mm_Vi {post : Int32 → List Nat → mm_M → Prop} {ci : Nat} {fs : List Value} {T : u_T} {N : Nat} (S : CallFix p m c cc nL s args Ts own) (hK : mm_K D dA s) (hV : mm_V A D L M s H locs) (hM : mm_Ci l D dA y ws k2 mc ms (.ref b :: As) L M post) (cw : CallW R s args own C index y bytes maxL ret ws (mm_rm k2 mc ms) mc ms n) (hbL : b ∈ L) (hbe : M b = .inr (ci, fs)) (hc : vwCl[ci]? = some (C, T, N)) (hn : As.length = n) (hsz : ls.size = nL) (hst : st = As.reverse ++ .ref b :: rest) (hW : (rest.map fun v => v.category).sum ≤ 8) (hdg : decode cc pc = .ok (.invokevirtual index, 3)) (hf : cells + mc ≤ R.cells ∧ slots + ms ≤ R.slots)
    (kk : ∀ (r : Int32) (L1 : List Nat) (M1 : mm_M) (H1 : Heap) (locs1 : List Loc), post r L1 M1 → mm_V A D L1 M1 s H1 locs1 → W p l e R s m args below meth c H1 locs1 (cells + mc) (slots + ms) Q (F0 m (pc + 3) ls (.int r :: rest))) : W p l e R s m args below meth c H locs cells slots Q (F0 m pc ls st) :=
  va_calli (va_runV (As := As) (rest := rest) S (hM H.size) cw ⟨mm_blind, mm_recv hK hV hbL hbe hc, mm_start hK hV⟩ rfl hn hsz hst (lv_room hW) hdg hf) hV.2.2.2.1 (fun q _ h => mm_A0 hV q h) (mm_A0 hV) (fun r u t H1 locs1 ht _ hw hB _ _ hS => kk r u.1 u.2 H1 locs1 hw (mm_after hV ht hB hS))
theorem mm_Vv {post : List Nat → mm_M → Prop} {ci : Nat} {fs : List Value} {T : u_T} {N : Nat} (S : CallFix p m c cc nL s args Ts own) (hK : mm_K D dA s) (hV : mm_V A D L M s H locs) (hM : mm_Cv l D dA y ws k2 mc ms (.ref b :: As) L M post) (cw : CallW R s args own C index y bytes maxL ret ws (mm_rm k2 mc ms) mc ms n) (hbL : b ∈ L) (hbe : M b = .inr (ci, fs)) (hc : vwCl[ci]? = some (C, T, N)) (hn : As.length = n) (hsz : ls.size = nL) (hst : st = As.reverse ++ .ref b :: rest) (hW : (rest.map fun v => v.category).sum ≤ 8) (hdg : decode cc pc = .ok (.invokevirtual index, 3)) (hf : cells + mc ≤ R.cells ∧ slots + ms ≤ R.slots)
    (kk : ∀ (L1 : List Nat) (M1 : mm_M) (H1 : Heap) (locs1 : List Loc), post L1 M1 → mm_V A D L1 M1 s H1 locs1 → W p l e R s m args below meth c H1 locs1 (cells + mc) (slots + ms) Q (F0 m (pc + 3) ls rest)) : W p l e R s m args below meth c H locs cells slots Q (F0 m pc ls st) :=
  va_callv (va_runV (As := As) (rest := rest) S (hM H.size) cw ⟨mm_blind, mm_recv hK hV hbL hbe hc, mm_start hK hV⟩ rfl hn hsz hst (lv_room hW) hdg hf) hV.2.2.2.1 (fun q _ h => mm_A0 hV q h) (mm_A0 hV) (fun u t H1 locs1 ht _ hw hB _ _ hS => kk u.1 u.2 H1 locs1 hw (mm_after hV ht hB hS))
theorem mm_Si {post : Int32 → List Nat → mm_M → Prop} (S : CallFix p m c cc nL s args Ts own) (hK : mm_K D dA s) (hV : mm_V A D L M s H locs) (hM : mm_Ci l D dA y ws k2 mc ms As L M post) (cw : CallB R s args own index y bytes maxL ret ws (mm_rm k2 mc ms) mc ms n ∧ (Cond.static y).before args s = true) (hn : As.length = n) (hsz : ls.size = nL) (hst : st = As.reverse ++ rest) (hW : (rest.map fun v => v.category).sum ≤ 8) (hdg : decode cc pc = .ok (.invokestatic index, 3)) (hf : cells + mc ≤ R.cells ∧ slots + ms ≤ R.slots)
    (kk : ∀ (r : Int32) (L1 : List Nat) (M1 : mm_M) (H1 : Heap) (locs1 : List Loc), post r L1 M1 → mm_V A D L1 M1 s H1 locs1 → W p l e R s m args below meth c H1 locs1 (cells + mc) (slots + ms) Q (F0 m (pc + 3) ls (.int r :: rest))) : W p l e R s m args below meth c H locs cells slots Q (F0 m pc ls st) :=
  va_calli (va_runS (As := As) (rest := rest) S (hM H.size) cw ⟨mm_blind, mm_start hK hV⟩ rfl hn hsz hst (lv_room hW) hdg hf) hV.2.2.2.1 (fun q _ h => mm_A0 hV q h) (mm_A0 hV) (fun r u t H1 locs1 ht _ hw hB _ _ hS => kk r u.1 u.2 H1 locs1 hw (mm_after hV ht hB hS))
/-- a constructor; and a nest mate's private one -/
theorem mm_Iv {post : List Nat → mm_M → Prop} (S : CallFix p m c cc nL s args Ts own) (hK : mm_K D dA s) (hV : mm_V A D L M s H locs) (hM : mm_Cv l D dA y ws k2 mc ms (.ref b :: As) L M post) (cw : CallB R s args own index y bytes maxL none ws (mm_rm k2 mc ms) mc ms n ∧ y.name = "<init>" ∧ (Cond.instanceMethod y).before args s = true) (hn : As.length = n) (hsz : ls.size = nL) (hst : st = As.reverse ++ .ref b :: rest) (hW : (rest.map fun v => v.category).sum ≤ 8) (hdg : decode cc pc = .ok (.invokespecial index, 3)) (hf : cells + mc ≤ R.cells ∧ slots + ms ≤ R.slots)
    (kk : ∀ (L1 : List Nat) (M1 : mm_M) (H1 : Heap) (locs1 : List Loc), post L1 M1 → mm_V A D L1 M1 s H1 locs1 → W p l e R s m args below meth c H1 locs1 (cells + mc) (slots + ms) Q (F0 m (pc + 3) ls rest)) : W p l e R s m args below meth c H locs cells slots Q (F0 m pc ls st) :=
  va_callv (va_runI (As := As) (rest := rest) S (hM H.size) cw ⟨mm_blind, mm_start hK hV⟩ rfl hn hsz hst (lv_room hW) hdg hf) hV.2.2.2.1 (fun q _ h => mm_A0 hV q h) (mm_A0 hV) (fun u t H1 locs1 ht _ hw hB _ _ hS => kk u.1 u.2 H1 locs1 hw (mm_after hV ht hB hS))
theorem mm_INv {host : String} {post : List Nat → mm_M → Prop} (S : CallFix p m c cc nL s args Ts own) (hK : mm_K D dA s) (hV : mm_V A D L M s H locs) (hM : mm_Cv l D dA y ws k2 mc ms (.ref b :: As) L M post) (cw : va_CN R s args own index y host bytes maxL none ws (mm_rm k2 mc ms) mc ms n ∧ y.name = "<init>" ∧ (Cond.instanceMethod y).before args s = true) (hn : As.length = n) (hsz : ls.size = nL) (hst : st = As.reverse ++ .ref b :: rest) (hW : (rest.map fun v => v.category).sum ≤ 8) (hdg : decode cc pc = .ok (.invokespecial index, 3)) (hf : cells + mc ≤ R.cells ∧ slots + ms ≤ R.slots)
    (kk : ∀ (L1 : List Nat) (M1 : mm_M) (H1 : Heap) (locs1 : List Loc), post L1 M1 → mm_V A D L1 M1 s H1 locs1 → W p l e R s m args below meth c H1 locs1 (cells + mc) (slots + ms) Q (F0 m (pc + 3) ls rest)) : W p l e R s m args below meth c H locs cells slots Q (F0 m pc ls st) :=
  va_callv (va_runIN (As := As) (rest := rest) S (hM H.size) cw ⟨mm_blind, mm_start hK hV⟩ rfl hn hsz hst (lv_room hW) hdg hf) hV.2.2.2.1 (fun q _ h => mm_A0 hV q h) (mm_A0 hV) (fun u t H1 locs1 ht _ hw hB _ _ hS => kk u.1 u.2 H1 locs1 hw (mm_after hV ht hB hS))
/-- returns -/
theorem mm_ret_i {post : Int32 → List Nat → mm_M → Prop} {v : Int32} (hexec : p.tables.exec = Jvm.exec) (hb : c.code = cc) (hr : meth.sig.returnType = some .int) (hlocks : meth.locks = false) (hV : mm_V A D L M s H locs) (hc : cells ≤ mc) (hs : slots ≤ ms) (hdg : decode cc pc = .ok (.ireturn, 1)) (hp : post v L M) : W p l e R s m args below meth c H locs cells slots (MQ below (mm_Qi D A post) args s mc ms A) (F0 m pc ls [.int v]) :=
  W.widen hc hs (W.iret (v := v) hexec hb hr (fun t ht _ => ⟨⟨v, (L, M), rfl, hp, by rw [ht]; exact hV.1, hV.2.1, hV.2.2.1⟩, hV.2.2.2.1.F ht⟩) hV.2.2.2.1.2.2 hdg hlocks)
theorem mm_ret_z {post : Int32 → List Nat → mm_M → Prop} {v : Int32} (hexec : p.tables.exec = Jvm.exec) (hb : c.code = cc) (hr : meth.sig.returnType = some .boolean) (hlocks : meth.locks = false) (hV : mm_V A D L M s H locs) (hc : cells ≤ mc) (hs : slots ≤ ms) (hdg : decode cc pc = .ok (.ireturn, 1)) (hz : v = 0 ∨ v = 1) (hp : post v L M) : W p l e R s m args below meth c H locs cells slots (MQ below (mm_Qi D A post) args s mc ms A) (F0 m pc ls [.int v]) :=
  W.widen hc hs (W.zret (v := v) hexec hb hr (by rcases hz with rfl | rfl <;> rfl) (fun t ht _ => ⟨⟨v, (L, M), rfl, hp, by rw [ht]; exact hV.1, hV.2.1, hV.2.2.1⟩, hV.2.2.2.1.F ht⟩) hV.2.2.2.1.2.2 hdg hlocks)
theorem mm_ret_v {post : List Nat → mm_M → Prop} (hexec : p.tables.exec = Jvm.exec) (hb : c.code = cc) (hr : meth.sig.returnType = none) (hlocks : meth.locks = false) (hV : mm_V A D L M s H locs) (hc : cells ≤ mc) (hs : slots ≤ ms) (hdg : decode cc pc = .ok (.return_, 1)) (hp : post L M) : W p l e R s m args below meth c H locs cells slots (MQ below (mm_Qv D A post) args s mc ms A) (F0 m pc ls []) :=
  W.widen hc hs (W.vret hexec hb hr (fun t ht _ => ⟨⟨(L, M), rfl, hp, by rw [ht]; exact hV.1, hV.2.1, hV.2.2.1⟩, hV.2.2.2.1.F ht⟩) hV.2.2.2.1.2.2 hdg hlocks)
end MMC
theorem mm_enter_i {l : Launch} {D : va_G} {dA : Nat → ClassId} {y : MethodName} {ws ws' : List Cond} {k mc ms : Nat} {av : List Value} {L : List Nat} {M : mm_M} {post : Int32 → List Nat → mm_M → Prop} {cc : ByteArray} {maxL : Nat}
    (hy : plainName y.cls = true) (hw : ws = Cond.code y cc maxL (some .int) :: ws') (hlen : (lg_sl av).length ≤ maxL)
    (body : ∀ (p : Program) (e : Env) (R : Room) (s : State) (m : MethodId) (args : Array Value) (below : List Frame) (meth : Method) (c : Code) (A : Nat → Prop) (ls : Array Slot) (H : Heap) (locs : List Loc) (Q : State → Prop), R = mm_rm k mc ms → p.tables.exec = Jvm.exec → c.code = cc → c.maxLocals = maxL → meth.name = y.name → s.vm.findClass y.cls = some m.cls → (∀ w ∈ ws, w.before args s = true) → mm_K D dA s → mm_V A D L M s H locs → lv_has ls maxL (lv_args 0 av) →
      (∀ {pc : Nat} {ls : Array Slot} {H : Heap} {locs : List Loc} {L1 : List Nat} {M1 : mm_M} {cells slots : Nat} {v : Int32}, decode cc pc = .ok (.ireturn, 1) → mm_V A D L1 M1 s H locs → cells ≤ mc → slots ≤ ms → post v L1 M1 → W p l e R s m args below meth c H locs cells slots Q (F0 m pc ls [.int v])) →
      W p l e R s m args below meth c H locs 0 0 Q (F0 m 0 ls [])) : mm_Ci l D dA y ws k mc ms av L M post := by
  intro sz
  refine Met.ofW (cc := cc) (maxL := maxL) (ret := (some .int)) hy hw ?_
  intro p e s m args below meth c s₁ B hml hv
  obtain ⟨rfl, rfl, hP, hN, hK⟩ := hv
  have hl := lv_entry av (n := maxL) hlen
  rw [lg_entry_eq]
  refine body p e _ s m _ below meth c (mm_A L s.heap.size) _ _ _ _ rfl B.exec B.bytes hml (name_of_methodNamed B.named B.method).1 (findClass_of_methodNamed B.named) (atoms_spec (ws := ws) B.pre) hK ⟨hP, hN, fun a h => Or.inl h, va_S.rf, fun q h => Or.inr h⟩ hl ?_
  intro pc ls H locs L1 M1 cells slots v hdg hV hc hs hp
  exact mm_ret_i (post := post) B.exec B.bytes B.returns B.notSynchronized hV hc hs hdg hp
theorem mm_enter_z {l : Launch} {D : va_G} {dA : Nat → ClassId} {y : MethodName} {ws ws' : List Cond} {k mc ms : Nat} {av : List Value} {L : List Nat} {M : mm_M} {post : Int32 → List Nat → mm_M → Prop} {cc : ByteArray} {maxL : Nat}
    (hy : plainName y.cls = true) (hw : ws = Cond.code y cc maxL (some .boolean) :: ws') (hlen : (lg_sl av).length ≤ maxL)
    (body : ∀ (p : Program) (e : Env) (R : Room) (s : State) (m : MethodId) (args : Array Value) (below : List Frame) (meth : Method) (c : Code) (A : Nat → Prop) (ls : Array Slot) (H : Heap) (locs : List Loc) (Q : State → Prop), R = mm_rm k mc ms → p.tables.exec = Jvm.exec → c.code = cc → c.maxLocals = maxL → meth.name = y.name → s.vm.findClass y.cls = some m.cls → (∀ w ∈ ws, w.before args s = true) → mm_K D dA s → mm_V A D L M s H locs → lv_has ls maxL (lv_args 0 av) →
      (∀ {pc : Nat} {ls : Array Slot} {H : Heap} {locs : List Loc} {L1 : List Nat} {M1 : mm_M} {cells slots : Nat} {v : Int32}, decode cc pc = .ok (.ireturn, 1) → mm_V A D L1 M1 s H locs → cells ≤ mc → slots ≤ ms → (v = 0 ∨ v = 1) → post v L1 M1 → W p l e R s m args below meth c H locs cells slots Q (F0 m pc ls [.int v])) →
      W p l e R s m args below meth c H locs 0 0 Q (F0 m 0 ls [])) : mm_Ci l D dA y ws k mc ms av L M post := by
  intro sz
  refine Met.ofW (cc := cc) (maxL := maxL) (ret := (some .boolean)) hy hw ?_
  intro p e s m args below meth c s₁ B hml hv
  obtain ⟨rfl, rfl, hP, hN, hK⟩ := hv
  have hl := lv_entry av (n := maxL) hlen
  rw [lg_entry_eq]
  refine body p e _ s m _ below meth c (mm_A L s.heap.size) _ _ _ _ rfl B.exec B.bytes hml (name_of_methodNamed B.named B.method).1 (findClass_of_methodNamed B.named) (atoms_spec (ws := ws) B.pre) hK ⟨hP, hN, fun a h => Or.inl h, va_S.rf, fun q h => Or.inr h⟩ hl ?_
  intro pc ls H locs L1 M1 cells slots v hdg hV hc hs hz hp
  exact mm_ret_z (post := post) B.exec B.bytes B.returns B.notSynchronized hV hc hs hdg hz hp
theorem mm_enter_v {l : Launch} {D : va_G} {dA : Nat → ClassId} {y : MethodName} {ws ws' : List Cond} {k mc ms : Nat} {av : List Value} {L : List Nat} {M : mm_M} {post : List Nat → mm_M → Prop} {cc : ByteArray} {maxL : Nat}
    (hy : plainName y.cls = true) (hw : ws = Cond.code y cc maxL none :: ws') (hlen : (lg_sl av).length ≤ maxL)
    (body : ∀ (p : Program) (e : Env) (R : Room) (s : State) (m : MethodId) (args : Array Value) (below : List Frame) (meth : Method) (c : Code) (A : Nat → Prop) (ls : Array Slot) (H : Heap) (locs : List Loc) (Q : State → Prop), R = mm_rm k mc ms → p.tables.exec = Jvm.exec → c.code = cc → c.maxLocals = maxL → meth.name = y.name → s.vm.findClass y.cls = some m.cls → (∀ w ∈ ws, w.before args s = true) → mm_K D dA s → mm_V A D L M s H locs → lv_has ls maxL (lv_args 0 av) →
      (∀ {pc : Nat} {ls : Array Slot} {H : Heap} {locs : List Loc} {L1 : List Nat} {M1 : mm_M} {cells slots : Nat}, decode cc pc = .ok (.return_, 1) → mm_V A D L1 M1 s H locs → cells ≤ mc → slots ≤ ms → post L1 M1 → W p l e R s m args below meth c H locs cells slots Q (F0 m pc ls [])) →
      W p l e R s m args below meth c H locs 0 0 Q (F0 m 0 ls [])) : mm_Cv l D dA y ws k mc ms av L M post := by
  intro sz
  refine Met.ofW (cc := cc) (maxL := maxL) (ret := none) hy hw ?_
  intro p e s m args below meth c s₁ B hml hv
  obtain ⟨rfl, rfl, hP, hN, hK⟩ := hv
  have hl := lv_entry av (n := maxL) hlen
  rw [lg_entry_eq]
  refine body p e _ s m _ below meth c (mm_A L s.heap.size) _ _ _ _ rfl B.exec B.bytes hml (name_of_methodNamed B.named B.method).1 (findClass_of_methodNamed B.named) (atoms_spec (ws := ws) B.pre) hK ⟨hP, hN, fun a h => Or.inl h, va_S.rf, fun q h => Or.inr h⟩ hl ?_
  intro pc ls H locs L1 M1 cells slots hdg hV hc hs hp
  exact mm_ret_v (post := post) B.exec B.bytes B.returns B.notSynchronized hV hc hs hdg hp
theorem mm_levR {R : Room} {k2 k mc ms mc2 ms2 maxL : Nat} (hR : R = mm_rm k mc ms) (h : k2 < k) (hm : maxL ≤ 21) : (mm_rm k2 mc2 ms2).frames + 1 ≤ R.frames ∧ 8 + (maxL + 11) + (mm_rm k2 mc2 ms2).locals ≤ R.locals := by
  subst hR; exact mm_lev h hm
/-- contracts without new cells: a pure answer; an effect; an answer and an effect -/
def mm_Cp (l : Launch) (D : va_G) (dA : Nat → ClassId) (y : MethodName) (ws : List Cond) (k : Nat) (av : List Value) (L : List Nat) (M : mm_M) (v : Int32) : Prop := mm_Ci l D dA y ws k 0 0 av L M (fun r L1 M1 => r = v ∧ L1 = L ∧ M1 = M)
def mm_Cm (l : Launch) (D : va_G) (dA : Nat → ClassId) (y : MethodName) (ws : List Cond) (k : Nat) (av : List Value) (L : List Nat) (M : mm_M) (P : mm_M → Prop) : Prop := mm_Cv l D dA y ws k 0 0 av L M (fun L1 M1 => L1 = L ∧ P M1)
def mm_Cn (l : Launch) (D : va_G) (dA : Nat → ClassId) (y : MethodName) (ws : List Cond) (k : Nat) (av : List Value) (L : List Nat) (M : mm_M) (P : Int32 → mm_M → Prop) : Prop := mm_Ci l D dA y ws k 0 0 av L M (fun r L1 M1 => L1 = L ∧ P r M1)
section MMP
variable {p : Program} {l : Launch} {e : Env} {R : Room} {s : State} {m : MethodId} {args : Array Value} {below : List Frame} {meth : Method} {c : Code} {H : Heap} {locs : List Loc} {cells slots : Nat} {Q : State → Prop}
variable {cc : ByteArray} {pc : Nat} {ls : Array Slot} {rest st : List Value} {D : va_G} {dA : Nat → ClassId} {A : Nat → Prop} {L : List Nat} {M : mm_M}
variable {y : MethodName} {bytes : ByteArray} {maxL nL k2 n index : Nat} {ret : Option FieldType} {ws : List Cond} {Ts : List Cond} {own C : String} {b : Addr} {As : List Value}
theorem mm_Vp {v : Int32} {ci : Nat} {fs : List Value} {T : u_T} {N : Nat} (S : CallFix p m c cc nL s args Ts own) (hK : mm_K D dA s) (hV : mm_V A D L M s H locs) (hM : mm_Cp l D dA y ws k2 (.ref b :: As) L M v) (cw : CallW R s args own C index y bytes maxL ret ws (mm_rm k2 0 0) 0 0 n) (hbL : b ∈ L) (hbe : M b = .inr (ci, fs)) (hc : vwCl[ci]? = some (C, T, N)) (hn : As.length = n) (hsz : ls.size = nL) (hst : st = As.reverse ++ .ref b :: rest) (hW : (rest.map fun v => v.category).sum ≤ 8) (hdg : decode cc pc = .ok (.invokevirtual index, 3)) (hf : cells ≤ R.cells ∧ slots ≤ R.slots)
    (kk : ∀ (H1 : Heap) (locs1 : List Loc), mm_V A D L M s H1 locs1 → W p l e R s m args below meth c H1 locs1 cells slots Q (F0 m (pc + 3) ls (.int v :: rest))) : W p l e R s m args below meth c H locs cells slots Q (F0 m pc ls st) := by
  refine mm_Vi S hK hV hM cw hbL hbe hc hn hsz hst hW hdg hf (fun r L1 M1 H1 locs1 hp hV1 => ?_)
  obtain ⟨rfl, h2, h3⟩ := hp
  rw [h2, h3] at hV1
  exact kk H1 locs1 hV1
theorem mm_Vm {P : mm_M → Prop} {ci : Nat} {fs : List Value} {T : u_T} {N : Nat} (S : CallFix p m c cc nL s args Ts own) (hK : mm_K D dA s) (hV : mm_V A D L M s H locs) (hM : mm_Cm l D dA y ws k2 (.ref b :: As) L M P) (cw : CallW R s args own C index y bytes maxL ret ws (mm_rm k2 0 0) 0 0 n) (hbL : b ∈ L) (hbe : M b = .inr (ci, fs)) (hc : vwCl[ci]? = some (C, T, N)) (hn : As.length = n) (hsz : ls.size = nL) (hst : st = As.reverse ++ .ref b :: rest) (hW : (rest.map fun v => v.category).sum ≤ 8) (hdg : decode cc pc = .ok (.invokevirtual index, 3)) (hf : cells ≤ R.cells ∧ slots ≤ R.slots)
    (kk : ∀ (M1 : mm_M) (H1 : Heap) (locs1 : List Loc), P M1 → mm_V A D L M1 s H1 locs1 → W p l e R s m args below meth c H1 locs1 cells slots Q (F0 m (pc + 3) ls rest)) : W p l e R s m args below meth c H locs cells slots Q (F0 m pc ls st) := by
  refine mm_Vv S hK hV hM cw hbL hbe hc hn hsz hst hW hdg hf (fun L1 M1 H1 locs1 hp hV1 => ?_)
  obtain ⟨h2, h3⟩ := hp
  rw [h2] at hV1
  exact kk M1 H1 locs1 h3 hV1
theorem mm_Vn {P : Int32 → mm_M → Prop} {ci : Nat} {fs : List Value} {T : u_T} {N : Nat} (S : CallFix p m c cc nL s args Ts own) (hK : mm_K D dA s) (hV : mm_V A D L M s H locs) (hM : mm_Cn l D dA y ws k2 (.ref b :: As) L M P) (cw : CallW R s args own C index y bytes maxL ret ws (mm_rm k2 0 0) 0 0 n) (hbL : b ∈ L) (hbe : M b = .inr (ci, fs)) (hc : vwCl[ci]? = some (C, T, N)) (hn : As.length = n) (hsz : ls.size = nL) (hst : st = As.reverse ++ .ref b :: rest) (hW : (rest.map fun v => v.category).sum ≤ 8) (hdg : decode cc pc = .ok (.invokevirtual index, 3)) (hf : cells ≤ R.cells ∧ slots ≤ R.slots)
    (kk : ∀ (r : Int32) (M1 : mm_M) (H1 : Heap) (locs1 : List Loc), P r M1 → mm_V A D L M1 s H1 locs1 → W p l e R s m args below meth c H1 locs1 cells slots Q (F0 m (pc + 3) ls (.int r :: rest))) : W p l e R s m args below meth c H locs cells slots Q (F0 m pc ls st) := by
  refine mm_Vi S hK hV hM cw hbL hbe hc hn hsz hst hW hdg hf (fun r L1 M1 H1 locs1 hp hV1 => ?_)
  obtain ⟨h2, h3⟩ := hp
  rw [h2] at hV1
  exact kk r M1 H1 locs1 h3 hV1
theorem mm_Sp {v : Int32} (S : CallFix p m c cc nL s args Ts own) (hK : mm_K D dA s) (hV : mm_V A D L M s H locs) (hM : mm_Cp l D dA y ws k2 As L M v) (cw : CallB R s args own index y bytes maxL ret ws (mm_rm k2 0 0) 0 0 n ∧ (Cond.static y).before args s = true) (hn : As.length = n) (hsz : ls.size = nL) (hst : st = As.reverse ++ rest) (hW : (rest.map fun v => v.category).sum ≤ 8) (hdg : decode cc pc = .ok (.invokestatic index, 3)) (hf : cells ≤ R.cells ∧ slots ≤ R.slots)
    (kk : ∀ (H1 : Heap) (locs1 : List Loc), mm_V A D L M s H1 locs1 → W p l e R s m args below meth c H1 locs1 cells slots Q (F0 m (pc + 3) ls (.int v :: rest))) : W p l e R s m args below meth c H locs cells slots Q (F0 m pc ls st) := by
  refine mm_Si S hK hV hM cw hn hsz hst hW hdg hf (fun r L1 M1 H1 locs1 hp hV1 => ?_)
  obtain ⟨rfl, h2, h3⟩ := hp
  rw [h2, h3] at hV1
  exact kk H1 locs1 hV1
theorem mm_Sn {P : Int32 → mm_M → Prop} (S : CallFix p m c cc nL s args Ts own) (hK : mm_K D dA s) (hV : mm_V A D L M s H locs) (hM : mm_Cn l D dA y ws k2 As L M P) (cw : CallB R s args own index y bytes maxL ret ws (mm_rm k2 0 0) 0 0 n ∧ (Cond.static y).before args s = true) (hn : As.length = n) (hsz : ls.size = nL) (hst : st = As.reverse ++ rest) (hW : (rest.map fun v => v.category).sum ≤ 8) (hdg : decode cc pc = .ok (.invokestatic index, 3)) (hf : cells ≤ R.cells ∧ slots ≤ R.slots)
    (kk : ∀ (r : Int32) (M1 : mm_M) (H1 : Heap) (locs1 : List Loc), P r M1 → mm_V A D L M1 s H1 locs1 → W p l e R s m args below meth c H1 locs1 cells slots Q (F0 m (pc + 3) ls (.int r :: rest))) : W p l e R s m args below meth c H locs cells slots Q (F0 m pc ls st) := by
  refine mm_Si S hK hV hM cw hn hsz hst hW hdg hf (fun r L1 M1 H1 locs1 hp hV1 => ?_)
  obtain ⟨h2, h3⟩ := hp
  rw [h2] at hV1
  exact kk r M1 H1 locs1 h3 hV1
end MMP
