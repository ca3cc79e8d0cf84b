/-! contracts and calls -/
/-- a contract: wherever Sp asks for K, the method comes to its end with K -/
def CT (s0 : State) (D : va_G) (ids : Nat → ClassId) (l : Launch) (y : MethodName) (cc : ByteArray) (nL : Nat) (ret : Option FieldType) (rm : Room) (Sp : Spt) : Prop :=
  ∀ (as : List Value) (z : Nat) (f : Fm) (K : Kr), Sp as z f K → Met l y (.code y cc nL ret :: bigW) rm (fun v U => v = as.toArray ∧ s0.WarmedH U.vm ∧ enW s0 D ids z f U.heap) (enQ s0 D ids K) rm.cells rm.slots (fun q => s0.heap.size ≤ q)
section EC
variable {s0 : State} {D : va_G} {ids : Nat → ClassId} {l : Launch} {own : String} {cc : ByteArray} {nL : Nat} {ret : Option FieldType} {nm : String} {rm : Room} {K : Kr} {E : Ej} {pc : Nat} {k : Xf}
theorem en_blind {as : List Value} {z : Nat} {f : Fm} : FrameBlind (fun v U => v = as.toArray ∧ s0.WarmedH U.vm ∧ enW s0 D ids z f U.heap) := fun a U g mk q => ⟨q.1, q.2.1, q.2.2⟩
theorem en_run {p : Program} {e : Env} {s : State} {m : MethodId} {args : Array Value} {below : List Frame} {meth : Method} {c : Code} {H : Heap} {locs : List Loc} {cells slots mc ms : Nat} {A : Array Slot} {st0 rest : List Value} {a : Array Value} {K' : Kr} {Q : State → Prop}
    (hr : va_Run p l e rm s m args below meth c H locs cells slots mc ms (F0 m pc A st0) rest (enQ s0 D ids K' a) (fun q => s0.heap.size ≤ q)) (hL : ∀ q ∈ locs, s0.heap.size ≤ q.base)
    (kk : ∀ (r : Option Value) (z' : Nat) (f' : Fm), K' r z' f' → ∀ (H1 : Heap) (locs1 : List Loc), enW s0 D ids z' f' H1 → (∀ q ∈ locs1, s0.heap.size ≤ q.base) → W p l e rm s m args below meth c H1 locs1 (cells + mc) (slots + ms) Q (F0 m (pc + 3) A (r.toList ++ rest))) : W p l e rm s m args below meth c H locs cells slots Q (F0 m pc A st0) := by
  intro T hT X
  obtain ⟨v, st₀, t, T', L, h0, X', hL2, e1, e2, ⟨r, z', f', hv, hK, hW⟩, st⟩ := hr T hT X
  cases hv
  obtain ⟨t2, a1, b1⟩ := kk v z' f' hK T'.heap (locs ++ L) (by rw [e1]; exact hW) (fun q hq => by
    rcases List.mem_append.mp hq with w | w
    · exact hL q w
    · exact hL2 q w) T' rfl X'
  exact ⟨t2, st t2 a1, b1⟩
theorem en_stack {n : Nat} {st : List Value} (h : n ≤ st.length) : st = (st.take n).reverse.reverse ++ st.drop n := by
  rw [List.reverse_reverse, List.take_append_drop]
theorem en_recv {c n : Nat} {st : List Value} {f : Fm} (h : n + 1 ≤ st.length) (hv : recvOk (c + 1) (st.take (n + 1)).reverse f) : ∃ (a : Nat) (As : List Value) (fs : List Value), (st.take (n + 1)).reverse = .ref a :: As ∧ f a = some (.inr (c, fs)) ∧ As.length = n ∧ st = As.reverse ++ .ref a :: st.drop (n + 1) := by
  unfold recvOk at hv
  dsimp only at hv
  generalize hq : (st.take (n + 1)).reverse = as at hv
  have hl : as.length = n + 1 := by rw [← hq]; simp; omega
  match as, hv with
  | [], hv => exact absurd hv id
  | .ref a :: As, hv =>
    dsimp only at hv
    split at hv
    · rename_i ci fs hf
      subst hv
      refine ⟨a, As, fs, rfl, hf, by simpa using hl, ?_⟩
      have h2 := en_stack h
      rw [hq] at h2
      simpa using h2
    · exact absurd hv id
theorem en_at {s : State} {z a ci : Nat} {f : Fm} {H : Heap} {fs : List Value} {C : String} (hS : enS s0 s) (hK : va_K D vwCl (tysL ids) s) (hW : enW s0 D ids z f H) (hf : f a = some (.inr (ci, fs))) (hC : (ci < 12 ∧ ∃ T N, vwCl[ci]? = some (C, T, N)) ∨ (12 ≤ ci ∧ ∃ r, roCl[ci - 12]? = some (C, r))) : ∃ cellB : Cell, H[a]? = some cellB ∧ cellB.vm.isStatics = false ∧ s.vm.findClass C = some cellB.cls := by
  rcases hC with ⟨h1, T, N, h2⟩ | ⟨h1, r, h2⟩
  · obtain ⟨-, hat⟩ := hW.mine hf (by simp [ceOwn, h1])
    exact va_recv hK (va_P1 hat) h2 (q0 := 0) rfl
  · obtain ⟨ho, r1, hr1, ⟨cell, q1, q2, q3, -⟩, -⟩ := hW.ro hf (by simp [ceOwn]; omega)
    have e : r1 = (C, r) := Option.some.inj (hr1.symm.trans h2)
    subst e
    exact ⟨cell, by rw [hW.old ho]; exact q1, q2, by rw [hS.1.alike.findClass]; exact q3⟩
theorem gi_cons {w : Cond} {ws : List Cond} (hw : w ∈ bigW) (h : GoodIn bigW ws) : GoodIn bigW (w :: ws) := fun v hv => by
  rcases List.mem_cons.mp hv with rfl | q
  · exact bg_good _ hw
  · exact h v q
theorem sd_callV (X : EnX s0 D ids l own cc nL ret nm rm K E) {y : MethodName} {bytes : ByteArray} {maxL : Nat} {ret' : Option FieldType} {rm' : Room} {Sp : Spt} {index ci n : Nat} {C : String} (hM : CT s0 D ids l y bytes maxL ret' rm' Sp) (hd : decode cc pc = .ok (.invokevirtual index, 3))
    (hcode : Cond.code y bytes maxL ret' ∈ bigW) (hlink : Cond.methodLink own index y ∈ bigW) (hinst : Cond.instanceMethod y ∈ bigW) (hsel : Cond.selects C y y ∈ bigW) (hini : Cond.initialized C ∈ bigW)
    (hy : y.cls = C ∧ y.cls ≠ "java/lang/invoke/MethodHandle" ∧ y.cls ≠ "java/lang/invoke/VarHandle" ∧ (parseMethodDescriptor y.desc).map (fun d => d.parameters.length) = some n) (hC : (ci < 12 ∧ ∃ T N, vwCl[ci]? = some (C, T, N)) ∨ (12 ≤ ci ∧ ∃ r, roCl[ci - 12]? = some (C, r)))
    (hR : rm'.frames + 1 ≤ rm.frames ∧ 8 + (maxL + 11) + rm'.locals ≤ rm.locals) (hk : Sd E K (pc + 3) k) : Sd E K pc (xcall (n + 1) (ci + 1) Sp rm'.cells rm'.slots k) := by
  obtain ⟨p, e, s, m, args, below, meth, c, ⟨hx, hb, hml, hown, hts⟩, hr, hlk, hnm, hS, hK, rfl⟩ := X
  intro ls st z f h H locs A hA hn hW hL h1 h2
  obtain ⟨b1, b2, b3, b4, b5, h⟩ := h
  obtain ⟨a, As, fs, ea, hf, hAs, est⟩ := en_recv b1 b5
  rw [ea] at h
  have hc2 : ((st.drop (n + 1)).map fun v => v.category).sum ≤ 8 := b2
  refine en_run (va_runV (As := As) (rest := st.drop (n + 1)) ⟨hx, hb, hml, hown, hts⟩ (hM _ _ _ _ h) (cwV n hts (gi_cons hlink (gi_cons hinst (gi_cons hsel (gi_cons hini (bg_code hcode))))) rfl rfl rfl hy hR) ⟨en_blind, en_at hS hK hW hf hC, fun U hU hWU => ⟨rfl, hS.1.trans hWU, by rw [hU]; exact hW⟩⟩ rfl hAs (hA.1.trans hn) est (lv_room hc2) hd ⟨by omega, by omega⟩) hL fun r z' f' hKr H1 locs1 hW1 hL1 => ?_
  exact W.cs (by dsimp only; omega) (by dsimp only; omega) (hk ls _ _ f' hKr H1 locs1 A hA hn hW1 hL1 (by dsimp only; omega) (by dsimp only; omega))
theorem sd_callS (X : EnX s0 D ids l own cc nL ret nm rm K E) {y : MethodName} {bytes : ByteArray} {maxL : Nat} {ret' : Option FieldType} {rm' : Room} {Sp : Spt} {index n : Nat} (hM : CT s0 D ids l y bytes maxL ret' rm' Sp) (hd : decode cc pc = .ok (.invokestatic index, 3))
    (hcode : Cond.code y bytes maxL ret' ∈ bigW) (hlink : Cond.methodLink own index y ∈ bigW) (hst : Cond.static y ∈ bigW) (hini : Cond.initialized y.cls ∈ bigW)
    (hy : y.cls ≠ "java/lang/invoke/MethodHandle" ∧ y.cls ≠ "java/lang/invoke/VarHandle" ∧ (parseMethodDescriptor y.desc).map (fun d => d.parameters.length) = some n)
    (hR : rm'.frames + 1 ≤ rm.frames ∧ 8 + (maxL + 11) + rm'.locals ≤ rm.locals) (hk : Sd E K (pc + 3) k) : Sd E K pc (xcall n 0 Sp rm'.cells rm'.slots k) := by
  obtain ⟨p, e, s, m, args, below, meth, c, ⟨hx, hb, hml, hown, hts⟩, hr, hlk, hnm, hS, hK, rfl⟩ := X
  intro ls st z f h H locs A hA hn hW hL h1 h2
  obtain ⟨b1, b2, b3, b4, b5, h⟩ := h
  have hc2 : ((st.drop n).map fun v => v.category).sum ≤ 8 := b2
  refine en_run (va_runS (As := (st.take n).reverse) (rest := st.drop n) ⟨hx, hb, hml, hown, hts⟩ (hM _ _ _ _ h) (va_cwS n hts (gi_cons hlink (gi_cons hst (gi_cons hini (bg_code hcode)))) rfl rfl rfl hy hR) ⟨en_blind, fun U hU hWU => ⟨rfl, hS.1.trans hWU, by rw [hU]; exact hW⟩⟩ rfl (by simp; omega) (hA.1.trans hn) (en_stack b1) (lv_room hc2) hd ⟨by omega, by omega⟩) hL fun r z' f' hKr H1 locs1 hW1 hL1 => ?_
  exact W.cs (by dsimp only; omega) (by dsimp only; omega) (hk ls _ _ f' hKr H1 locs1 A hA hn hW1 hL1 (by dsimp only; omega) (by dsimp only; omega))
theorem sd_callSN (X : EnX s0 D ids l own cc nL ret nm rm K E) {y : MethodName} {host : String} {bytes : ByteArray} {maxL : Nat} {ret' : Option FieldType} {rm' : Room} {Sp : Spt} {index n : Nat} (hM : CT s0 D ids l y bytes maxL ret' rm' Sp) (hd : decode cc pc = .ok (.invokestatic index, 3))
    (hcode : Cond.code y bytes maxL ret' ∈ bigW) (hlink : va_Nw (.methodLinkNest own index y host) s0) (hst : Cond.static y ∈ bigW) (hini : Cond.initialized y.cls ∈ bigW)
    (hy : y.cls ≠ "java/lang/invoke/MethodHandle" ∧ y.cls ≠ "java/lang/invoke/VarHandle" ∧ (parseMethodDescriptor y.desc).map (fun d => d.parameters.length) = some n)
    (hR : rm'.frames + 1 ≤ rm.frames ∧ 8 + (maxL + 11) + rm'.locals ≤ rm.locals) (hk : Sd E K (pc + 3) k) : Sd E K pc (xcall n 0 Sp rm'.cells rm'.slots k) := by
  obtain ⟨p, e, s, m, args, below, meth, c, ⟨hx, hb, hml, hown, hts⟩, hr, hlk, hnm, hS, hK, rfl⟩ := X
  intro ls st z f h H locs A hA hn hW hL h1 h2
  obtain ⟨b1, b2, b3, b4, b5, h⟩ := h
  have hc2 : ((st.drop n).map fun v => v.category).sum ≤ 8 := b2
  refine en_run (va_runSN (As := (st.take n).reverse) (rest := st.drop n) ⟨hx, hb, hml, hown, hts⟩ (hM _ _ _ _ h) ⟨va_cnB n hts (bg_code hcode) rfl rfl rfl (va_Nw.warmM hS.1 hlink) (hts _ hini) hy hR, hts _ hst, trivial⟩ ⟨en_blind, fun U hU hWU => ⟨rfl, hS.1.trans hWU, by rw [hU]; exact hW⟩⟩ rfl (by simp; omega) (hA.1.trans hn) (en_stack b1) (lv_room hc2) hd ⟨by omega, by omega⟩) hL fun r z' f' hKr H1 locs1 hW1 hL1 => ?_
  exact W.cs (by dsimp only; omega) (by dsimp only; omega) (hk ls _ _ f' hKr H1 locs1 A hA hn hW1 hL1 (by dsimp only; omega) (by dsimp only; omega))
theorem sd_callI (X : EnX s0 D ids l own cc nL ret nm rm K E) {y : MethodName} {bytes : ByteArray} {maxL : Nat} {rm' : Room} {Sp : Spt} {index ci n : Nat} (hM : CT s0 D ids l y bytes maxL none rm' Sp) (hd : decode cc pc = .ok (.invokespecial index, 3))
    (hcode : Cond.code y bytes maxL none ∈ bigW) (hlink : Cond.methodLink own index y ∈ bigW) (hinst : Cond.instanceMethod y ∈ bigW) (hini : Cond.initialized y.cls ∈ bigW) (hy1 : y.name = "<init>")
    (hy : y.cls ≠ "java/lang/invoke/MethodHandle" ∧ y.cls ≠ "java/lang/invoke/VarHandle" ∧ (parseMethodDescriptor y.desc).map (fun d => d.parameters.length) = some n)
    (hR : rm'.frames + 1 ≤ rm.frames ∧ 8 + (maxL + 11) + rm'.locals ≤ rm.locals) (hk : Sd E K (pc + 3) k) : Sd E K pc (xcall (n + 1) (ci + 1) Sp rm'.cells rm'.slots k) := by
  obtain ⟨p, e, s, m, args, below, meth, c, ⟨hx, hb, hml, hown, hts⟩, hr, hlk, hnm, hS, hK, rfl⟩ := X
  intro ls st z f h H locs A hA hn hW hL h1 h2
  obtain ⟨b1, b2, b3, b4, b5, h⟩ := h
  obtain ⟨a, As, fs, ea, hf, hAs, est⟩ := en_recv b1 b5
  rw [ea] at h
  have hc2 : ((st.drop (n + 1)).map fun v => v.category).sum ≤ 8 := b2
  refine en_run (va_runI (As := As) (rest := st.drop (n + 1)) ⟨hx, hb, hml, hown, hts⟩ (hM _ _ _ _ h) (cwI n hts (bg_code hcode) rfl rfl rfl (hts _ hini) (hts _ hlink) (hts _ hinst) hy1 hy hR) ⟨en_blind, fun U hU hWU => ⟨rfl, hS.1.trans hWU, by rw [hU]; exact hW⟩⟩ rfl hAs (hA.1.trans hn) est (lv_room hc2) hd ⟨by omega, by omega⟩) hL fun r z' f' hKr H1 locs1 hW1 hL1 => ?_
  exact W.cs (by dsimp only; omega) (by dsimp only; omega) (hk ls _ _ f' hKr H1 locs1 A hA hn hW1 hL1 (by dsimp only; omega) (by dsimp only; omega))
theorem sd_callIN (X : EnX s0 D ids l own cc nL ret nm rm K E) {y : MethodName} {host : String} {bytes : ByteArray} {maxL : Nat} {rm' : Room} {Sp : Spt} {index ci n : Nat} (hM : CT s0 D ids l y bytes maxL none rm' Sp) (hd : decode cc pc = .ok (.invokespecial index, 3))
    (hcode : Cond.code y bytes maxL none ∈ bigW) (hlink : va_Nw (.methodLinkNest own index y host) s0) (hinst : Cond.instanceMethod y ∈ bigW) (hini : Cond.initialized y.cls ∈ bigW) (hy1 : y.name = "<init>")
    (hy : y.cls ≠ "java/lang/invoke/MethodHandle" ∧ y.cls ≠ "java/lang/invoke/VarHandle" ∧ (parseMethodDescriptor y.desc).map (fun d => d.parameters.length) = some n)
    (hR : rm'.frames + 1 ≤ rm.frames ∧ 8 + (maxL + 11) + rm'.locals ≤ rm.locals) (hk : Sd E K (pc + 3) k) : Sd E K pc (xcall (n + 1) (ci + 1) Sp rm'.cells rm'.slots k) := by
  obtain ⟨p, e, s, m, args, below, meth, c, ⟨hx, hb, hml, hown, hts⟩, hr, hlk, hnm, hS, hK, rfl⟩ := X
  intro ls st z f h H locs A hA hn hW hL h1 h2
  obtain ⟨b1, b2, b3, b4, b5, h⟩ := h
  obtain ⟨a, As, fs, ea, hf, hAs, est⟩ := en_recv b1 b5
  rw [ea] at h
  have hc2 : ((st.drop (n + 1)).map fun v => v.category).sum ≤ 8 := b2
  refine en_run (va_runIN (As := As) (rest := st.drop (n + 1)) ⟨hx, hb, hml, hown, hts⟩ (hM _ _ _ _ h) ⟨va_cnB n hts (bg_code hcode) rfl rfl rfl (va_Nw.warmM hS.1 hlink) (hts _ hini) hy hR, hy1, hts _ hinst⟩ ⟨en_blind, fun U hU hWU => ⟨rfl, hS.1.trans hWU, by rw [hU]; exact hW⟩⟩ rfl hAs (hA.1.trans hn) est (lv_room hc2) hd ⟨by omega, by omega⟩) hL fun r z' f' hKr H1 locs1 hW1 hL1 => ?_
  exact W.cs (by dsimp only; omega) (by dsimp only; omega) (hk ls _ _ f' hKr H1 locs1 A hA hn hW1 hL1 (by dsimp only; omega) (by dsimp only; omega))
theorem sd_callU (X : EnX s0 D ids l own cc nL ret nm rm K E) {x y : MethodName} {owner : String} {bytes : ByteArray} {maxL : Nat} {ret' : Option FieldType} {rm' : Room} {Sp : Spt} {index ci n : Nat} {C : String} (hM : CT s0 D ids l y bytes maxL ret' rm' Sp) (hd : decode cc pc = .ok (.invokevirtual index, 3))
    (hcode : Cond.code y bytes maxL ret' ∈ bigW) (hlink : Cond.methodLink own index x ∈ bigW) (hsame : Cond.sameMethod x.cls owner x.name x.desc ∈ bigW) (hsel : Cond.selects C x y ∈ bigW) (hinst : Cond.instanceMethod y ∈ bigW) (hini : Cond.initialized y.cls ∈ bigW) (hyx : y = ⟨owner, x.name, x.desc⟩)
    (hy : owner ≠ "java/lang/invoke/MethodHandle" ∧ owner ≠ "java/lang/invoke/VarHandle" ∧ (parseMethodDescriptor x.desc).map (fun d => d.parameters.length) = some n) (hC : (ci < 12 ∧ ∃ T N, vwCl[ci]? = some (C, T, N)) ∨ (12 ≤ ci ∧ ∃ r, roCl[ci - 12]? = some (C, r)))
    (hR : rm'.frames + 1 ≤ rm.frames ∧ 8 + (maxL + 11) + rm'.locals ≤ rm.locals) (hk : Sd E K (pc + 3) k) : Sd E K pc (xcall (n + 1) (ci + 1) Sp rm'.cells rm'.slots k) := by
  obtain ⟨p, e, s, m, args, below, meth, c, ⟨hx, hb, hml, hown, hts⟩, hr, hlk, hnm, hS, hK, rfl⟩ := X
  intro ls st z f h H locs A hA hn hW hL h1 h2
  obtain ⟨b1, b2, b3, b4, b5, h⟩ := h
  obtain ⟨a, As, fs, ea, hf, hAs, est⟩ := en_recv b1 b5
  rw [ea] at h
  have hc2 : ((st.drop (n + 1)).map fun v => v.category).sum ≤ 8 := b2
  refine en_run (va_runU (As := As) (rest := st.drop (n + 1)) ⟨hx, hb, hml, hown, hts⟩ (hM _ _ _ _ h) (va_cwU n hts (gi_cons hlink (gi_cons hsame (gi_cons hsel (gi_cons hinst (gi_cons hini (bg_code hcode)))))) rfl rfl rfl hyx hy hR) ⟨en_blind, en_at hS hK hW hf hC, fun U hU hWU => ⟨rfl, hS.1.trans hWU, by rw [hU]; exact hW⟩⟩ rfl hAs (hA.1.trans hn) est (lv_room hc2) hd ⟨by omega, by omega⟩) hL fun r z' f' hKr H1 locs1 hW1 hL1 => ?_
  exact W.cs (by dsimp only; omega) (by dsimp only; omega) (hk ls _ _ f' hKr H1 locs1 A hA hn hW1 hL1 (by dsimp only; omega) (by dsimp only; omega))
theorem sd_callSU (X : EnX s0 D ids l own cc nL ret nm rm K E) {y : MethodName} {bytes : ByteArray} {maxL : Nat} {ret' : Option FieldType} {rm' : Room} {Sp : Spt} {index ci n N : Nat} {C : String} {T : u_T} (hM : CT s0 D ids l y bytes maxL ret' rm' Sp) (hd : decode cc pc = .ok (.invokespecial index, 3))
    (hcode : Cond.code y bytes maxL ret' ∈ bigW) (hlink : Cond.methodLink own index y ∈ bigW) (hsame : Cond.sameMethod y.cls y.cls y.name y.desc ∈ bigW) (hsup : Cond.superclass own y.cls ∈ bigW) (hinst : Cond.instanceMethod y ∈ bigW) (hini : Cond.initialized y.cls ∈ bigW)
    (hy : y.name ≠ "<init>" ∧ (parseMethodDescriptor y.desc).map (fun d => d.parameters.length) = some n) (hC : ci < 12 ∧ vwCl[ci]? = some (C, T, N))
    (hR : rm'.frames + 1 ≤ rm.frames ∧ 8 + (maxL + 11) + rm'.locals ≤ rm.locals) (hk : Sd E K (pc + 3) k) : Sd E K pc (xcall (n + 1) (ci + 1) Sp rm'.cells rm'.slots k) := by
  obtain ⟨p, e, s, m, args, below, meth, c, ⟨hx, hb, hml, hown, hts⟩, hr, hlk, hnm, hS, hK, rfl⟩ := X
  intro ls st z f h H locs A hA hn hW hL h1 h2
  obtain ⟨b1, b2, b3, b4, b5, h⟩ := h
  obtain ⟨a, As, fs, ea, hf, hAs, est⟩ := en_recv b1 b5
  rw [ea] at h
  have hc2 : ((st.drop (n + 1)).map fun v => v.category).sum ≤ 8 := b2
  refine en_run (va_runSU (As := As) (rest := st.drop (n + 1)) (hK.1 ci _ hC.2).2 ⟨hx, hb, hml, hown, hts⟩ (hM _ _ _ _ h) (va_cwSU n hts (gi_cons hlink (gi_cons hsame (gi_cons hsup (gi_cons hinst (gi_cons hini (bg_code hcode)))))) rfl rfl rfl hy hR) ⟨en_blind, en_at hS hK hW hf (Or.inl ⟨hC.1, T, N, hC.2⟩), fun U hU hWU => ⟨rfl, hS.1.trans hWU, by rw [hU]; exact hW⟩⟩ rfl hAs (hA.1.trans hn) est (lv_room hc2) hd ⟨by omega, by omega⟩) hL fun r z' f' hKr H1 locs1 hW1 hL1 => ?_
  exact W.cs (by dsimp only; omega) (by dsimp only; omega) (hk ls _ _ f' hKr H1 locs1 A hA hn hW1 hL1 (by dsimp only; omega) (by dsimp only; omega))
end EC
