/-! a private method of a superclass, on a subclass's object -/
theorem jk_sel {C : String} {x y : MethodName} {s : State} {args : Array Value} (hxy : x.cls = y.cls) (hsel : (Cond.selects C x x).before args s = true) (hpriv : (Cond.privateMethod y).before args s = true) (hinst : (Cond.instanceMethod y).before args s = true) (hy : y.cls ≠ "java/lang/invoke/MethodHandle" ∧ y.cls ≠ "java/lang/invoke/VarHandle") : (Cond.selects C y y).before args s = true := by
  obtain ⟨c, r, m, hc, -, hnx, -, kx, hkx, hki⟩ := Cond.selects_spec hsel
  obtain ⟨mk, methM, hnamed, hmethM, -, -⟩ := Cond.instanceMethod_spec hinst
  have hfound := State.methodFound?_of_named hnamed hy
  have hcls : mk.cls = m.cls := Option.some.inj ((findClass_of_methodNamed hnamed).symm.trans (hxy ▸ findClass_of_methodNamed hnx))
  have hs : selectMethod {} s.vm c mk = .method mk := selectMethod_private hmethM (Cond.privateMethod_at hpriv mk methM hnamed hmethM)
  simp only [Cond.before, Cond.holds, Cond.value, hc, hfound, hnamed, hs, hcls, hkx]
  simp
  exact hki
section EP
variable {s0 : State} {D : va_G} {ids : Nat → ClassId} {l : Launch} {own : String} {cc : ByteArray} {nL : Nat} {ret : Option FieldType} {nm : String} {rm : Room} {K : Kr} {E : Ej} {pc : Nat} {k : Xf}
theorem sd_callP (X : EnX s0 D ids l own cc nL ret nm rm K E) {y : MethodName} {bytes : ByteArray} {maxL : Nat} {ret' : Option FieldType} {rm' : Room} {Sp : Spt} {index ci n : Nat} {C : String} (hM : CT s0 D ids l y bytes maxL ret' rm' Sp) (hd : decode cc pc = .ok (.invokevirtual index, 3))
    (hcode : Cond.code y bytes maxL ret' ∈ bigW) (hlink : Cond.methodLink own index y ∈ bigW) (hsame : Cond.sameMethod y.cls y.cls y.name y.desc ∈ bigW) (hsel : (Cond.selects C y y).before #[] s0 = true) (hinst : Cond.instanceMethod y ∈ bigW) (hini : Cond.initialized y.cls ∈ bigW)
    (hy : y.cls ≠ "java/lang/invoke/MethodHandle" ∧ y.cls ≠ "java/lang/invoke/VarHandle" ∧ (parseMethodDescriptor y.desc).map (fun d => d.parameters.length) = some n) (hC : (ci < 12 ∧ ∃ T N, vwCl[ci]? = some (C, T, N)) ∨ (12 ≤ ci ∧ ∃ r, roCl[ci - 12]? = some (C, r)))
    (hR : rm'.frames + 1 ≤ rm.frames ∧ 8 + (maxL + 11) + rm'.locals ≤ rm.locals) (hk : Sd E K (pc + 3) k) : Sd E K pc (xcall (n + 1) (ci + 1) Sp rm'.cells rm'.slots k) := by
  obtain ⟨p, e, s, m, args, below, meth, c, ⟨hx, hb, hml, hown, hts⟩, hr, hlk, hnm, hS, hK, rfl⟩ := X
  intro ls st z f h H locs A hA hn hW hL h1 h2
  obtain ⟨b1, b2, b3, b4, b5, h⟩ := h
  obtain ⟨a, As, fs, ea, hf, hAs, est⟩ := en_recv b1 b5
  rw [ea] at h
  have hc2 : ((st.drop (n + 1)).map fun v => v.category).sum ≤ 8 := b2
  have hG : GoodIn bigW (Cond.code y bytes maxL ret' :: bigW) := bg_code hcode
  have cw : va_CU rm s args own C y.cls index y y bytes maxL ret' (Cond.code y bytes maxL ret' :: bigW) rm' rm'.cells rm'.slots n := by
    refine ⟨⟨rfl, rfl, hR.1, hR.2, pay_in hts hG, List.mem_cons_self⟩, hts _ hcode, hts _ hini, ⟨hy.1, hy.2.1⟩, fun sig h => ?_, hts _ hlink, hts _ hsame, va_Decl.of (hts _ hinst) (hts _ hcode), word_at hS.1 (Or.inl (by first | rfl | simp [Cond.onTables, Cond.keeps, Cond.steady])) hsel, hts _ hinst⟩
    have h2 := hy.2.2
    rw [h] at h2
    exact (Option.some.inj h2).symm
  refine en_run (va_runU (As := As) (rest := st.drop (n + 1)) ⟨hx, hb, hml, hown, hts⟩ (hM _ _ _ _ h) cw ⟨en_blind, en_at hS hK hW hf hC, fun U hU hWU => ⟨rfl, hS.1.trans hWU, by rw [hU]; exact hW⟩⟩ rfl hAs (hA.1.trans hn) est (lv_room hc2) hd ⟨by omega, by omega⟩) hL fun r z' f' hKr H1 locs1 hW1 hL1 => ?_
  exact W.cs (by dsimp only; omega) (by dsimp only; omega) (hk ls _ _ f' hKr H1 locs1 A hA hn hW1 hL1 (by dsimp only; omega) (by dsimp only; omega))
end EP
